def f_X6_thrown (thr : Int32) : Int32 :=
  thr
theorem yd_X6_thrown : yX6_thrown.cls = RX6 ∧ yX6_thrown.cls ≠ "java/lang/invoke/MethodHandle" ∧ yX6_thrown.cls ≠ "java/lang/invoke/VarHandle" ∧ (parseMethodDescriptor yX6_thrown.desc).map (fun d => d.parameters.length) = some 0 := by decide +kernel
set_option maxHeartbeats 4000000 in
set_option maxRecDepth 100000 in
theorem c_X6_thrown (l : Launch) (dC : Nat → ClassId) (dI : Nat → Nat → Nat) (cI cB : ClassId) (h0 h1 h2 h3 h4 : Nat) (states : Int32) (ln : Int32) (thr : Int32) (rd : Int32) (num : Int32) (due : Int32) (hash : Int64) (z : Nat → Int32) (hi : Nat → Int32) (tx : Nat → Int32) (pa : Nat → Int32) : Met l yX6_thrown wsX6_thrown ({ frames := 0, cells := 0, slots := 0, locals := 0 }) (vm_pre [.ref h0] (dC, dI) [(h0, .inr (6, [.ref h1, .int states, .ref h2, .int ln, .ref h3, .int thr, .ref h4, .int rd, .int num, .int due, .long hash])), (h1, .inl (cI, 163, .inl z)), (h2, .inl (cI, 978, .inl hi)), (h3, .inl (cI, 60, .inl tx)), (h4, .inl (cI, 42, .inl pa))] cI cB) (vp_Si (fun r9 : Int32 => r9 = (f_X6_thrown thr))) 0 0 (fun _ => False) := by
  refine Met.ofW (cc := cX6_thrown) (maxL := 1) (ret := (some .int)) (by decide) rfl ?_
  intro p e s m args below meth c s₁ B hml hv
  obtain ⟨rfl, hP, hK, hN⟩ := hv
  have hx := B.exec
  have hb := B.bytes
  have hr := B.returns
  have hts := atoms_spec (ws := wsX6_thrown) B.pre
  have hown : s.vm.findClass RX6 = some m.cls := findClass_of_methodNamed B.named
  have hlocks := B.notSynchronized
  have kw1 := hts (.fieldLink RX6 22 "LapseMandatesModel" "thrown" "I") (List.mem_of_getElem? (i := 1) rfl)
  have iwsX60 : ∀ w ∈ wsX60, w ∈ wsX6_thrown := fun w h => List.mem_cons_of_mem _ (List.mem_append_right _ h)
  generalize hrr : f_X6_thrown thr = rr
  have eF := hrr.symm
  have hl := lv_entry ([.ref h0]) (n := 1) (Nat.le_of_ble_eq_true rfl)
  rw [lg_entry_eq]
  generalize (lg_sl ([.ref h0]) ++ List.replicate (1 - (lg_sl ([.ref h0])).length) Slot.unset).toArray = ls at hl ⊢
  have hl : lv_has ls 1 [(0, .ref h0)] := hl
  refine lv_aload_n hx hb dX6_thrown_0 rfl (lv_at hl 0 rfl) ?_
  refine va_get (D := (dC, dI)) (ci := 6) (v := .int thr) (C := RX6) (T := TX6) (N := 11) hx hb hts iwsX60 hown hK hP 0 rfl rfl 5 (by decide) kw1 (fun _ h9 => h9) rfl dX6_thrown_1 ?_
  have e9 : rr = thr := eF.trans (by rw [f_X6_thrown])
  exact W.iret (v := thr) hx hb hr (fun t ht hW => ⟨_, rfl, e9.symm, ht⟩) (fun _ hq => by cases hq) dX6_thrown_4

def f_X6_within (p1 : Int32) (p2 : Int32) (p3 : Int32) : Bool :=
  if p1 < p2 then
    false
  else
    if p3 < p1 then
      false
    else
      true
theorem yd_X6_within : yX6_within.cls ≠ "java/lang/invoke/MethodHandle" ∧ yX6_within.cls ≠ "java/lang/invoke/VarHandle" ∧ (parseMethodDescriptor yX6_within.desc).map (fun d => d.parameters.length) = some 3 := by decide +kernel
set_option maxHeartbeats 4000000 in
set_option maxRecDepth 100000 in
theorem c_X6_within (l : Launch) (dC : Nat → ClassId) (dI : Nat → Nat → Nat) (cI cB : ClassId) (p1 : Int32) (p2 : Int32) (p3 : Int32) : Met l yX6_within wsX6_within ({ frames := 0, cells := 0, slots := 0, locals := 0 }) (vm_pre [.int p1, .int p2, .int p3] (dC, dI) [] cI cB) (vp_Si (fun r9 : Int32 => r9 = vm_bi (f_X6_within p1 p2 p3))) 0 0 (fun _ => False) := by
  refine Met.ofW (cc := cX6_within) (maxL := 3) (ret := (some .boolean)) (by decide) rfl ?_
  intro p e s m args below meth c s₁ B hml hv
  obtain ⟨rfl, hP, hK, hN⟩ := hv
  have hx := B.exec
  have hb := B.bytes
  have hr := B.returns
  have hts := atoms_spec (ws := wsX6_within) B.pre
  have hown : s.vm.findClass RX6 = some m.cls := findClass_of_methodNamed B.named
  have hlocks := B.notSynchronized
  generalize hrr : f_X6_within p1 p2 p3 = rr
  have eF := hrr.symm
  have hl := lv_entry ([.int p1, .int p2, .int p3]) (n := 3) (Nat.le_of_ble_eq_true rfl)
  rw [lg_entry_eq]
  generalize (lg_sl ([.int p1, .int p2, .int p3]) ++ List.replicate (3 - (lg_sl ([.int p1, .int p2, .int p3])).length) Slot.unset).toArray = ls at hl ⊢
  have hl : lv_has ls 3 [(0, .int p1), (1, .int p2), (2, .int p3)] := hl
  refine lv_iload_n hx hb dX6_within_0 rfl (lv_at hl 0 rfl) ?_
  refine lv_iload_n hx hb dX6_within_1 rfl (lv_at hl 1 rfl) ?_
  refine lv_icmp_lt (tgt := 14) hx hb dX6_within_2 (by decide) (fun c_1 => ?_) (fun c_1 => ?_)
  · refine lv_iconst (v := 0) hx hb dX6_within_14 (by decide) ?_
    have e9 : rr = false := eF.trans (by rw [f_X6_within, if_pos c_1])
    exact W.zret (v := 0) hx hb hr rfl (fun t ht hW => ⟨_, rfl, by rw [e9] <;> rfl, ht⟩) (fun _ hq => by cases hq) dX6_within_15
  · refine lv_iload_n hx hb dX6_within_5 rfl (lv_at hl 0 rfl) ?_
    refine lv_iload_n hx hb dX6_within_6 rfl (lv_at hl 2 rfl) ?_
    refine lv_icmp_gt (tgt := 14) hx hb dX6_within_7 (by decide) (fun c_2 => ?_) (fun c_2 => ?_)
    · refine lv_iconst (v := 0) hx hb dX6_within_14 (by decide) ?_
      have e9 : rr = false := eF.trans (by rw [f_X6_within, if_neg c_1, if_pos c_2])
      exact W.zret (v := 0) hx hb hr rfl (fun t ht hW => ⟨_, rfl, by rw [e9] <;> rfl, ht⟩) (fun _ hq => by cases hq) dX6_within_15
    · refine lv_iconst (v := 1) hx hb dX6_within_10 (by decide) ?_
      refine lv_goto (tgt := 15) hx hb dX6_within_11 (by decide) ?_
      have e9 : rr = true := eF.trans (by rw [f_X6_within, if_neg c_1, if_neg c_2])
      exact W.zret (v := 1) hx hb hr rfl (fun t ht hW => ⟨_, rfl, by rw [e9] <;> rfl, ht⟩) (fun _ hq => by cases hq) dX6_within_15

def f_X6_has (p1 : Int32) (p2 : Int32) : Bool :=
  if ((p1 >>> (p2 &&& 31)) &&& 1) = 1 then
    true
  else
    false
theorem yd_X6_has : yX6_has.cls ≠ "java/lang/invoke/MethodHandle" ∧ yX6_has.cls ≠ "java/lang/invoke/VarHandle" ∧ (parseMethodDescriptor yX6_has.desc).map (fun d => d.parameters.length) = some 2 := by decide +kernel
set_option maxHeartbeats 4000000 in
set_option maxRecDepth 100000 in
theorem c_X6_has (l : Launch) (dC : Nat → ClassId) (dI : Nat → Nat → Nat) (cI cB : ClassId) (p1 : Int32) (p2 : Int32) : Met l yX6_has wsX6_has ({ frames := 0, cells := 0, slots := 0, locals := 0 }) (vm_pre [.int p1, .int p2] (dC, dI) [] cI cB) (vp_Si (fun r9 : Int32 => r9 = vm_bi (f_X6_has p1 p2))) 0 0 (fun _ => False) := by
  refine Met.ofW (cc := cX6_has) (maxL := 2) (ret := (some .boolean)) (by decide) rfl ?_
  intro p e s m args below meth c s₁ B hml hv
  obtain ⟨rfl, hP, hK, hN⟩ := hv
  have hx := B.exec
  have hb := B.bytes
  have hr := B.returns
  have hts := atoms_spec (ws := wsX6_has) B.pre
  have hown : s.vm.findClass RX6 = some m.cls := findClass_of_methodNamed B.named
  have hlocks := B.notSynchronized
  generalize hrr : f_X6_has p1 p2 = rr
  have eF := hrr.symm
  have hl := lv_entry ([.int p1, .int p2]) (n := 2) (Nat.le_of_ble_eq_true rfl)
  rw [lg_entry_eq]
  generalize (lg_sl ([.int p1, .int p2]) ++ List.replicate (2 - (lg_sl ([.int p1, .int p2])).length) Slot.unset).toArray = ls at hl ⊢
  have hl : lv_has ls 2 [(0, .int p1), (1, .int p2)] := hl
  refine lv_iload_n hx hb dX6_has_0 rfl (lv_at hl 0 rfl) ?_
  refine lv_iload_n hx hb dX6_has_1 rfl (lv_at hl 1 rfl) ?_
  refine lv_ishr hx hb dX6_has_2 ?_
  refine lv_iconst (v := 1) hx hb dX6_has_3 (by decide) ?_
  refine lv_iand hx hb dX6_has_4 ?_
  refine lv_iconst (v := 1) hx hb dX6_has_5 (by decide) ?_
  refine lv_icmp_ne (tgt := 13) hx hb dX6_has_6 (by decide) (fun c_1 => ?_) (fun c_1 => ?_)
  · refine lv_iconst (v := 0) hx hb dX6_has_13 (by decide) ?_
    have e9 : rr = false := eF.trans (by rw [f_X6_has, if_neg c_1])
    exact W.zret (v := 0) hx hb hr rfl (fun t ht hW => ⟨_, rfl, by rw [e9] <;> rfl, ht⟩) (fun _ hq => by cases hq) dX6_has_14
  · refine lv_iconst (v := 1) hx hb dX6_has_9 (by decide) ?_
    refine lv_goto (tgt := 14) hx hb dX6_has_10 (by decide) ?_
    have e9 : rr = true := eF.trans (by rw [f_X6_has, if_pos c_1])
    exact W.zret (v := 1) hx hb hr rfl (fun t ht hW => ⟨_, rfl, by rw [e9] <;> rfl, ht⟩) (fun _ hq => by cases hq) dX6_has_14

def f_X6_ones_j4 (p1 : Int32) : Nat → Int32 → Int32 → Int32
  | 0, _, _ => 0
  | n4 + 1, x1_4, x2_4 => if 12 ≤ x2_4 then
      x1_4
    else
      f_X6_ones_j4 p1 n4 (x1_4 + ((p1 >>> (x2_4 &&& 31)) &&& 1)) (x2_4 + 1)
def f_X6_ones (p1 : Int32) : Int32 :=
  f_X6_ones_j4 p1 ((((12 : Int32)).toInt - ((0 : Int32)).toInt).toNat + 1) 0 0
theorem yd_X6_ones : yX6_ones.cls ≠ "java/lang/invoke/MethodHandle" ∧ yX6_ones.cls ≠ "java/lang/invoke/VarHandle" ∧ (parseMethodDescriptor yX6_ones.desc).map (fun d => d.parameters.length) = some 1 := by decide +kernel
set_option maxHeartbeats 4000000 in
set_option maxRecDepth 100000 in
theorem c_X6_ones (l : Launch) (dC : Nat → ClassId) (dI : Nat → Nat → Nat) (cI cB : ClassId) (p1 : Int32) : Met l yX6_ones wsX6_ones ({ frames := 0, cells := 0, slots := 0, locals := 0 }) (vm_pre [.int p1] (dC, dI) [] cI cB) (vp_Si (fun r9 : Int32 => r9 = (f_X6_ones p1))) 0 0 (fun _ => False) := by
  refine Met.ofW (cc := cX6_ones) (maxL := 3) (ret := (some .int)) (by decide) rfl ?_
  intro p e s m args below meth c s₁ B hml hv
  obtain ⟨rfl, hP, hK, hN⟩ := hv
  have hx := B.exec
  have hb := B.bytes
  have hr := B.returns
  have hts := atoms_spec (ws := wsX6_ones) B.pre
  have hown : s.vm.findClass RX6 = some m.cls := findClass_of_methodNamed B.named
  have hlocks := B.notSynchronized
  generalize hrr : f_X6_ones p1 = rr
  have eF := hrr.symm
  have hl := lv_entry ([.int p1]) (n := 3) (Nat.le_of_ble_eq_true rfl)
  rw [lg_entry_eq]
  generalize (lg_sl ([.int p1]) ++ List.replicate (3 - (lg_sl ([.int p1])).length) Slot.unset).toArray = ls at hl ⊢
  have hl : lv_has ls 3 [(0, .int p1)] := hl
  have hJ4 : ∀ (n4 : Nat) (x1_4 : Int32) (x2_4 : Int32), (((12 : Int32)).toInt - (x2_4).toInt).toNat < n4 → 0 ≤ x2_4 → rr = f_X6_ones_j4 p1 n4 x1_4 x2_4 → ∀ (ls : Array Slot), lv_has ls 3 [(0, .int p1), (1, .int x1_4), (2, .int x2_4)] → W p l e (headSpec wsX6_ones ({ frames := 0, cells := 0, slots := 0, locals := 0 })).room s m ([.int p1] : List Value).toArray below meth c s.heap [] 0 0 (MQ below (vp_Si (fun r9 : Int32 => r9 = rr)) ([.int p1] : List Value).toArray s 0 0 (fun _ => False)) (F0 m 4 ls []) := by
    intro n4
    induction n4 with
    | zero =>
      intro x1_4 x2_4 hm4
      exact absurd hm4 (Nat.not_lt_zero _)
    | succ n4 ih4 =>
      intro x1_4 x2_4 hm4 hi4 eF ls hl
      refine lv_iload_n hx hb dX6_ones_4 rfl (lv_at hl 2 rfl) ?_
      refine lv_bipush (v := 12) hx hb dX6_ones_5 (by decide) ?_
      refine lv_icmp_ge (tgt := 24) hx hb dX6_ones_7 (by decide) (fun cL4 => ?_) (fun cL4 => ?_)
      · refine lv_iload_n hx hb dX6_ones_24 rfl (lv_at hl 1 rfl) ?_
        have e9 : rr = x1_4 := eF.trans (by rw [f_X6_ones_j4, if_pos cL4])
        exact W.iret (v := x1_4) hx hb hr (fun t ht hW => ⟨_, rfl, e9.symm, ht⟩) (fun _ hq => by cases hq) dX6_ones_25
      · refine lv_iload_n hx hb dX6_ones_10 rfl (lv_at hl 1 rfl) ?_
        refine lv_iload_n hx hb dX6_ones_11 rfl (lv_at hl 0 rfl) ?_
        refine lv_iload_n hx hb dX6_ones_12 rfl (lv_at hl 2 rfl) ?_
        refine lv_ishr hx hb dX6_ones_13 ?_
        refine lv_iconst (v := 1) hx hb dX6_ones_14 (by decide) ?_
        refine lv_iand hx hb dX6_ones_15 ?_
        refine lv_iadd hx hb dX6_ones_16 ?_
        refine lv_istore_n (lv' := [(1, .int (x1_4 + ((p1 >>> (x2_4 &&& 31)) &&& 1))), (0, .int p1), (2, .int x2_4)]) hx hb dX6_ones_17 rfl hl (by decide) rfl (fun ls hl => ?_)
        refine lv_iinc (v := (x2_4 + 1)) (lv' := [(2, .int (x2_4 + 1)), (1, .int (x1_4 + ((p1 >>> (x2_4 &&& 31)) &&& 1))), (0, .int p1)]) hx hb dX6_ones_18 hl (k := 2) rfl rfl (by decide) rfl (fun ls hl => ?_)
        refine lv_goto (tgt := 4) hx hb dX6_ones_21 (by decide) ?_
        exact ih4 (x1_4 + ((p1 >>> (x2_4 &&& 31)) &&& 1)) (x2_4 + 1) (vm_up (vm_nle cL4) hm4) (vm_nn hi4 (vm_nle cL4)) (eF.trans (by rw [f_X6_ones_j4, if_neg cL4])) ls (lv_sub hl [2, 1, 0] rfl)
  refine lv_iconst (v := 0) hx hb dX6_ones_0 (by decide) ?_
  refine lv_istore_n (lv' := [(1, .int 0), (0, .int p1)]) hx hb dX6_ones_1 rfl hl (by decide) rfl (fun ls hl => ?_)
  refine lv_iconst (v := 0) hx hb dX6_ones_2 (by decide) ?_
  refine lv_istore_n (lv' := [(2, .int 0), (1, .int 0), (0, .int p1)]) hx hb dX6_ones_3 rfl hl (by decide) rfl (fun ls hl => ?_)
  exact hJ4 ((((12 : Int32)).toInt - ((0 : Int32)).toInt).toNat + 1) 0 0 (Nat.lt_succ_self _) (by decide) (eF.trans (by rw [f_X6_ones])) ls (lv_sub hl [2, 1, 0] rfl)

def f_X6_of (z : Nat → Int32) (p1 : Int32) (p2 : Int32) : Int32 :=
  (z (Int32.toNatClampNeg ((19 + (9 * p1)) + p2)))
def o_X6_of (z : Nat → Int32) (p1 : Int32) (p2 : Int32) : Prop :=
  vp_in ((19 + (9 * p1)) + p2) 163 ∧
  (True)
theorem yd_X6_of : yX6_of.cls = RX6 ∧ yX6_of.cls ≠ "java/lang/invoke/MethodHandle" ∧ yX6_of.cls ≠ "java/lang/invoke/VarHandle" ∧ (parseMethodDescriptor yX6_of.desc).map (fun d => d.parameters.length) = some 2 := by decide +kernel
set_option maxHeartbeats 4000000 in
set_option maxRecDepth 100000 in
theorem c_X6_of (l : Launch) (dC : Nat → ClassId) (dI : Nat → Nat → Nat) (cI cB : ClassId) (h0 h1 h2 h3 h4 : Nat) (states : Int32) (ln : Int32) (thr : Int32) (rd : Int32) (num : Int32) (due : Int32) (hash : Int64) (z : Nat → Int32) (hi : Nat → Int32) (tx : Nat → Int32) (pa : Nat → Int32) (p1 : Int32) (p2 : Int32) (eO : o_X6_of z p1 p2) : Met l yX6_of wsX6_of ({ frames := 0, cells := 0, slots := 0, locals := 0 }) (vm_pre [.ref h0, .int p1, .int p2] (dC, dI) [(h0, .inr (6, [.ref h1, .int states, .ref h2, .int ln, .ref h3, .int thr, .ref h4, .int rd, .int num, .int due, .long hash])), (h1, .inl (cI, 163, .inl z)), (h2, .inl (cI, 978, .inl hi)), (h3, .inl (cI, 60, .inl tx)), (h4, .inl (cI, 42, .inl pa))] cI cB) (vp_Si (fun r9 : Int32 => r9 = (f_X6_of z p1 p2))) 0 0 (fun _ => False) := by
  refine Met.ofW (cc := cX6_of) (maxL := 3) (ret := (some .int)) (by decide) rfl ?_
  intro p e s m args below meth c s₁ B hml hv
  obtain ⟨rfl, hP, hK, hN⟩ := hv
  have hx := B.exec
  have hb := B.bytes
  have hr := B.returns
  have hts := atoms_spec (ws := wsX6_of) B.pre
  have hown : s.vm.findClass RX6 = some m.cls := findClass_of_methodNamed B.named
  have hlocks := B.notSynchronized
  have kw1 := hts (.fieldLink RX6 7 "LapseMandatesModel" "z" "[I") (List.mem_of_getElem? (i := 1) rfl)
  have iwsX60 : ∀ w ∈ wsX60, w ∈ wsX6_of := fun w h => List.mem_cons_of_mem _ (List.mem_append_right _ h)
  generalize hrr : f_X6_of z p1 p2 = rr
  have eF := hrr.symm
  have hl := lv_entry ([.ref h0, .int p1, .int p2]) (n := 3) (Nat.le_of_ble_eq_true rfl)
  rw [lg_entry_eq]
  generalize (lg_sl ([.ref h0, .int p1, .int p2]) ++ List.replicate (3 - (lg_sl ([.ref h0, .int p1, .int p2])).length) Slot.unset).toArray = ls at hl ⊢
  have hl : lv_has ls 3 [(0, .ref h0), (1, .int p1), (2, .int p2)] := hl
  rw [o_X6_of] at eO
  refine lv_aload_n hx hb dX6_of_0 rfl (lv_at hl 0 rfl) ?_
  refine va_get (D := (dC, dI)) (ci := 6) (v := .ref h1) (C := RX6) (T := TX6) (N := 11) hx hb hts iwsX60 hown hK hP 0 rfl rfl 0 (by decide) kw1 (fun _ h9 => h9) rfl dX6_of_1 ?_
  refine lv_bipush (v := 19) hx hb dX6_of_4 (by decide) ?_
  refine lv_bipush (v := 9) hx hb dX6_of_6 (by decide) ?_
  refine lv_iload_n hx hb dX6_of_8 rfl (lv_at hl 1 rfl) ?_
  refine lv_imul hx hb dX6_of_9 ?_
  refine lv_iadd hx hb dX6_of_10 ?_
  refine lv_iload_n hx hb dX6_of_11 rfl (lv_at hl 2 rfl) ?_
  refine lv_iadd hx hb dX6_of_12 ?_
  obtain ⟨hv_1, eO⟩ := eO
  refine va_iald hx hb hK hP 1 0 rfl rfl hv_1 dX6_of_13 ?_
  have e9 : rr = (z (Int32.toNatClampNeg ((19 + (9 * p1)) + p2))) := eF.trans (by rw [f_X6_of])
  exact W.iret (v := (z (Int32.toNatClampNeg ((19 + (9 * p1)) + p2)))) hx hb hr (fun t ht hW => ⟨_, rfl, e9.symm, ht⟩) (fun _ hq => by cases hq) dX6_of_14

def f_X6_put (z : Nat → Int32) (p1 : Int32) (p2 : Int32) (p3 : Int32) : (Nat → Int32) :=
  (upd z (Int32.toNatClampNeg ((19 + (9 * p1)) + p2)) p3)
def o_X6_put (z : Nat → Int32) (p1 : Int32) (p2 : Int32) (p3 : Int32) : Prop :=
  vp_in ((19 + (9 * p1)) + p2) 163 ∧
  (True)
theorem yd_X6_put : yX6_put.cls = RX6 ∧ yX6_put.cls ≠ "java/lang/invoke/MethodHandle" ∧ yX6_put.cls ≠ "java/lang/invoke/VarHandle" ∧ (parseMethodDescriptor yX6_put.desc).map (fun d => d.parameters.length) = some 3 := by decide +kernel
set_option maxHeartbeats 4000000 in
set_option maxRecDepth 100000 in
theorem c_X6_put (l : Launch) (dC : Nat → ClassId) (dI : Nat → Nat → Nat) (cI cB : ClassId) (h0 h1 h2 h3 h4 : Nat) (sz : Nat) (states : Int32) (ln : Int32) (thr : Int32) (rd : Int32) (num : Int32) (due : Int32) (hash : Int64) (z : Nat → Int32) (hi : Nat → Int32) (tx : Nat → Int32) (pa : Nat → Int32) (p1 : Int32) (p2 : Int32) (p3 : Int32) (eO : o_X6_put z p1 p2 p3) : Met l yX6_put wsX6_put ({ frames := 0, cells := 0, slots := 0, locals := 0 }) (vm_prw [.ref h0, .int p1, .int p2, .int p3] (dC, dI) [(h0, .inr (6, [.ref h1, .int states, .ref h2, .int ln, .ref h3, .int thr, .ref h4, .int rd, .int num, .int due, .long hash])), (h1, .inl (cI, 163, .inl z)), (h2, .inl (cI, 978, .inl hi)), (h3, .inl (cI, 60, .inl tx)), (h4, .inl (cI, 42, .inl pa))] cI cB sz) (va_Qv (fun _ : Unit => True) (fun _ t => va_P (dC, dI) vwCl [(h0, .inr (6, [.ref h1, .int states, .ref h2, .int ln, .ref h3, .int thr, .ref h4, .int rd, .int num, .int due, .long hash])), (h1, .inl (cI, 163, .inl (f_X6_put z p1 p2 p3))), (h2, .inl (cI, 978, .inl hi)), (h3, .inl (cI, 60, .inl tx)), (h4, .inl (cI, 42, .inl pa))] t.heap) (va_A [(h0, .inr (6, [.ref h1, .int states, .ref h2, .int ln, .ref h3, .int thr, .ref h4, .int rd, .int num, .int due, .long hash])), (h1, .inl (cI, 163, .inl z)), (h2, .inl (cI, 978, .inl hi)), (h3, .inl (cI, 60, .inl tx)), (h4, .inl (cI, 42, .inl pa))] sz)) 0 0 (va_A [(h0, .inr (6, [.ref h1, .int states, .ref h2, .int ln, .ref h3, .int thr, .ref h4, .int rd, .int num, .int due, .long hash])), (h1, .inl (cI, 163, .inl z)), (h2, .inl (cI, 978, .inl hi)), (h3, .inl (cI, 60, .inl tx)), (h4, .inl (cI, 42, .inl pa))] sz) := by
  refine Met.ofW (cc := cX6_put) (maxL := 4) (ret := none) (by decide) rfl ?_
  intro p e s m args below meth c s₁ B hml hv
  obtain ⟨rfl, hsz, hP, hK, hN, hD0⟩ := hv
  have hx := B.exec
  have hb := B.bytes
  have hr := B.returns
  have hts := atoms_spec (ws := wsX6_put) B.pre
  have hown : s.vm.findClass RX6 = some m.cls := findClass_of_methodNamed B.named
  have hlocks := B.notSynchronized
  subst hsz
  have hD := hD0.self (sz := s.heap.size)
  generalize hAe : va_A [(h0, .inr (6, [.ref h1, .int states, .ref h2, .int ln, .ref h3, .int thr, .ref h4, .int rd, .int num, .int due, .long hash])), (h1, .inl (cI, 163, .inl z)), (h2, .inl (cI, 978, .inl hi)), (h3, .inl (cI, 60, .inl tx)), (h4, .inl (cI, 42, .inl pa))] s.heap.size = A at hD ⊢
  have hA : ∀ q : Nat, s.heap.size ≤ q → A q := fun q h => by rw [← hAe]; exact Or.inr h
  have hS : va_S A s.heap s.heap [] := va_S.rf
  have hP : va_P (dC, dI) vwCl [(h0, .inr (6, [.ref h1, .int states, .ref h2, .int ln, .ref h3, .int thr, .ref h4, .int rd, .int num, .int due, .long hash])), (h1, .inl (cI, 163, .inl z)), (h2, .inl (cI, 978, .inl hi)), (h3, .inl (cI, 60, .inl tx)), (h4, .inl (cI, 42, .inl pa))] s.heap := hP
  have kw1 := hts (.fieldLink RX6 7 "LapseMandatesModel" "z" "[I") (List.mem_of_getElem? (i := 1) rfl)
  have iwsX60 : ∀ w ∈ wsX60, w ∈ wsX6_put := fun w h => List.mem_cons_of_mem _ (List.mem_append_right _ h)
  generalize hrr : f_X6_put z p1 p2 p3 = rr
  have eF := hrr.symm
  have hl := lv_entry ([.ref h0, .int p1, .int p2, .int p3]) (n := 4) (Nat.le_of_ble_eq_true rfl)
  rw [lg_entry_eq]
  generalize (lg_sl ([.ref h0, .int p1, .int p2, .int p3]) ++ List.replicate (4 - (lg_sl ([.ref h0, .int p1, .int p2, .int p3])).length) Slot.unset).toArray = ls at hl ⊢
  have hl : lv_has ls 4 [(0, .ref h0), (1, .int p1), (2, .int p2), (3, .int p3)] := hl
  rw [o_X6_put] at eO
  refine lv_aload_n hx hb dX6_put_0 rfl (lv_at hl 0 rfl) ?_
  refine va_get (D := (dC, dI)) (ci := 6) (v := .ref h1) (C := RX6) (T := TX6) (N := 11) hx hb hts iwsX60 hown hK hP 0 rfl rfl 0 (by decide) kw1 (fun _ h9 => h9) rfl dX6_put_1 ?_
  refine lv_bipush (v := 19) hx hb dX6_put_4 (by decide) ?_
  refine lv_bipush (v := 9) hx hb dX6_put_6 (by decide) ?_
  refine lv_iload_n hx hb dX6_put_8 rfl (lv_at hl 1 rfl) ?_
  refine lv_imul hx hb dX6_put_9 ?_
  refine lv_iadd hx hb dX6_put_10 ?_
  refine lv_iload_n hx hb dX6_put_11 rfl (lv_at hl 2 rfl) ?_
  refine lv_iadd hx hb dX6_put_12 ?_
  refine lv_iload_n hx hb dX6_put_13 rfl (lv_at hl 3 rfl) ?_
  obtain ⟨hv_1, eO⟩ := eO
  refine va_iast hx hb hK hP hD hS 1 0 rfl rfl hv_1 dX6_put_14 (fun H locs hP hD hS => ?_)
  have hP : va_P (dC, dI) vwCl [(h0, .inr (6, [.ref h1, .int states, .ref h2, .int ln, .ref h3, .int thr, .ref h4, .int rd, .int num, .int due, .long hash])), (h1, .inl (cI, 163, .inl (upd z (Int32.toNatClampNeg ((19 + (9 * p1)) + p2)) p3))), (h2, .inl (cI, 978, .inl hi)), (h3, .inl (cI, 60, .inl tx)), (h4, .inl (cI, 42, .inl pa))] H := hP
  have hD : va_D A [(h0, .inr (6, [.ref h1, .int states, .ref h2, .int ln, .ref h3, .int thr, .ref h4, .int rd, .int num, .int due, .long hash])), (h1, .inl (cI, 163, .inl (upd z (Int32.toNatClampNeg ((19 + (9 * p1)) + p2)) p3))), (h2, .inl (cI, 978, .inl hi)), (h3, .inl (cI, 60, .inl tx)), (h4, .inl (cI, 42, .inl pa))] := hD
  have e9 : rr = (upd z (Int32.toNatClampNeg ((19 + (9 * p1)) + p2)) p3) := eF.trans (by rw [f_X6_put])
  exact W.vret hx hb hr (fun t ht hW => ⟨⟨(), rfl, trivial, (by rw [e9]; show va_P _ _ _ t.heap; rw [ht]; exact hP)⟩, hS.F ht⟩) hS.2.2 dX6_put_15

def f_X6_ofRequest (z : Nat → Int32) (p1 : Int32) (p2 : Int32) : Int32 :=
  (z (Int32.toNatClampNeg ((127 + (6 * p1)) + p2)))
def o_X6_ofRequest (z : Nat → Int32) (p1 : Int32) (p2 : Int32) : Prop :=
  vp_in ((127 + (6 * p1)) + p2) 163 ∧
  (True)
theorem yd_X6_ofRequest : yX6_ofRequest.cls = RX6 ∧ yX6_ofRequest.cls ≠ "java/lang/invoke/MethodHandle" ∧ yX6_ofRequest.cls ≠ "java/lang/invoke/VarHandle" ∧ (parseMethodDescriptor yX6_ofRequest.desc).map (fun d => d.parameters.length) = some 2 := by decide +kernel
set_option maxHeartbeats 4000000 in
set_option maxRecDepth 100000 in
theorem c_X6_ofRequest (l : Launch) (dC : Nat → ClassId) (dI : Nat → Nat → Nat) (cI cB : ClassId) (h0 h1 h2 h3 h4 : Nat) (states : Int32) (ln : Int32) (thr : Int32) (rd : Int32) (num : Int32) (due : Int32) (hash : Int64) (z : Nat → Int32) (hi : Nat → Int32) (tx : Nat → Int32) (pa : Nat → Int32) (p1 : Int32) (p2 : Int32) (eO : o_X6_ofRequest z p1 p2) : Met l yX6_ofRequest wsX6_ofRequest ({ frames := 0, cells := 0, slots := 0, locals := 0 }) (vm_pre [.ref h0, .int p1, .int p2] (dC, dI) [(h0, .inr (6, [.ref h1, .int states, .ref h2, .int ln, .ref h3, .int thr, .ref h4, .int rd, .int num, .int due, .long hash])), (h1, .inl (cI, 163, .inl z)), (h2, .inl (cI, 978, .inl hi)), (h3, .inl (cI, 60, .inl tx)), (h4, .inl (cI, 42, .inl pa))] cI cB) (vp_Si (fun r9 : Int32 => r9 = (f_X6_ofRequest z p1 p2))) 0 0 (fun _ => False) := by
  refine Met.ofW (cc := cX6_ofRequest) (maxL := 3) (ret := (some .int)) (by decide) rfl ?_
  intro p e s m args below meth c s₁ B hml hv
  obtain ⟨rfl, hP, hK, hN⟩ := hv
  have hx := B.exec
  have hb := B.bytes
  have hr := B.returns
  have hts := atoms_spec (ws := wsX6_ofRequest) B.pre
  have hown : s.vm.findClass RX6 = some m.cls := findClass_of_methodNamed B.named
  have hlocks := B.notSynchronized
  have kw1 := hts (.fieldLink RX6 7 "LapseMandatesModel" "z" "[I") (List.mem_of_getElem? (i := 1) rfl)
  have iwsX60 : ∀ w ∈ wsX60, w ∈ wsX6_ofRequest := fun w h => List.mem_cons_of_mem _ (List.mem_append_right _ h)
  generalize hrr : f_X6_ofRequest z p1 p2 = rr
  have eF := hrr.symm
  have hl := lv_entry ([.ref h0, .int p1, .int p2]) (n := 3) (Nat.le_of_ble_eq_true rfl)
  rw [lg_entry_eq]
  generalize (lg_sl ([.ref h0, .int p1, .int p2]) ++ List.replicate (3 - (lg_sl ([.ref h0, .int p1, .int p2])).length) Slot.unset).toArray = ls at hl ⊢
  have hl : lv_has ls 3 [(0, .ref h0), (1, .int p1), (2, .int p2)] := hl
  rw [o_X6_ofRequest] at eO
  refine lv_aload_n hx hb dX6_ofRequest_0 rfl (lv_at hl 0 rfl) ?_
  refine va_get (D := (dC, dI)) (ci := 6) (v := .ref h1) (C := RX6) (T := TX6) (N := 11) hx hb hts iwsX60 hown hK hP 0 rfl rfl 0 (by decide) kw1 (fun _ h9 => h9) rfl dX6_ofRequest_1 ?_
  refine lv_bipush (v := 127) hx hb dX6_ofRequest_4 (by decide) ?_
  refine lv_bipush (v := 6) hx hb dX6_ofRequest_6 (by decide) ?_
  refine lv_iload_n hx hb dX6_ofRequest_8 rfl (lv_at hl 1 rfl) ?_
  refine lv_imul hx hb dX6_ofRequest_9 ?_
  refine lv_iadd hx hb dX6_ofRequest_10 ?_
  refine lv_iload_n hx hb dX6_ofRequest_11 rfl (lv_at hl 2 rfl) ?_
  refine lv_iadd hx hb dX6_ofRequest_12 ?_
  obtain ⟨hv_1, eO⟩ := eO
  refine va_iald hx hb hK hP 1 0 rfl rfl hv_1 dX6_ofRequest_13 ?_
  have e9 : rr = (z (Int32.toNatClampNeg ((127 + (6 * p1)) + p2))) := eF.trans (by rw [f_X6_ofRequest])
  exact W.iret (v := (z (Int32.toNatClampNeg ((127 + (6 * p1)) + p2)))) hx hb hr (fun t ht hW => ⟨_, rfl, e9.symm, ht⟩) (fun _ hq => by cases hq) dX6_ofRequest_14

def f_X6_isMandate (z : Nat → Int32) (p1 : Int32) : Bool :=
  (f_X6_within p1 0 ((z (Int32.toNatClampNeg 3)) - 1))
theorem yd_X6_isMandate : yX6_isMandate.cls = RX6 ∧ yX6_isMandate.cls ≠ "java/lang/invoke/MethodHandle" ∧ yX6_isMandate.cls ≠ "java/lang/invoke/VarHandle" ∧ (parseMethodDescriptor yX6_isMandate.desc).map (fun d => d.parameters.length) = some 1 := by decide +kernel
set_option maxHeartbeats 4000000 in
set_option maxRecDepth 100000 in
theorem c_X6_isMandate (l : Launch) (dC : Nat → ClassId) (dI : Nat → Nat → Nat) (cI cB : ClassId) (h0 h1 h2 h3 h4 : Nat) (states : Int32) (ln : Int32) (thr : Int32) (rd : Int32) (num : Int32) (due : Int32) (hash : Int64) (z : Nat → Int32) (hi : Nat → Int32) (tx : Nat → Int32) (pa : Nat → Int32) (p1 : Int32) : Met l yX6_isMandate wsX6_isMandate ({ frames := 1, cells := 0, slots := 0, locals := 22 }) (vm_pre [.ref h0, .int p1] (dC, dI) [(h0, .inr (6, [.ref h1, .int states, .ref h2, .int ln, .ref h3, .int thr, .ref h4, .int rd, .int num, .int due, .long hash])), (h1, .inl (cI, 163, .inl z)), (h2, .inl (cI, 978, .inl hi)), (h3, .inl (cI, 60, .inl tx)), (h4, .inl (cI, 42, .inl pa))] cI cB) (vp_Si (fun r9 : Int32 => r9 = vm_bi (f_X6_isMandate z p1))) 0 0 (fun _ => False) := by
  refine Met.ofW (cc := cX6_isMandate) (maxL := 2) (ret := (some .boolean)) (by decide) rfl ?_
  intro p e s m args below meth c s₁ B hml hv
  obtain ⟨rfl, hP, hK, hN⟩ := hv
  have hx := B.exec
  have hb := B.bytes
  have hr := B.returns
  have hts := atoms_spec (ws := wsX6_isMandate) B.pre
  have hown : s.vm.findClass RX6 = some m.cls := findClass_of_methodNamed B.named
  have hlocks := B.notSynchronized
  have kw1 := hts (.fieldLink RX6 7 "LapseMandatesModel" "z" "[I") (List.mem_of_getElem? (i := 1) rfl)
  have iwsX60 : ∀ w ∈ wsX60, w ∈ wsX6_isMandate := fun w h => List.mem_cons_of_mem _ (List.mem_append_right _ h)
  generalize hrr : f_X6_isMandate z p1 = rr
  have eF := hrr.symm
  have hl := lv_entry ([.ref h0, .int p1]) (n := 2) (Nat.le_of_ble_eq_true rfl)
  rw [lg_entry_eq]
  generalize (lg_sl ([.ref h0, .int p1]) ++ List.replicate (2 - (lg_sl ([.ref h0, .int p1])).length) Slot.unset).toArray = ls at hl ⊢
  have hl : lv_has ls 2 [(0, .ref h0), (1, .int p1)] := hl
  refine lv_iload_n hx hb dX6_isMandate_0 rfl (lv_at hl 1 rfl) ?_
  refine lv_iconst (v := 0) hx hb dX6_isMandate_1 (by decide) ?_
  refine lv_aload_n hx hb dX6_isMandate_2 rfl (lv_at hl 0 rfl) ?_
  refine va_get (D := (dC, dI)) (ci := 6) (v := .ref h1) (C := RX6) (T := TX6) (N := 11) hx hb hts iwsX60 hown hK hP 0 rfl rfl 0 (by decide) kw1 (fun _ h9 => h9) rfl dX6_isMandate_3 ?_
  refine lv_iconst (v := 3) hx hb dX6_isMandate_6 (by decide) ?_
  refine va_iald hx hb hK hP 1 0 rfl rfl (by unfold vp_in; decide) dX6_isMandate_7 ?_
  refine lv_iconst (v := 1) hx hb dX6_isMandate_8 (by decide) ?_
  refine lv_isub hx hb dX6_isMandate_9 ?_
  refine vm_roSx (v := vm_bi (f_X6_within p1 0 ((z (Int32.toNatClampNeg 3)) - 1))) (As := [.int p1, .int 0, .int ((z (Int32.toNatClampNeg 3)) - 1)]) (rest := []) ⟨hx, hb, hml, hown, hts⟩ hK hN hP hl.1 ⟨Nat.le_of_ble_eq_true rfl, Nat.le_of_ble_eq_true rfl⟩ (c_X6_within l dC dI cI cB p1 0 ((z (Int32.toNatClampNeg 3)) - 1)) (va_cwS 3 hts gX6_isMandate_X6_within rfl rfl rfl yd_X6_within ⟨Nat.le_of_ble_eq_true rfl, Nat.le_of_ble_eq_true rfl⟩) rfl rfl (Nat.le_of_ble_eq_true rfl) dX6_isMandate_10 ?_
  have e9 : rr = (f_X6_within p1 0 ((z (Int32.toNatClampNeg 3)) - 1)) := eF.trans (by rw [f_X6_isMandate])
  exact W.zret (v := vm_bi (f_X6_within p1 0 ((z (Int32.toNatClampNeg 3)) - 1))) hx hb hr (vm_bi_nw _) (fun t ht hW => ⟨_, rfl, by rw [e9] <;> rfl, ht⟩) (fun _ hq => by cases hq) dX6_isMandate_13

def f_X6_isRequest (z : Nat → Int32) (p1 : Int32) : Bool :=
  (f_X6_within p1 0 ((z (Int32.toNatClampNeg 4)) - 1))
theorem yd_X6_isRequest : yX6_isRequest.cls = RX6 ∧ yX6_isRequest.cls ≠ "java/lang/invoke/MethodHandle" ∧ yX6_isRequest.cls ≠ "java/lang/invoke/VarHandle" ∧ (parseMethodDescriptor yX6_isRequest.desc).map (fun d => d.parameters.length) = some 1 := by decide +kernel
set_option maxHeartbeats 4000000 in
set_option maxRecDepth 100000 in
theorem c_X6_isRequest (l : Launch) (dC : Nat → ClassId) (dI : Nat → Nat → Nat) (cI cB : ClassId) (h0 h1 h2 h3 h4 : Nat) (states : Int32) (ln : Int32) (thr : Int32) (rd : Int32) (num : Int32) (due : Int32) (hash : Int64) (z : Nat → Int32) (hi : Nat → Int32) (tx : Nat → Int32) (pa : Nat → Int32) (p1 : Int32) : Met l yX6_isRequest wsX6_isRequest ({ frames := 1, cells := 0, slots := 0, locals := 22 }) (vm_pre [.ref h0, .int p1] (dC, dI) [(h0, .inr (6, [.ref h1, .int states, .ref h2, .int ln, .ref h3, .int thr, .ref h4, .int rd, .int num, .int due, .long hash])), (h1, .inl (cI, 163, .inl z)), (h2, .inl (cI, 978, .inl hi)), (h3, .inl (cI, 60, .inl tx)), (h4, .inl (cI, 42, .inl pa))] cI cB) (vp_Si (fun r9 : Int32 => r9 = vm_bi (f_X6_isRequest z p1))) 0 0 (fun _ => False) := by
  refine Met.ofW (cc := cX6_isRequest) (maxL := 2) (ret := (some .boolean)) (by decide) rfl ?_
  intro p e s m args below meth c s₁ B hml hv
  obtain ⟨rfl, hP, hK, hN⟩ := hv
  have hx := B.exec
  have hb := B.bytes
  have hr := B.returns
  have hts := atoms_spec (ws := wsX6_isRequest) B.pre
  have hown : s.vm.findClass RX6 = some m.cls := findClass_of_methodNamed B.named
  have hlocks := B.notSynchronized
  have kw1 := hts (.fieldLink RX6 7 "LapseMandatesModel" "z" "[I") (List.mem_of_getElem? (i := 1) rfl)
  have iwsX60 : ∀ w ∈ wsX60, w ∈ wsX6_isRequest := fun w h => List.mem_cons_of_mem _ (List.mem_append_right _ h)
  generalize hrr : f_X6_isRequest z p1 = rr
  have eF := hrr.symm
  have hl := lv_entry ([.ref h0, .int p1]) (n := 2) (Nat.le_of_ble_eq_true rfl)
  rw [lg_entry_eq]
  generalize (lg_sl ([.ref h0, .int p1]) ++ List.replicate (2 - (lg_sl ([.ref h0, .int p1])).length) Slot.unset).toArray = ls at hl ⊢
  have hl : lv_has ls 2 [(0, .ref h0), (1, .int p1)] := hl
  refine lv_iload_n hx hb dX6_isRequest_0 rfl (lv_at hl 1 rfl) ?_
  refine lv_iconst (v := 0) hx hb dX6_isRequest_1 (by decide) ?_
  refine lv_aload_n hx hb dX6_isRequest_2 rfl (lv_at hl 0 rfl) ?_
  refine va_get (D := (dC, dI)) (ci := 6) (v := .ref h1) (C := RX6) (T := TX6) (N := 11) hx hb hts iwsX60 hown hK hP 0 rfl rfl 0 (by decide) kw1 (fun _ h9 => h9) rfl dX6_isRequest_3 ?_
  refine lv_iconst (v := 4) hx hb dX6_isRequest_6 (by decide) ?_
  refine va_iald hx hb hK hP 1 0 rfl rfl (by unfold vp_in; decide) dX6_isRequest_7 ?_
  refine lv_iconst (v := 1) hx hb dX6_isRequest_8 (by decide) ?_
  refine lv_isub hx hb dX6_isRequest_9 ?_
  refine vm_roSx (v := vm_bi (f_X6_within p1 0 ((z (Int32.toNatClampNeg 4)) - 1))) (As := [.int p1, .int 0, .int ((z (Int32.toNatClampNeg 4)) - 1)]) (rest := []) ⟨hx, hb, hml, hown, hts⟩ hK hN hP hl.1 ⟨Nat.le_of_ble_eq_true rfl, Nat.le_of_ble_eq_true rfl⟩ (c_X6_within l dC dI cI cB p1 0 ((z (Int32.toNatClampNeg 4)) - 1)) (va_cwS 3 hts gX6_isRequest_X6_within rfl rfl rfl yd_X6_within ⟨Nat.le_of_ble_eq_true rfl, Nat.le_of_ble_eq_true rfl⟩) rfl rfl (Nat.le_of_ble_eq_true rfl) dX6_isRequest_10 ?_
  have e9 : rr = (f_X6_within p1 0 ((z (Int32.toNatClampNeg 4)) - 1)) := eF.trans (by rw [f_X6_isRequest])
  exact W.zret (v := vm_bi (f_X6_within p1 0 ((z (Int32.toNatClampNeg 4)) - 1))) hx hb hr (vm_bi_nw _) (fun t ht hW => ⟨_, rfl, by rw [e9] <;> rfl, ht⟩) (fun _ hq => by cases hq) dX6_isRequest_13

def f_X6_isPerson (p1 : Int32) : Bool :=
  (f_X6_within p1 0 7)
theorem yd_X6_isPerson : yX6_isPerson.cls ≠ "java/lang/invoke/MethodHandle" ∧ yX6_isPerson.cls ≠ "java/lang/invoke/VarHandle" ∧ (parseMethodDescriptor yX6_isPerson.desc).map (fun d => d.parameters.length) = some 1 := by decide +kernel
set_option maxHeartbeats 4000000 in
set_option maxRecDepth 100000 in
theorem c_X6_isPerson (l : Launch) (dC : Nat → ClassId) (dI : Nat → Nat → Nat) (cI cB : ClassId) (p1 : Int32) : Met l yX6_isPerson wsX6_isPerson ({ frames := 1, cells := 0, slots := 0, locals := 22 }) (vm_pre [.int p1] (dC, dI) [] cI cB) (vp_Si (fun r9 : Int32 => r9 = vm_bi (f_X6_isPerson p1))) 0 0 (fun _ => False) := by
  refine Met.ofW (cc := cX6_isPerson) (maxL := 1) (ret := (some .boolean)) (by decide) rfl ?_
  intro p e s m args below meth c s₁ B hml hv
  obtain ⟨rfl, hP, hK, hN⟩ := hv
  have hx := B.exec
  have hb := B.bytes
  have hr := B.returns
  have hts := atoms_spec (ws := wsX6_isPerson) B.pre
  have hown : s.vm.findClass RX6 = some m.cls := findClass_of_methodNamed B.named
  have hlocks := B.notSynchronized
  generalize hrr : f_X6_isPerson p1 = rr
  have eF := hrr.symm
  have hl := lv_entry ([.int p1]) (n := 1) (Nat.le_of_ble_eq_true rfl)
  rw [lg_entry_eq]
  generalize (lg_sl ([.int p1]) ++ List.replicate (1 - (lg_sl ([.int p1])).length) Slot.unset).toArray = ls at hl ⊢
  have hl : lv_has ls 1 [(0, .int p1)] := hl
  refine lv_iload_n hx hb dX6_isPerson_0 rfl (lv_at hl 0 rfl) ?_
  refine lv_iconst (v := 0) hx hb dX6_isPerson_1 (by decide) ?_
  refine lv_bipush (v := 7) hx hb dX6_isPerson_2 (by decide) ?_
  refine vm_roSx (v := vm_bi (f_X6_within p1 0 7)) (As := [.int p1, .int 0, .int 7]) (rest := []) ⟨hx, hb, hml, hown, hts⟩ hK hN hP hl.1 ⟨Nat.le_of_ble_eq_true rfl, Nat.le_of_ble_eq_true rfl⟩ (c_X6_within l dC dI cI cB p1 0 7) (va_cwS 3 hts gX6_isPerson_X6_within rfl rfl rfl yd_X6_within ⟨Nat.le_of_ble_eq_true rfl, Nat.le_of_ble_eq_true rfl⟩) rfl rfl (Nat.le_of_ble_eq_true rfl) dX6_isPerson_4 ?_
  have e9 : rr = (f_X6_within p1 0 7) := eF.trans (by rw [f_X6_isPerson])
  exact W.zret (v := vm_bi (f_X6_within p1 0 7)) hx hb hr (vm_bi_nw _) (fun t ht hW => ⟨_, rfl, by rw [e9] <;> rfl, ht⟩) (fun _ hq => by cases hq) dX6_isPerson_7

def f_X6_isMoney (p1 : Int32) : Bool :=
  (f_X6_within p1 1 9999)
theorem yd_X6_isMoney : yX6_isMoney.cls ≠ "java/lang/invoke/MethodHandle" ∧ yX6_isMoney.cls ≠ "java/lang/invoke/VarHandle" ∧ (parseMethodDescriptor yX6_isMoney.desc).map (fun d => d.parameters.length) = some 1 := by decide +kernel
set_option maxHeartbeats 4000000 in
set_option maxRecDepth 100000 in
theorem c_X6_isMoney (l : Launch) (dC : Nat → ClassId) (dI : Nat → Nat → Nat) (cI cB : ClassId) (p1 : Int32) : Met l yX6_isMoney wsX6_isMoney ({ frames := 1, cells := 0, slots := 0, locals := 22 }) (vm_pre [.int p1] (dC, dI) [] cI cB) (vp_Si (fun r9 : Int32 => r9 = vm_bi (f_X6_isMoney p1))) 0 0 (fun _ => False) := by
  refine Met.ofW (cc := cX6_isMoney) (maxL := 1) (ret := (some .boolean)) (by decide) rfl ?_
  intro p e s m args below meth c s₁ B hml hv
  obtain ⟨rfl, hP, hK, hN⟩ := hv
  have hx := B.exec
  have hb := B.bytes
  have hr := B.returns
  have hts := atoms_spec (ws := wsX6_isMoney) B.pre
  have hown : s.vm.findClass RX6 = some m.cls := findClass_of_methodNamed B.named
  have hlocks := B.notSynchronized
  generalize hrr : f_X6_isMoney p1 = rr
  have eF := hrr.symm
  have hl := lv_entry ([.int p1]) (n := 1) (Nat.le_of_ble_eq_true rfl)
  rw [lg_entry_eq]
  generalize (lg_sl ([.int p1]) ++ List.replicate (1 - (lg_sl ([.int p1])).length) Slot.unset).toArray = ls at hl ⊢
  have hl : lv_has ls 1 [(0, .int p1)] := hl
  refine lv_iload_n hx hb dX6_isMoney_0 rfl (lv_at hl 0 rfl) ?_
  refine lv_iconst (v := 1) hx hb dX6_isMoney_1 (by decide) ?_
  refine lv_sipush (v := 9999) hx hb dX6_isMoney_2 (by decide) ?_
  refine vm_roSx (v := vm_bi (f_X6_within p1 1 9999)) (As := [.int p1, .int 1, .int 9999]) (rest := []) ⟨hx, hb, hml, hown, hts⟩ hK hN hP hl.1 ⟨Nat.le_of_ble_eq_true rfl, Nat.le_of_ble_eq_true rfl⟩ (c_X6_within l dC dI cI cB p1 1 9999) (va_cwS 3 hts gX6_isMoney_X6_within rfl rfl rfl yd_X6_within ⟨Nat.le_of_ble_eq_true rfl, Nat.le_of_ble_eq_true rfl⟩) rfl rfl (Nat.le_of_ble_eq_true rfl) dX6_isMoney_5 ?_
  have e9 : rr = (f_X6_within p1 1 9999) := eF.trans (by rw [f_X6_isMoney])
  exact W.zret (v := vm_bi (f_X6_within p1 1 9999)) hx hb hr (vm_bi_nw _) (fun t ht hW => ⟨_, rfl, by rw [e9] <;> rfl, ht⟩) (fun _ hq => by cases hq) dX6_isMoney_8

def f_X6_stands (z : Nat → Int32) (p1 : Int32) : Bool :=
  if (f_X6_of z p1 5) = 1 then
    true
  else
    false
def o_X6_stands (z : Nat → Int32) (p1 : Int32) : Prop :=
  o_X6_of z p1 5 ∧
  (if (f_X6_of z p1 5) = 1 then
    True
  else
    True)
theorem yd_X6_stands : yX6_stands.cls = RX6 ∧ yX6_stands.cls ≠ "java/lang/invoke/MethodHandle" ∧ yX6_stands.cls ≠ "java/lang/invoke/VarHandle" ∧ (parseMethodDescriptor yX6_stands.desc).map (fun d => d.parameters.length) = some 1 := by decide +kernel
set_option maxHeartbeats 4000000 in
set_option maxRecDepth 100000 in
theorem c_X6_stands (l : Launch) (dC : Nat → ClassId) (dI : Nat → Nat → Nat) (cI cB : ClassId) (h0 h1 h2 h3 h4 : Nat) (states : Int32) (ln : Int32) (thr : Int32) (rd : Int32) (num : Int32) (due : Int32) (hash : Int64) (z : Nat → Int32) (hi : Nat → Int32) (tx : Nat → Int32) (pa : Nat → Int32) (p1 : Int32) (eO : o_X6_stands z p1) : Met l yX6_stands wsX6_stands ({ frames := 1, cells := 0, slots := 0, locals := 22 }) (vm_pre [.ref h0, .int p1] (dC, dI) [(h0, .inr (6, [.ref h1, .int states, .ref h2, .int ln, .ref h3, .int thr, .ref h4, .int rd, .int num, .int due, .long hash])), (h1, .inl (cI, 163, .inl z)), (h2, .inl (cI, 978, .inl hi)), (h3, .inl (cI, 60, .inl tx)), (h4, .inl (cI, 42, .inl pa))] cI cB) (vp_Si (fun r9 : Int32 => r9 = vm_bi (f_X6_stands z p1))) 0 0 (fun _ => False) := by
  refine Met.ofW (cc := cX6_stands) (maxL := 2) (ret := (some .boolean)) (by decide) rfl ?_
  intro p e s m args below meth c s₁ B hml hv
  obtain ⟨rfl, hP, hK, hN⟩ := hv
  have hx := B.exec
  have hb := B.bytes
  have hr := B.returns
  have hts := atoms_spec (ws := wsX6_stands) B.pre
  have hown : s.vm.findClass RX6 = some m.cls := findClass_of_methodNamed B.named
  have hlocks := B.notSynchronized
  generalize hrr : f_X6_stands z p1 = rr
  have eF := hrr.symm
  have hl := lv_entry ([.ref h0, .int p1]) (n := 2) (Nat.le_of_ble_eq_true rfl)
  rw [lg_entry_eq]
  generalize (lg_sl ([.ref h0, .int p1]) ++ List.replicate (2 - (lg_sl ([.ref h0, .int p1])).length) Slot.unset).toArray = ls at hl ⊢
  have hl : lv_has ls 2 [(0, .ref h0), (1, .int p1)] := hl
  rw [o_X6_stands] at eO
  refine lv_aload_n hx hb dX6_stands_0 rfl (lv_at hl 0 rfl) ?_
  refine lv_iload_n hx hb dX6_stands_1 rfl (lv_at hl 1 rfl) ?_
  refine lv_iconst (v := 5) hx hb dX6_stands_2 (by decide) ?_
  obtain ⟨hv_1, eO⟩ := eO
  refine vm_roVx (v := (f_X6_of z p1 5)) (As := [.int p1, .int 5]) (rest := []) (T := TX6) (N := 11) (wc := [(h0, .inr (6, [.ref h1, .int states, .ref h2, .int ln, .ref h3, .int thr, .ref h4, .int rd, .int num, .int due, .long hash])), (h1, .inl (cI, 163, .inl z)), (h2, .inl (cI, 978, .inl hi)), (h3, .inl (cI, 60, .inl tx)), (h4, .inl (cI, 42, .inl pa))]) ⟨hx, hb, hml, hown, hts⟩ hK hN hP hl.1 ⟨Nat.le_of_ble_eq_true rfl, Nat.le_of_ble_eq_true rfl⟩ (c_X6_of l dC dI cI cB h0 h1 h2 h3 h4 states ln thr rd num due hash z hi tx pa p1 5 hv_1) (cwV 2 hts gX6_stands_X6_of rfl rfl rfl yd_X6_of ⟨Nat.le_of_ble_eq_true rfl, Nat.le_of_ble_eq_true rfl⟩) [0, 1, 2, 3, 4] rfl 6 rfl rfl rfl rfl (Nat.le_of_ble_eq_true rfl) dX6_stands_3 ?_
  refine lv_iconst (v := 1) hx hb dX6_stands_6 (by decide) ?_
  refine lv_icmp_ne (tgt := 14) hx hb dX6_stands_7 (by decide) (fun c_2 => ?_) (fun c_2 => ?_)
  · rw [if_neg c_2] at eO
    refine lv_iconst (v := 0) hx hb dX6_stands_14 (by decide) ?_
    have e9 : rr = false := eF.trans (by rw [f_X6_stands, if_neg c_2])
    exact W.zret (v := 0) hx hb hr rfl (fun t ht hW => ⟨_, rfl, by rw [e9] <;> rfl, ht⟩) (fun _ hq => by cases hq) dX6_stands_15
  · rw [if_pos c_2] at eO
    refine lv_iconst (v := 1) hx hb dX6_stands_10 (by decide) ?_
    refine lv_goto (tgt := 15) hx hb dX6_stands_11 (by decide) ?_
    have e9 : rr = true := eF.trans (by rw [f_X6_stands, if_pos c_2])
    exact W.zret (v := 1) hx hb hr rfl (fun t ht hW => ⟨_, rfl, by rw [e9] <;> rfl, ht⟩) (fun _ hq => by cases hq) dX6_stands_15

def f_X6_isInChain_j26 (z : Nat → Int32) (x4_5 : Int32) (kj5 : Bool → Int32 → Bool) (s0_26 : Bool) : Bool :=
  kj5 s0_26 (f_X6_of z x4_5 0)
def f_X6_isInChain_j21 (z : Nat → Int32) (x4_5 : Int32) (kj5 : Bool → Int32 → Bool) : Bool :=
  f_X6_isInChain_j26 z x4_5 kj5 true
def f_X6_isInChain_j5 (z : Nat → Int32) (p1 : Int32) : Nat → Bool → Int32 → Bool
  | 0, _, _ => false
  | n5 + 1, x3_5, x4_5 => if x4_5 = (-1) then
      x3_5
    else
      if (vm_bi x3_5) = 0 then
        if x4_5 = p1 then
          f_X6_isInChain_j21 z x4_5 (f_X6_isInChain_j5 z p1 n5)
        else
          f_X6_isInChain_j26 z x4_5 (f_X6_isInChain_j5 z p1 n5) false
      else
        f_X6_isInChain_j21 z x4_5 (f_X6_isInChain_j5 z p1 n5)
def f_X6_isInChain (z : Nat → Int32) (p1 : Int32) (p2 : Int32) : Bool :=
  f_X6_isInChain_j5 z p1 1000 false p2
def o_X6_isInChain_j26 (z : Nat → Int32) (x4_5 : Int32) (koj5 : Bool → Int32 → Prop) (s0_26 : Bool) : Prop :=
  o_X6_of z x4_5 0 ∧
  (koj5 s0_26 (f_X6_of z x4_5 0))
def o_X6_isInChain_j21 (z : Nat → Int32) (x4_5 : Int32) (koj5 : Bool → Int32 → Prop) : Prop :=
  o_X6_isInChain_j26 z x4_5 koj5 true
def o_X6_isInChain_j5 (z : Nat → Int32) (p1 : Int32) : Nat → Bool → Int32 → Prop
  | 0, _, _ => False
  | n5 + 1, x3_5, x4_5 => if x4_5 = (-1) then
      True
    else
      if (vm_bi x3_5) = 0 then
        if x4_5 = p1 then
          o_X6_isInChain_j21 z x4_5 (o_X6_isInChain_j5 z p1 n5)
        else
          o_X6_isInChain_j26 z x4_5 (o_X6_isInChain_j5 z p1 n5) false
      else
        o_X6_isInChain_j21 z x4_5 (o_X6_isInChain_j5 z p1 n5)
def o_X6_isInChain (z : Nat → Int32) (p1 : Int32) (p2 : Int32) : Prop :=
  o_X6_isInChain_j5 z p1 1000 false p2
theorem yd_X6_isInChain : yX6_isInChain.cls = RX6 ∧ yX6_isInChain.cls ≠ "java/lang/invoke/MethodHandle" ∧ yX6_isInChain.cls ≠ "java/lang/invoke/VarHandle" ∧ (parseMethodDescriptor yX6_isInChain.desc).map (fun d => d.parameters.length) = some 2 := by decide +kernel
set_option maxHeartbeats 4000000 in
set_option maxRecDepth 100000 in
theorem c_X6_isInChain (l : Launch) (dC : Nat → ClassId) (dI : Nat → Nat → Nat) (cI cB : ClassId) (h0 h1 h2 h3 h4 : Nat) (states : Int32) (ln : Int32) (thr : Int32) (rd : Int32) (num : Int32) (due : Int32) (hash : Int64) (z : Nat → Int32) (hi : Nat → Int32) (tx : Nat → Int32) (pa : Nat → Int32) (p1 : Int32) (p2 : Int32) (eO : o_X6_isInChain z p1 p2) : Met l yX6_isInChain wsX6_isInChain ({ frames := 1, cells := 0, slots := 0, locals := 22 }) (vm_pre [.ref h0, .int p1, .int p2] (dC, dI) [(h0, .inr (6, [.ref h1, .int states, .ref h2, .int ln, .ref h3, .int thr, .ref h4, .int rd, .int num, .int due, .long hash])), (h1, .inl (cI, 163, .inl z)), (h2, .inl (cI, 978, .inl hi)), (h3, .inl (cI, 60, .inl tx)), (h4, .inl (cI, 42, .inl pa))] cI cB) (vp_Si (fun r9 : Int32 => r9 = vm_bi (f_X6_isInChain z p1 p2))) 0 0 (fun _ => False) := by
  refine Met.ofW (cc := cX6_isInChain) (maxL := 5) (ret := (some .boolean)) (by decide) rfl ?_
  intro p e s m args below meth c s₁ B hml hv
  obtain ⟨rfl, hP, hK, hN⟩ := hv
  have hx := B.exec
  have hb := B.bytes
  have hr := B.returns
  have hts := atoms_spec (ws := wsX6_isInChain) B.pre
  have hown : s.vm.findClass RX6 = some m.cls := findClass_of_methodNamed B.named
  have hlocks := B.notSynchronized
  generalize hrr : f_X6_isInChain z p1 p2 = rr
  have eF := hrr.symm
  have hl := lv_entry ([.ref h0, .int p1, .int p2]) (n := 5) (Nat.le_of_ble_eq_true rfl)
  rw [lg_entry_eq]
  generalize (lg_sl ([.ref h0, .int p1, .int p2]) ++ List.replicate (5 - (lg_sl ([.ref h0, .int p1, .int p2])).length) Slot.unset).toArray = ls at hl ⊢
  have hl : lv_has ls 5 [(0, .ref h0), (1, .int p1), (2, .int p2)] := hl
  have hJ5 : ∀ (n5 : Nat) (x3_5 : Bool) (x4_5 : Int32), rr = f_X6_isInChain_j5 z p1 n5 x3_5 x4_5 → o_X6_isInChain_j5 z p1 n5 x3_5 x4_5 → ∀ (ls : Array Slot), lv_has ls 5 [(0, .ref h0), (1, .int p1), (3, .int (vm_bi x3_5)), (4, .int x4_5)] → W p l e (headSpec wsX6_isInChain ({ frames := 1, cells := 0, slots := 0, locals := 22 })).room s m ([.ref h0, .int p1, .int p2] : List Value).toArray below meth c s.heap [] 0 0 (MQ below (vp_Si (fun r9 : Int32 => r9 = vm_bi rr)) ([.ref h0, .int p1, .int p2] : List Value).toArray s 0 0 (fun _ => False)) (F0 m 5 ls []) := by
    intro n5
    induction n5 with
    | zero =>
      intro x3_5 x4_5 eF eO
      exact False.elim eO
    | succ n5 ih5 =>
      intro x3_5 x4_5 eF eO ls hl
      rw [o_X6_isInChain_j5] at eO
      have hJ26 : ∀ (s0_26 : Bool), rr = f_X6_isInChain_j26 z x4_5 (f_X6_isInChain_j5 z p1 n5) s0_26 → o_X6_isInChain_j26 z x4_5 (o_X6_isInChain_j5 z p1 n5) s0_26 → ∀ (ls : Array Slot), lv_has ls 5 [(0, .ref h0), (1, .int p1), (4, .int x4_5)] → W p l e (headSpec wsX6_isInChain ({ frames := 1, cells := 0, slots := 0, locals := 22 })).room s m ([.ref h0, .int p1, .int p2] : List Value).toArray below meth c s.heap [] 0 0 (MQ below (vp_Si (fun r9 : Int32 => r9 = vm_bi rr)) ([.ref h0, .int p1, .int p2] : List Value).toArray s 0 0 (fun _ => False)) (F0 m 26 ls [.int (vm_bi s0_26)]) := by
        intro s0_26 eF eO ls hl
        rw [o_X6_isInChain_j26] at eO
        refine lv_istore_n (lv' := [(3, .int (vm_bi s0_26)), (0, .ref h0), (1, .int p1), (4, .int x4_5)]) hx hb dX6_isInChain_26 rfl hl (by decide) rfl (fun ls hl => ?_)
        refine lv_aload_n hx hb dX6_isInChain_27 rfl (lv_at hl 1 rfl) ?_
        refine lv_iload hx hb dX6_isInChain_28 (lv_at hl 3 rfl) ?_
        refine lv_iconst (v := 0) hx hb dX6_isInChain_30 (by decide) ?_
        obtain ⟨hv_1, eO⟩ := eO
        refine vm_roVx (v := (f_X6_of z x4_5 0)) (As := [.int x4_5, .int 0]) (rest := []) (T := TX6) (N := 11) (wc := [(h0, .inr (6, [.ref h1, .int states, .ref h2, .int ln, .ref h3, .int thr, .ref h4, .int rd, .int num, .int due, .long hash])), (h1, .inl (cI, 163, .inl z)), (h2, .inl (cI, 978, .inl hi)), (h3, .inl (cI, 60, .inl tx)), (h4, .inl (cI, 42, .inl pa))]) ⟨hx, hb, hml, hown, hts⟩ hK hN hP hl.1 ⟨Nat.le_of_ble_eq_true rfl, Nat.le_of_ble_eq_true rfl⟩ (c_X6_of l dC dI cI cB h0 h1 h2 h3 h4 states ln thr rd num due hash z hi tx pa x4_5 0 hv_1) (cwV 2 hts gX6_isInChain_X6_of rfl rfl rfl yd_X6_of ⟨Nat.le_of_ble_eq_true rfl, Nat.le_of_ble_eq_true rfl⟩) [0, 1, 2, 3, 4] rfl 6 rfl rfl rfl rfl (Nat.le_of_ble_eq_true rfl) dX6_isInChain_31 ?_
        refine lv_istore (lv' := [(4, .int (f_X6_of z x4_5 0)), (3, .int (vm_bi s0_26)), (0, .ref h0), (1, .int p1)]) hx hb dX6_isInChain_34 hl (by decide) rfl (fun ls hl => ?_)
        refine lv_goto (tgt := 5) hx hb dX6_isInChain_36 (by decide) ?_
        exact ih5 s0_26 (f_X6_of z x4_5 0) (eF.trans (by rw [f_X6_isInChain_j26])) eO ls (lv_sub hl [2, 3, 1, 0] rfl)
      have hJ21 : rr = f_X6_isInChain_j21 z x4_5 (f_X6_isInChain_j5 z p1 n5) → o_X6_isInChain_j21 z x4_5 (o_X6_isInChain_j5 z p1 n5) → ∀ (ls : Array Slot), lv_has ls 5 [(0, .ref h0), (1, .int p1), (4, .int x4_5)] → W p l e (headSpec wsX6_isInChain ({ frames := 1, cells := 0, slots := 0, locals := 22 })).room s m ([.ref h0, .int p1, .int p2] : List Value).toArray below meth c s.heap [] 0 0 (MQ below (vp_Si (fun r9 : Int32 => r9 = vm_bi rr)) ([.ref h0, .int p1, .int p2] : List Value).toArray s 0 0 (fun _ => False)) (F0 m 21 ls []) := by
        intro eF eO ls hl
        rw [o_X6_isInChain_j21] at eO
        refine lv_iconst (v := 1) hx hb dX6_isInChain_21 (by decide) ?_
        refine lv_goto (tgt := 26) hx hb dX6_isInChain_22 (by decide) ?_
        exact hJ26 true (eF.trans (by rw [f_X6_isInChain_j21])) eO ls (lv_sub hl [0, 1, 2] rfl)
      refine lv_iload hx hb dX6_isInChain_5 (lv_at hl 3 rfl) ?_
      refine lv_iconst (v := (-1)) hx hb dX6_isInChain_7 (by decide) ?_
      refine lv_icmp_eq (tgt := 39) hx hb dX6_isInChain_8 (by decide) (fun c_2 => ?_) (fun c_2 => ?_)
      · rw [if_pos c_2] at eO
        refine lv_iload_n hx hb dX6_isInChain_39 rfl (lv_at hl 2 rfl) ?_
        have e9 : rr = x3_5 := eF.trans (by rw [f_X6_isInChain_j5, if_pos c_2])
        exact W.zret (v := vm_bi x3_5) hx hb hr (vm_bi_nw _) (fun t ht hW => ⟨_, rfl, by rw [e9] <;> rfl, ht⟩) (fun _ hq => by cases hq) dX6_isInChain_40
      · rw [if_neg c_2] at eO
        refine lv_iload_n hx hb dX6_isInChain_11 rfl (lv_at hl 2 rfl) ?_
        refine lv_if_ne (tgt := 21) hx hb dX6_isInChain_12 (by decide) (fun c_3 => ?_) (fun c_3 => ?_)
        · rw [if_neg c_3] at eO
          exact hJ21 (eF.trans (by rw [f_X6_isInChain_j5, if_neg c_2, if_neg c_3])) eO ls (lv_sub hl [0, 1, 3] rfl)
        · rw [if_pos c_3] at eO
          refine lv_iload hx hb dX6_isInChain_15 (lv_at hl 3 rfl) ?_
          refine lv_iload_n hx hb dX6_isInChain_17 rfl (lv_at hl 1 rfl) ?_
          refine lv_icmp_ne (tgt := 25) hx hb dX6_isInChain_18 (by decide) (fun c_4 => ?_) (fun c_4 => ?_)
          · rw [if_neg c_4] at eO
            refine lv_iconst (v := 0) hx hb dX6_isInChain_25 (by decide) ?_
            exact hJ26 false (eF.trans (by rw [f_X6_isInChain_j5, if_neg c_2, if_pos c_3, if_neg c_4])) eO ls (lv_sub hl [0, 1, 3] rfl)
          · rw [if_pos c_4] at eO
            exact hJ21 (eF.trans (by rw [f_X6_isInChain_j5, if_neg c_2, if_pos c_3, if_pos c_4])) eO ls (lv_sub hl [0, 1, 3] rfl)
  rw [o_X6_isInChain] at eO
  refine lv_iconst (v := 0) hx hb dX6_isInChain_0 (by decide) ?_
  refine lv_istore_n (lv' := [(3, .int 0), (0, .ref h0), (1, .int p1), (2, .int p2)]) hx hb dX6_isInChain_1 rfl hl (by decide) rfl (fun ls hl => ?_)
  refine lv_iload_n hx hb dX6_isInChain_2 rfl (lv_at hl 3 rfl) ?_
  refine lv_istore (lv' := [(4, .int p2), (3, .int 0), (0, .ref h0), (1, .int p1), (2, .int p2)]) hx hb dX6_isInChain_3 hl (by decide) rfl (fun ls hl => ?_)
  exact hJ5 1000 false p2 (eF.trans (by rw [f_X6_isInChain])) eO ls (lv_sub hl [2, 3, 1, 0] rfl)

def f_X6_chainOf_j4 (z : Nat → Int32) : Nat → Int32 → Int32 → Int32
  | 0, _, _ => 0
  | n4 + 1, x2_4, x3_4 => if x3_4 = (-1) then
      x2_4
    else
      f_X6_chainOf_j4 z n4 (x2_4 + 1) (f_X6_of z x3_4 0)
def f_X6_chainOf (z : Nat → Int32) (p1 : Int32) : Int32 :=
  f_X6_chainOf_j4 z 1000 0 p1
def o_X6_chainOf_j4 (z : Nat → Int32) : Nat → Int32 → Int32 → Prop
  | 0, _, _ => False
  | n4 + 1, x2_4, x3_4 => if x3_4 = (-1) then
      True
    else
      o_X6_of z x3_4 0 ∧
      (o_X6_chainOf_j4 z n4 (x2_4 + 1) (f_X6_of z x3_4 0))
def o_X6_chainOf (z : Nat → Int32) (p1 : Int32) : Prop :=
  o_X6_chainOf_j4 z 1000 0 p1
theorem yd_X6_chainOf : yX6_chainOf.cls = RX6 ∧ yX6_chainOf.cls ≠ "java/lang/invoke/MethodHandle" ∧ yX6_chainOf.cls ≠ "java/lang/invoke/VarHandle" ∧ (parseMethodDescriptor yX6_chainOf.desc).map (fun d => d.parameters.length) = some 1 := by decide +kernel
set_option maxHeartbeats 4000000 in
set_option maxRecDepth 100000 in
theorem c_X6_chainOf (l : Launch) (dC : Nat → ClassId) (dI : Nat → Nat → Nat) (cI cB : ClassId) (h0 h1 h2 h3 h4 : Nat) (states : Int32) (ln : Int32) (thr : Int32) (rd : Int32) (num : Int32) (due : Int32) (hash : Int64) (z : Nat → Int32) (hi : Nat → Int32) (tx : Nat → Int32) (pa : Nat → Int32) (p1 : Int32) (eO : o_X6_chainOf z p1) : Met l yX6_chainOf wsX6_chainOf ({ frames := 1, cells := 0, slots := 0, locals := 22 }) (vm_pre [.ref h0, .int p1] (dC, dI) [(h0, .inr (6, [.ref h1, .int states, .ref h2, .int ln, .ref h3, .int thr, .ref h4, .int rd, .int num, .int due, .long hash])), (h1, .inl (cI, 163, .inl z)), (h2, .inl (cI, 978, .inl hi)), (h3, .inl (cI, 60, .inl tx)), (h4, .inl (cI, 42, .inl pa))] cI cB) (vp_Si (fun r9 : Int32 => r9 = (f_X6_chainOf z p1))) 0 0 (fun _ => False) := by
  refine Met.ofW (cc := cX6_chainOf) (maxL := 4) (ret := (some .int)) (by decide) rfl ?_
  intro p e s m args below meth c s₁ B hml hv
  obtain ⟨rfl, hP, hK, hN⟩ := hv
  have hx := B.exec
  have hb := B.bytes
  have hr := B.returns
  have hts := atoms_spec (ws := wsX6_chainOf) B.pre
  have hown : s.vm.findClass RX6 = some m.cls := findClass_of_methodNamed B.named
  have hlocks := B.notSynchronized
  generalize hrr : f_X6_chainOf z p1 = rr
  have eF := hrr.symm
  have hl := lv_entry ([.ref h0, .int p1]) (n := 4) (Nat.le_of_ble_eq_true rfl)
  rw [lg_entry_eq]
  generalize (lg_sl ([.ref h0, .int p1]) ++ List.replicate (4 - (lg_sl ([.ref h0, .int p1])).length) Slot.unset).toArray = ls at hl ⊢
  have hl : lv_has ls 4 [(0, .ref h0), (1, .int p1)] := hl
  have hJ4 : ∀ (n4 : Nat) (x2_4 : Int32) (x3_4 : Int32), rr = f_X6_chainOf_j4 z n4 x2_4 x3_4 → o_X6_chainOf_j4 z n4 x2_4 x3_4 → ∀ (ls : Array Slot), lv_has ls 4 [(0, .ref h0), (2, .int x2_4), (3, .int x3_4)] → W p l e (headSpec wsX6_chainOf ({ frames := 1, cells := 0, slots := 0, locals := 22 })).room s m ([.ref h0, .int p1] : List Value).toArray below meth c s.heap [] 0 0 (MQ below (vp_Si (fun r9 : Int32 => r9 = rr)) ([.ref h0, .int p1] : List Value).toArray s 0 0 (fun _ => False)) (F0 m 4 ls []) := by
    intro n4
    induction n4 with
    | zero =>
      intro x2_4 x3_4 eF eO
      exact False.elim eO
    | succ n4 ih4 =>
      intro x2_4 x3_4 eF eO ls hl
      rw [o_X6_chainOf_j4] at eO
      refine lv_iload_n hx hb dX6_chainOf_4 rfl (lv_at hl 2 rfl) ?_
      refine lv_iconst (v := (-1)) hx hb dX6_chainOf_5 (by decide) ?_
      refine lv_icmp_eq (tgt := 22) hx hb dX6_chainOf_6 (by decide) (fun c_1 => ?_) (fun c_1 => ?_)
      · rw [if_pos c_1] at eO
        refine lv_iload_n hx hb dX6_chainOf_22 rfl (lv_at hl 1 rfl) ?_
        have e9 : rr = x2_4 := eF.trans (by rw [f_X6_chainOf_j4, if_pos c_1])
        exact W.iret (v := x2_4) hx hb hr (fun t ht hW => ⟨_, rfl, e9.symm, ht⟩) (fun _ hq => by cases hq) dX6_chainOf_23
      · rw [if_neg c_1] at eO
        refine lv_iinc (v := (x2_4 + 1)) (lv' := [(2, .int (x2_4 + 1)), (0, .ref h0), (3, .int x3_4)]) hx hb dX6_chainOf_9 hl (k := 1) rfl rfl (by decide) rfl (fun ls hl => ?_)
        refine lv_aload_n hx hb dX6_chainOf_12 rfl (lv_at hl 1 rfl) ?_
        refine lv_iload_n hx hb dX6_chainOf_13 rfl (lv_at hl 2 rfl) ?_
        refine lv_iconst (v := 0) hx hb dX6_chainOf_14 (by decide) ?_
        obtain ⟨hv_2, eO⟩ := eO
        refine vm_roVx (v := (f_X6_of z x3_4 0)) (As := [.int x3_4, .int 0]) (rest := []) (T := TX6) (N := 11) (wc := [(h0, .inr (6, [.ref h1, .int states, .ref h2, .int ln, .ref h3, .int thr, .ref h4, .int rd, .int num, .int due, .long hash])), (h1, .inl (cI, 163, .inl z)), (h2, .inl (cI, 978, .inl hi)), (h3, .inl (cI, 60, .inl tx)), (h4, .inl (cI, 42, .inl pa))]) ⟨hx, hb, hml, hown, hts⟩ hK hN hP hl.1 ⟨Nat.le_of_ble_eq_true rfl, Nat.le_of_ble_eq_true rfl⟩ (c_X6_of l dC dI cI cB h0 h1 h2 h3 h4 states ln thr rd num due hash z hi tx pa x3_4 0 hv_2) (cwV 2 hts gX6_chainOf_X6_of rfl rfl rfl yd_X6_of ⟨Nat.le_of_ble_eq_true rfl, Nat.le_of_ble_eq_true rfl⟩) [0, 1, 2, 3, 4] rfl 6 rfl rfl rfl rfl (Nat.le_of_ble_eq_true rfl) dX6_chainOf_15 ?_
        refine lv_istore_n (lv' := [(3, .int (f_X6_of z x3_4 0)), (2, .int (x2_4 + 1)), (0, .ref h0)]) hx hb dX6_chainOf_18 rfl hl (by decide) rfl (fun ls hl => ?_)
        refine lv_goto (tgt := 4) hx hb dX6_chainOf_19 (by decide) ?_
        exact ih4 (x2_4 + 1) (f_X6_of z x3_4 0) (eF.trans (by rw [f_X6_chainOf_j4, if_neg c_1])) eO ls (lv_sub hl [2, 1, 0] rfl)
  rw [o_X6_chainOf] at eO
  refine lv_iconst (v := 0) hx hb dX6_chainOf_0 (by decide) ?_
  refine lv_istore_n (lv' := [(2, .int 0), (0, .ref h0), (1, .int p1)]) hx hb dX6_chainOf_1 rfl hl (by decide) rfl (fun ls hl => ?_)
  refine lv_iload_n hx hb dX6_chainOf_2 rfl (lv_at hl 2 rfl) ?_
  refine lv_istore_n (lv' := [(3, .int p1), (2, .int 0), (0, .ref h0), (1, .int p1)]) hx hb dX6_chainOf_3 rfl hl (by decide) rfl (fun ls hl => ?_)
  exact hJ4 1000 0 p1 (eF.trans (by rw [f_X6_chainOf])) eO ls (lv_sub hl [2, 1, 0] rfl)

def f_X6_gapOf (z : Nat → Int32) (p1 : Int32) : Int32 :=
  ((f_X6_of z p1 3) - (f_X6_of z p1 6))
def o_X6_gapOf (z : Nat → Int32) (p1 : Int32) : Prop :=
  o_X6_of z p1 3 ∧
  (o_X6_of z p1 6 ∧
  (True))
theorem yd_X6_gapOf : yX6_gapOf.cls = RX6 ∧ yX6_gapOf.cls ≠ "java/lang/invoke/MethodHandle" ∧ yX6_gapOf.cls ≠ "java/lang/invoke/VarHandle" ∧ (parseMethodDescriptor yX6_gapOf.desc).map (fun d => d.parameters.length) = some 1 := by decide +kernel
set_option maxHeartbeats 4000000 in
set_option maxRecDepth 100000 in
theorem c_X6_gapOf (l : Launch) (dC : Nat → ClassId) (dI : Nat → Nat → Nat) (cI cB : ClassId) (h0 h1 h2 h3 h4 : Nat) (states : Int32) (ln : Int32) (thr : Int32) (rd : Int32) (num : Int32) (due : Int32) (hash : Int64) (z : Nat → Int32) (hi : Nat → Int32) (tx : Nat → Int32) (pa : Nat → Int32) (p1 : Int32) (eO : o_X6_gapOf z p1) : Met l yX6_gapOf wsX6_gapOf ({ frames := 1, cells := 0, slots := 0, locals := 22 }) (vm_pre [.ref h0, .int p1] (dC, dI) [(h0, .inr (6, [.ref h1, .int states, .ref h2, .int ln, .ref h3, .int thr, .ref h4, .int rd, .int num, .int due, .long hash])), (h1, .inl (cI, 163, .inl z)), (h2, .inl (cI, 978, .inl hi)), (h3, .inl (cI, 60, .inl tx)), (h4, .inl (cI, 42, .inl pa))] cI cB) (vp_Si (fun r9 : Int32 => r9 = (f_X6_gapOf z p1))) 0 0 (fun _ => False) := by
  refine Met.ofW (cc := cX6_gapOf) (maxL := 2) (ret := (some .int)) (by decide) rfl ?_
  intro p e s m args below meth c s₁ B hml hv
  obtain ⟨rfl, hP, hK, hN⟩ := hv
  have hx := B.exec
  have hb := B.bytes
  have hr := B.returns
  have hts := atoms_spec (ws := wsX6_gapOf) B.pre
  have hown : s.vm.findClass RX6 = some m.cls := findClass_of_methodNamed B.named
  have hlocks := B.notSynchronized
  generalize hrr : f_X6_gapOf z p1 = rr
  have eF := hrr.symm
  have hl := lv_entry ([.ref h0, .int p1]) (n := 2) (Nat.le_of_ble_eq_true rfl)
  rw [lg_entry_eq]
  generalize (lg_sl ([.ref h0, .int p1]) ++ List.replicate (2 - (lg_sl ([.ref h0, .int p1])).length) Slot.unset).toArray = ls at hl ⊢
  have hl : lv_has ls 2 [(0, .ref h0), (1, .int p1)] := hl
  rw [o_X6_gapOf] at eO
  refine lv_aload_n hx hb dX6_gapOf_0 rfl (lv_at hl 0 rfl) ?_
  refine lv_iload_n hx hb dX6_gapOf_1 rfl (lv_at hl 1 rfl) ?_
  refine lv_iconst (v := 3) hx hb dX6_gapOf_2 (by decide) ?_
  obtain ⟨hv_1, eO⟩ := eO
  refine vm_roVx (v := (f_X6_of z p1 3)) (As := [.int p1, .int 3]) (rest := []) (T := TX6) (N := 11) (wc := [(h0, .inr (6, [.ref h1, .int states, .ref h2, .int ln, .ref h3, .int thr, .ref h4, .int rd, .int num, .int due, .long hash])), (h1, .inl (cI, 163, .inl z)), (h2, .inl (cI, 978, .inl hi)), (h3, .inl (cI, 60, .inl tx)), (h4, .inl (cI, 42, .inl pa))]) ⟨hx, hb, hml, hown, hts⟩ hK hN hP hl.1 ⟨Nat.le_of_ble_eq_true rfl, Nat.le_of_ble_eq_true rfl⟩ (c_X6_of l dC dI cI cB h0 h1 h2 h3 h4 states ln thr rd num due hash z hi tx pa p1 3 hv_1) (cwV 2 hts gX6_gapOf_X6_of rfl rfl rfl yd_X6_of ⟨Nat.le_of_ble_eq_true rfl, Nat.le_of_ble_eq_true rfl⟩) [0, 1, 2, 3, 4] rfl 6 rfl rfl rfl rfl (Nat.le_of_ble_eq_true rfl) dX6_gapOf_3 ?_
  refine lv_aload_n hx hb dX6_gapOf_6 rfl (lv_at hl 0 rfl) ?_
  refine lv_iload_n hx hb dX6_gapOf_7 rfl (lv_at hl 1 rfl) ?_
  refine lv_bipush (v := 6) hx hb dX6_gapOf_8 (by decide) ?_
  obtain ⟨hv_2, eO⟩ := eO
  refine vm_roVx (v := (f_X6_of z p1 6)) (As := [.int p1, .int 6]) (rest := [.int (f_X6_of z p1 3)]) (T := TX6) (N := 11) (wc := [(h0, .inr (6, [.ref h1, .int states, .ref h2, .int ln, .ref h3, .int thr, .ref h4, .int rd, .int num, .int due, .long hash])), (h1, .inl (cI, 163, .inl z)), (h2, .inl (cI, 978, .inl hi)), (h3, .inl (cI, 60, .inl tx)), (h4, .inl (cI, 42, .inl pa))]) ⟨hx, hb, hml, hown, hts⟩ hK hN hP hl.1 ⟨Nat.le_of_ble_eq_true rfl, Nat.le_of_ble_eq_true rfl⟩ (c_X6_of l dC dI cI cB h0 h1 h2 h3 h4 states ln thr rd num due hash z hi tx pa p1 6 hv_2) (cwV 2 hts gX6_gapOf_X6_of rfl rfl rfl yd_X6_of ⟨Nat.le_of_ble_eq_true rfl, Nat.le_of_ble_eq_true rfl⟩) [0, 1, 2, 3, 4] rfl 6 rfl rfl rfl rfl (Nat.le_of_ble_eq_true rfl) dX6_gapOf_10 ?_
  refine lv_isub hx hb dX6_gapOf_13 ?_
  have e9 : rr = ((f_X6_of z p1 3) - (f_X6_of z p1 6)) := eF.trans (by rw [f_X6_gapOf])
  exact W.iret (v := ((f_X6_of z p1 3) - (f_X6_of z p1 6))) hx hb hr (fun t ht hW => ⟨_, rfl, e9.symm, ht⟩) (fun _ hq => by cases hq) dX6_gapOf_14

def f_X6_narrowestOf_j27 (z : Nat → Int32) (x3_4 : Int32) (kj4 : Int32 → Int32 → Int32) (s0_27 : Int32) : Int32 :=
  kj4 s0_27 (f_X6_of z x3_4 0)
def f_X6_narrowestOf_j4 (z : Nat → Int32) : Nat → Int32 → Int32 → Int32
  | 0, _, _ => 0
  | n4 + 1, x2_4, x3_4 => if x3_4 = (-1) then
      x2_4
    else
      if (f_X6_gapOf z x2_4) ≤ (f_X6_gapOf z x3_4) then
        f_X6_narrowestOf_j27 z x3_4 (f_X6_narrowestOf_j4 z n4) x2_4
      else
        f_X6_narrowestOf_j27 z x3_4 (f_X6_narrowestOf_j4 z n4) x3_4
def f_X6_narrowestOf (z : Nat → Int32) (p1 : Int32) : Int32 :=
  f_X6_narrowestOf_j4 z 1000 p1 p1
def o_X6_narrowestOf_j27 (z : Nat → Int32) (x3_4 : Int32) (koj4 : Int32 → Int32 → Prop) (s0_27 : Int32) : Prop :=
  o_X6_of z x3_4 0 ∧
  (koj4 s0_27 (f_X6_of z x3_4 0))
def o_X6_narrowestOf_j4 (z : Nat → Int32) : Nat → Int32 → Int32 → Prop
  | 0, _, _ => False
  | n4 + 1, x2_4, x3_4 => if x3_4 = (-1) then
      True
    else
      o_X6_gapOf z x3_4 ∧
      (o_X6_gapOf z x2_4 ∧
      (if (f_X6_gapOf z x2_4) ≤ (f_X6_gapOf z x3_4) then
        o_X6_narrowestOf_j27 z x3_4 (o_X6_narrowestOf_j4 z n4) x2_4
      else
        o_X6_narrowestOf_j27 z x3_4 (o_X6_narrowestOf_j4 z n4) x3_4))
def o_X6_narrowestOf (z : Nat → Int32) (p1 : Int32) : Prop :=
  o_X6_narrowestOf_j4 z 1000 p1 p1
theorem yd_X6_narrowestOf : yX6_narrowestOf.cls = RX6 ∧ yX6_narrowestOf.cls ≠ "java/lang/invoke/MethodHandle" ∧ yX6_narrowestOf.cls ≠ "java/lang/invoke/VarHandle" ∧ (parseMethodDescriptor yX6_narrowestOf.desc).map (fun d => d.parameters.length) = some 1 := by decide +kernel
set_option maxHeartbeats 4000000 in
set_option maxRecDepth 100000 in
theorem c_X6_narrowestOf (l : Launch) (dC : Nat → ClassId) (dI : Nat → Nat → Nat) (cI cB : ClassId) (h0 h1 h2 h3 h4 : Nat) (states : Int32) (ln : Int32) (thr : Int32) (rd : Int32) (num : Int32) (due : Int32) (hash : Int64) (z : Nat → Int32) (hi : Nat → Int32) (tx : Nat → Int32) (pa : Nat → Int32) (p1 : Int32) (eO : o_X6_narrowestOf z p1) : Met l yX6_narrowestOf wsX6_narrowestOf ({ frames := 2, cells := 0, slots := 0, locals := 43 }) (vm_pre [.ref h0, .int p1] (dC, dI) [(h0, .inr (6, [.ref h1, .int states, .ref h2, .int ln, .ref h3, .int thr, .ref h4, .int rd, .int num, .int due, .long hash])), (h1, .inl (cI, 163, .inl z)), (h2, .inl (cI, 978, .inl hi)), (h3, .inl (cI, 60, .inl tx)), (h4, .inl (cI, 42, .inl pa))] cI cB) (vp_Si (fun r9 : Int32 => r9 = (f_X6_narrowestOf z p1))) 0 0 (fun _ => False) := by
  refine Met.ofW (cc := cX6_narrowestOf) (maxL := 4) (ret := (some .int)) (by decide) rfl ?_
  intro p e s m args below meth c s₁ B hml hv
  obtain ⟨rfl, hP, hK, hN⟩ := hv
  have hx := B.exec
  have hb := B.bytes
  have hr := B.returns
  have hts := atoms_spec (ws := wsX6_narrowestOf) B.pre
  have hown : s.vm.findClass RX6 = some m.cls := findClass_of_methodNamed B.named
  have hlocks := B.notSynchronized
  generalize hrr : f_X6_narrowestOf z p1 = rr
  have eF := hrr.symm
  have hl := lv_entry ([.ref h0, .int p1]) (n := 4) (Nat.le_of_ble_eq_true rfl)
  rw [lg_entry_eq]
  generalize (lg_sl ([.ref h0, .int p1]) ++ List.replicate (4 - (lg_sl ([.ref h0, .int p1])).length) Slot.unset).toArray = ls at hl ⊢
  have hl : lv_has ls 4 [(0, .ref h0), (1, .int p1)] := hl
  have hJ4 : ∀ (n4 : Nat) (x2_4 : Int32) (x3_4 : Int32), rr = f_X6_narrowestOf_j4 z n4 x2_4 x3_4 → o_X6_narrowestOf_j4 z n4 x2_4 x3_4 → ∀ (ls : Array Slot), lv_has ls 4 [(0, .ref h0), (2, .int x2_4), (3, .int x3_4)] → W p l e (headSpec wsX6_narrowestOf ({ frames := 2, cells := 0, slots := 0, locals := 43 })).room s m ([.ref h0, .int p1] : List Value).toArray below meth c s.heap [] 0 0 (MQ below (vp_Si (fun r9 : Int32 => r9 = rr)) ([.ref h0, .int p1] : List Value).toArray s 0 0 (fun _ => False)) (F0 m 4 ls []) := by
    intro n4
    induction n4 with
    | zero =>
      intro x2_4 x3_4 eF eO
      exact False.elim eO
    | succ n4 ih4 =>
      intro x2_4 x3_4 eF eO ls hl
      rw [o_X6_narrowestOf_j4] at eO
      have hJ27 : ∀ (s0_27 : Int32), rr = f_X6_narrowestOf_j27 z x3_4 (f_X6_narrowestOf_j4 z n4) s0_27 → o_X6_narrowestOf_j27 z x3_4 (o_X6_narrowestOf_j4 z n4) s0_27 → ∀ (ls : Array Slot), lv_has ls 4 [(0, .ref h0), (3, .int x3_4)] → W p l e (headSpec wsX6_narrowestOf ({ frames := 2, cells := 0, slots := 0, locals := 43 })).room s m ([.ref h0, .int p1] : List Value).toArray below meth c s.heap [] 0 0 (MQ below (vp_Si (fun r9 : Int32 => r9 = rr)) ([.ref h0, .int p1] : List Value).toArray s 0 0 (fun _ => False)) (F0 m 27 ls [.int s0_27]) := by
        intro s0_27 eF eO ls hl
        rw [o_X6_narrowestOf_j27] at eO
        refine lv_istore_n (lv' := [(2, .int s0_27), (0, .ref h0), (3, .int x3_4)]) hx hb dX6_narrowestOf_27 rfl hl (by decide) rfl (fun ls hl => ?_)
        refine lv_aload_n hx hb dX6_narrowestOf_28 rfl (lv_at hl 1 rfl) ?_
        refine lv_iload_n hx hb dX6_narrowestOf_29 rfl (lv_at hl 2 rfl) ?_
        refine lv_iconst (v := 0) hx hb dX6_narrowestOf_30 (by decide) ?_
        obtain ⟨hv_1, eO⟩ := eO
        refine vm_roVx (v := (f_X6_of z x3_4 0)) (As := [.int x3_4, .int 0]) (rest := []) (T := TX6) (N := 11) (wc := [(h0, .inr (6, [.ref h1, .int states, .ref h2, .int ln, .ref h3, .int thr, .ref h4, .int rd, .int num, .int due, .long hash])), (h1, .inl (cI, 163, .inl z)), (h2, .inl (cI, 978, .inl hi)), (h3, .inl (cI, 60, .inl tx)), (h4, .inl (cI, 42, .inl pa))]) ⟨hx, hb, hml, hown, hts⟩ hK hN hP hl.1 ⟨Nat.le_of_ble_eq_true rfl, Nat.le_of_ble_eq_true rfl⟩ (c_X6_of l dC dI cI cB h0 h1 h2 h3 h4 states ln thr rd num due hash z hi tx pa x3_4 0 hv_1) (cwV 2 hts gX6_narrowestOf_X6_of rfl rfl rfl yd_X6_of ⟨Nat.le_of_ble_eq_true rfl, Nat.le_of_ble_eq_true rfl⟩) [0, 1, 2, 3, 4] rfl 6 rfl rfl rfl rfl (Nat.le_of_ble_eq_true rfl) dX6_narrowestOf_31 ?_
        refine lv_istore_n (lv' := [(3, .int (f_X6_of z x3_4 0)), (2, .int s0_27), (0, .ref h0)]) hx hb dX6_narrowestOf_34 rfl hl (by decide) rfl (fun ls hl => ?_)
        refine lv_goto (tgt := 4) hx hb dX6_narrowestOf_35 (by decide) ?_
        exact ih4 s0_27 (f_X6_of z x3_4 0) (eF.trans (by rw [f_X6_narrowestOf_j27])) eO ls (lv_sub hl [2, 1, 0] rfl)
      refine lv_iload_n hx hb dX6_narrowestOf_4 rfl (lv_at hl 2 rfl) ?_
      refine lv_iconst (v := (-1)) hx hb dX6_narrowestOf_5 (by decide) ?_
      refine lv_icmp_eq (tgt := 38) hx hb dX6_narrowestOf_6 (by decide) (fun c_2 => ?_) (fun c_2 => ?_)
      · rw [if_pos c_2] at eO
        refine lv_iload_n hx hb dX6_narrowestOf_38 rfl (lv_at hl 1 rfl) ?_
        have e9 : rr = x2_4 := eF.trans (by rw [f_X6_narrowestOf_j4, if_pos c_2])
        exact W.iret (v := x2_4) hx hb hr (fun t ht hW => ⟨_, rfl, e9.symm, ht⟩) (fun _ hq => by cases hq) dX6_narrowestOf_39
      · rw [if_neg c_2] at eO
        refine lv_aload_n hx hb dX6_narrowestOf_9 rfl (lv_at hl 0 rfl) ?_
        refine lv_iload_n hx hb dX6_narrowestOf_10 rfl (lv_at hl 2 rfl) ?_
        obtain ⟨hv_3, eO⟩ := eO
        refine vm_roVx (v := (f_X6_gapOf z x3_4)) (As := [.int x3_4]) (rest := []) (T := TX6) (N := 11) (wc := [(h0, .inr (6, [.ref h1, .int states, .ref h2, .int ln, .ref h3, .int thr, .ref h4, .int rd, .int num, .int due, .long hash])), (h1, .inl (cI, 163, .inl z)), (h2, .inl (cI, 978, .inl hi)), (h3, .inl (cI, 60, .inl tx)), (h4, .inl (cI, 42, .inl pa))]) ⟨hx, hb, hml, hown, hts⟩ hK hN hP hl.1 ⟨Nat.le_of_ble_eq_true rfl, Nat.le_of_ble_eq_true rfl⟩ (c_X6_gapOf l dC dI cI cB h0 h1 h2 h3 h4 states ln thr rd num due hash z hi tx pa x3_4 hv_3) (cwV 1 hts gX6_narrowestOf_X6_gapOf rfl rfl rfl yd_X6_gapOf ⟨Nat.le_of_ble_eq_true rfl, Nat.le_of_ble_eq_true rfl⟩) [0, 1, 2, 3, 4] rfl 6 rfl rfl rfl rfl (Nat.le_of_ble_eq_true rfl) dX6_narrowestOf_11 ?_
        refine lv_aload_n hx hb dX6_narrowestOf_14 rfl (lv_at hl 0 rfl) ?_
        refine lv_iload_n hx hb dX6_narrowestOf_15 rfl (lv_at hl 1 rfl) ?_
        obtain ⟨hv_4, eO⟩ := eO
        refine vm_roVx (v := (f_X6_gapOf z x2_4)) (As := [.int x2_4]) (rest := [.int (f_X6_gapOf z x3_4)]) (T := TX6) (N := 11) (wc := [(h0, .inr (6, [.ref h1, .int states, .ref h2, .int ln, .ref h3, .int thr, .ref h4, .int rd, .int num, .int due, .long hash])), (h1, .inl (cI, 163, .inl z)), (h2, .inl (cI, 978, .inl hi)), (h3, .inl (cI, 60, .inl tx)), (h4, .inl (cI, 42, .inl pa))]) ⟨hx, hb, hml, hown, hts⟩ hK hN hP hl.1 ⟨Nat.le_of_ble_eq_true rfl, Nat.le_of_ble_eq_true rfl⟩ (c_X6_gapOf l dC dI cI cB h0 h1 h2 h3 h4 states ln thr rd num due hash z hi tx pa x2_4 hv_4) (cwV 1 hts gX6_narrowestOf_X6_gapOf rfl rfl rfl yd_X6_gapOf ⟨Nat.le_of_ble_eq_true rfl, Nat.le_of_ble_eq_true rfl⟩) [0, 1, 2, 3, 4] rfl 6 rfl rfl rfl rfl (Nat.le_of_ble_eq_true rfl) dX6_narrowestOf_16 ?_
        refine lv_icmp_ge (tgt := 26) hx hb dX6_narrowestOf_19 (by decide) (fun c_5 => ?_) (fun c_5 => ?_)
        · rw [if_pos c_5] at eO
          refine lv_iload_n hx hb dX6_narrowestOf_26 rfl (lv_at hl 1 rfl) ?_
          exact hJ27 x2_4 (eF.trans (by rw [f_X6_narrowestOf_j4, if_neg c_2, if_pos c_5])) eO ls (lv_sub hl [0, 2] rfl)
        · rw [if_neg c_5] at eO
          refine lv_iload_n hx hb dX6_narrowestOf_22 rfl (lv_at hl 2 rfl) ?_
          refine lv_goto (tgt := 27) hx hb dX6_narrowestOf_23 (by decide) ?_
          exact hJ27 x3_4 (eF.trans (by rw [f_X6_narrowestOf_j4, if_neg c_2, if_neg c_5])) eO ls (lv_sub hl [0, 2] rfl)
  rw [o_X6_narrowestOf] at eO
  refine lv_iload_n hx hb dX6_narrowestOf_0 rfl (lv_at hl 1 rfl) ?_
  refine lv_istore_n (lv' := [(2, .int p1), (0, .ref h0), (1, .int p1)]) hx hb dX6_narrowestOf_1 rfl hl (by decide) rfl (fun ls hl => ?_)
  refine lv_iload_n hx hb dX6_narrowestOf_2 rfl (lv_at hl 2 rfl) ?_
  refine lv_istore_n (lv' := [(3, .int p1), (2, .int p1), (0, .ref h0), (1, .int p1)]) hx hb dX6_narrowestOf_3 rfl hl (by decide) rfl (fun ls hl => ?_)
  exact hJ4 1000 p1 p1 (eF.trans (by rw [f_X6_narrowestOf])) eO ls (lv_sub hl [2, 1, 0] rfl)

def f_X6_standingUnder_j39 (x2_4 : Int32) (x3_4 : Int32) (kj4 : Int32 → Int32 → Int32) (s0_39 : Int32) : Int32 :=
  kj4 (x2_4 ||| s0_39) (x3_4 + 1)
def f_X6_standingUnder_j38 (x2_4 : Int32) (x3_4 : Int32) (kj4 : Int32 → Int32 → Int32) : Int32 :=
  f_X6_standingUnder_j39 x2_4 x3_4 kj4 0
def f_X6_standingUnder_j4 (z : Nat → Int32) (p1 : Int32) : Nat → Int32 → Int32 → Int32
  | 0, _, _ => 0
  | n4 + 1, x2_4, x3_4 => if (z (Int32.toNatClampNeg 3)) ≤ x3_4 then
      x2_4
    else
      if (vm_bi (f_X6_stands z x3_4)) = 0 then
        f_X6_standingUnder_j38 x2_4 x3_4 (f_X6_standingUnder_j4 z p1 n4)
      else
        if (vm_bi (f_X6_isInChain z p1 x3_4)) = 0 then
          f_X6_standingUnder_j38 x2_4 x3_4 (f_X6_standingUnder_j4 z p1 n4)
        else
          f_X6_standingUnder_j39 x2_4 x3_4 (f_X6_standingUnder_j4 z p1 n4) (1 <<< (x3_4 &&& 31))
def f_X6_standingUnder (z : Nat → Int32) (p1 : Int32) : Int32 :=
  f_X6_standingUnder_j4 z p1 ((((z (Int32.toNatClampNeg 3))).toInt - ((0 : Int32)).toInt).toNat + 1) 0 0
def o_X6_standingUnder_j39 (x2_4 : Int32) (x3_4 : Int32) (koj4 : Int32 → Int32 → Prop) (s0_39 : Int32) : Prop :=
  koj4 (x2_4 ||| s0_39) (x3_4 + 1)
def o_X6_standingUnder_j38 (x2_4 : Int32) (x3_4 : Int32) (koj4 : Int32 → Int32 → Prop) : Prop :=
  o_X6_standingUnder_j39 x2_4 x3_4 koj4 0
def o_X6_standingUnder_j4 (z : Nat → Int32) (p1 : Int32) : Nat → Int32 → Int32 → Prop
  | 0, _, _ => True
  | n4 + 1, x2_4, x3_4 => if (z (Int32.toNatClampNeg 3)) ≤ x3_4 then
      True
    else
      o_X6_stands z x3_4 ∧
      (if (vm_bi (f_X6_stands z x3_4)) = 0 then
        o_X6_standingUnder_j38 x2_4 x3_4 (o_X6_standingUnder_j4 z p1 n4)
      else
        o_X6_isInChain z p1 x3_4 ∧
        (if (vm_bi (f_X6_isInChain z p1 x3_4)) = 0 then
          o_X6_standingUnder_j38 x2_4 x3_4 (o_X6_standingUnder_j4 z p1 n4)
        else
          o_X6_standingUnder_j39 x2_4 x3_4 (o_X6_standingUnder_j4 z p1 n4) (1 <<< (x3_4 &&& 31))))
def o_X6_standingUnder (z : Nat → Int32) (p1 : Int32) : Prop :=
  o_X6_standingUnder_j4 z p1 ((((z (Int32.toNatClampNeg 3))).toInt - ((0 : Int32)).toInt).toNat + 1) 0 0
theorem yd_X6_standingUnder : yX6_standingUnder.cls = RX6 ∧ yX6_standingUnder.cls ≠ "java/lang/invoke/MethodHandle" ∧ yX6_standingUnder.cls ≠ "java/lang/invoke/VarHandle" ∧ (parseMethodDescriptor yX6_standingUnder.desc).map (fun d => d.parameters.length) = some 1 := by decide +kernel
set_option maxHeartbeats 4000000 in
set_option maxRecDepth 100000 in
theorem c_X6_standingUnder (l : Launch) (dC : Nat → ClassId) (dI : Nat → Nat → Nat) (cI cB : ClassId) (h0 h1 h2 h3 h4 : Nat) (states : Int32) (ln : Int32) (thr : Int32) (rd : Int32) (num : Int32) (due : Int32) (hash : Int64) (z : Nat → Int32) (hi : Nat → Int32) (tx : Nat → Int32) (pa : Nat → Int32) (p1 : Int32) (eO : o_X6_standingUnder z p1) : Met l yX6_standingUnder wsX6_standingUnder ({ frames := 2, cells := 0, slots := 0, locals := 46 }) (vm_pre [.ref h0, .int p1] (dC, dI) [(h0, .inr (6, [.ref h1, .int states, .ref h2, .int ln, .ref h3, .int thr, .ref h4, .int rd, .int num, .int due, .long hash])), (h1, .inl (cI, 163, .inl z)), (h2, .inl (cI, 978, .inl hi)), (h3, .inl (cI, 60, .inl tx)), (h4, .inl (cI, 42, .inl pa))] cI cB) (vp_Si (fun r9 : Int32 => r9 = (f_X6_standingUnder z p1))) 0 0 (fun _ => False) := by
  refine Met.ofW (cc := cX6_standingUnder) (maxL := 4) (ret := (some .int)) (by decide) rfl ?_
  intro p e s m args below meth c s₁ B hml hv
  obtain ⟨rfl, hP, hK, hN⟩ := hv
  have hx := B.exec
  have hb := B.bytes
  have hr := B.returns
  have hts := atoms_spec (ws := wsX6_standingUnder) B.pre
  have hown : s.vm.findClass RX6 = some m.cls := findClass_of_methodNamed B.named
  have hlocks := B.notSynchronized
  have kw1 := hts (.fieldLink RX6 7 "LapseMandatesModel" "z" "[I") (List.mem_of_getElem? (i := 1) rfl)
  have iwsX60 : ∀ w ∈ wsX60, w ∈ wsX6_standingUnder := fun w h => List.mem_cons_of_mem _ (List.mem_append_right _ h)
  generalize hrr : f_X6_standingUnder z p1 = rr
  have eF := hrr.symm
  have hl := lv_entry ([.ref h0, .int p1]) (n := 4) (Nat.le_of_ble_eq_true rfl)
  rw [lg_entry_eq]
  generalize (lg_sl ([.ref h0, .int p1]) ++ List.replicate (4 - (lg_sl ([.ref h0, .int p1])).length) Slot.unset).toArray = ls at hl ⊢
  have hl : lv_has ls 4 [(0, .ref h0), (1, .int p1)] := hl
  have hJ4 : ∀ (n4 : Nat) (x2_4 : Int32) (x3_4 : Int32), (((z (Int32.toNatClampNeg 3))).toInt - (x3_4).toInt).toNat < n4 → 0 ≤ x3_4 → rr = f_X6_standingUnder_j4 z p1 n4 x2_4 x3_4 → o_X6_standingUnder_j4 z p1 n4 x2_4 x3_4 → ∀ (ls : Array Slot), lv_has ls 4 [(0, .ref h0), (1, .int p1), (2, .int x2_4), (3, .int x3_4)] → W p l e (headSpec wsX6_standingUnder ({ frames := 2, cells := 0, slots := 0, locals := 46 })).room s m ([.ref h0, .int p1] : List Value).toArray below meth c s.heap [] 0 0 (MQ below (vp_Si (fun r9 : Int32 => r9 = rr)) ([.ref h0, .int p1] : List Value).toArray s 0 0 (fun _ => False)) (F0 m 4 ls []) := by
    intro n4
    induction n4 with
    | zero =>
      intro x2_4 x3_4 hm4
      exact absurd hm4 (Nat.not_lt_zero _)
    | succ n4 ih4 =>
      intro x2_4 x3_4 hm4 hi4 eF eO ls hl
      rw [o_X6_standingUnder_j4] at eO
      have hJ39 : ∀ (s0_39 : Int32), ¬ (z (Int32.toNatClampNeg 3)) ≤ x3_4 → rr = f_X6_standingUnder_j39 x2_4 x3_4 (f_X6_standingUnder_j4 z p1 n4) s0_39 → o_X6_standingUnder_j39 x2_4 x3_4 (o_X6_standingUnder_j4 z p1 n4) s0_39 → ∀ (ls : Array Slot), lv_has ls 4 [(0, .ref h0), (1, .int p1), (3, .int x3_4)] → W p l e (headSpec wsX6_standingUnder ({ frames := 2, cells := 0, slots := 0, locals := 46 })).room s m ([.ref h0, .int p1] : List Value).toArray below meth c s.heap [] 0 0 (MQ below (vp_Si (fun r9 : Int32 => r9 = rr)) ([.ref h0, .int p1] : List Value).toArray s 0 0 (fun _ => False)) (F0 m 39 ls [.int s0_39, .int x2_4]) := by
        intro s0_39 cL4 eF eO ls hl
        rw [o_X6_standingUnder_j39] at eO
        refine lv_ior hx hb dX6_standingUnder_39 ?_
        refine lv_istore_n (lv' := [(2, .int (x2_4 ||| s0_39)), (0, .ref h0), (1, .int p1), (3, .int x3_4)]) hx hb dX6_standingUnder_40 rfl hl (by decide) rfl (fun ls hl => ?_)
        refine lv_iinc (v := (x3_4 + 1)) (lv' := [(3, .int (x3_4 + 1)), (2, .int (x2_4 ||| s0_39)), (0, .ref h0), (1, .int p1)]) hx hb dX6_standingUnder_41 hl (k := 3) rfl rfl (by decide) rfl (fun ls hl => ?_)
        refine lv_goto (tgt := 4) hx hb dX6_standingUnder_44 (by decide) ?_
        exact ih4 (x2_4 ||| s0_39) (x3_4 + 1) (vm_up (vm_nle cL4) hm4) (vm_nn hi4 (vm_nle cL4)) (eF.trans (by rw [f_X6_standingUnder_j39])) eO ls (lv_sub hl [2, 3, 1, 0] rfl)
      have hJ38 : ¬ (z (Int32.toNatClampNeg 3)) ≤ x3_4 → rr = f_X6_standingUnder_j38 x2_4 x3_4 (f_X6_standingUnder_j4 z p1 n4) → o_X6_standingUnder_j38 x2_4 x3_4 (o_X6_standingUnder_j4 z p1 n4) → ∀ (ls : Array Slot), lv_has ls 4 [(0, .ref h0), (1, .int p1), (3, .int x3_4)] → W p l e (headSpec wsX6_standingUnder ({ frames := 2, cells := 0, slots := 0, locals := 46 })).room s m ([.ref h0, .int p1] : List Value).toArray below meth c s.heap [] 0 0 (MQ below (vp_Si (fun r9 : Int32 => r9 = rr)) ([.ref h0, .int p1] : List Value).toArray s 0 0 (fun _ => False)) (F0 m 38 ls [.int x2_4]) := by
        intro cL4 eF eO ls hl
        rw [o_X6_standingUnder_j38] at eO
        refine lv_iconst (v := 0) hx hb dX6_standingUnder_38 (by decide) ?_
        exact hJ39 0 cL4 (eF.trans (by rw [f_X6_standingUnder_j38])) eO ls (lv_sub hl [0, 1, 2] rfl)
      refine lv_iload_n hx hb dX6_standingUnder_4 rfl (lv_at hl 3 rfl) ?_
      refine lv_aload_n hx hb dX6_standingUnder_5 rfl (lv_at hl 0 rfl) ?_
      refine va_get (D := (dC, dI)) (ci := 6) (v := .ref h1) (C := RX6) (T := TX6) (N := 11) hx hb hts iwsX60 hown hK hP 0 rfl rfl 0 (by decide) kw1 (fun _ h9 => h9) rfl dX6_standingUnder_6 ?_
      refine lv_iconst (v := 3) hx hb dX6_standingUnder_9 (by decide) ?_
      refine va_iald hx hb hK hP 1 0 rfl rfl (by unfold vp_in; decide) dX6_standingUnder_10 ?_
      refine lv_icmp_ge (tgt := 47) hx hb dX6_standingUnder_11 (by decide) (fun cL4 => ?_) (fun cL4 => ?_)
      · rw [if_pos cL4] at eO
        refine lv_iload_n hx hb dX6_standingUnder_47 rfl (lv_at hl 2 rfl) ?_
        have e9 : rr = x2_4 := eF.trans (by rw [f_X6_standingUnder_j4, if_pos cL4])
        exact W.iret (v := x2_4) hx hb hr (fun t ht hW => ⟨_, rfl, e9.symm, ht⟩) (fun _ hq => by cases hq) dX6_standingUnder_48
      · rw [if_neg cL4] at eO
        refine lv_iload_n hx hb dX6_standingUnder_14 rfl (lv_at hl 2 rfl) ?_
        refine lv_aload_n hx hb dX6_standingUnder_15 rfl (lv_at hl 0 rfl) ?_
        refine lv_iload_n hx hb dX6_standingUnder_16 rfl (lv_at hl 3 rfl) ?_
        obtain ⟨hv_2, eO⟩ := eO
        refine vm_roVx (v := vm_bi (f_X6_stands z x3_4)) (As := [.int x3_4]) (rest := [.int x2_4]) (T := TX6) (N := 11) (wc := [(h0, .inr (6, [.ref h1, .int states, .ref h2, .int ln, .ref h3, .int thr, .ref h4, .int rd, .int num, .int due, .long hash])), (h1, .inl (cI, 163, .inl z)), (h2, .inl (cI, 978, .inl hi)), (h3, .inl (cI, 60, .inl tx)), (h4, .inl (cI, 42, .inl pa))]) ⟨hx, hb, hml, hown, hts⟩ hK hN hP hl.1 ⟨Nat.le_of_ble_eq_true rfl, Nat.le_of_ble_eq_true rfl⟩ (c_X6_stands l dC dI cI cB h0 h1 h2 h3 h4 states ln thr rd num due hash z hi tx pa x3_4 hv_2) (cwV 1 hts gX6_standingUnder_X6_stands rfl rfl rfl yd_X6_stands ⟨Nat.le_of_ble_eq_true rfl, Nat.le_of_ble_eq_true rfl⟩) [0, 1, 2, 3, 4] rfl 6 rfl rfl rfl rfl (Nat.le_of_ble_eq_true rfl) dX6_standingUnder_17 ?_
        refine lv_if_eq (tgt := 38) hx hb dX6_standingUnder_20 (by decide) (fun c_3 => ?_) (fun c_3 => ?_)
        · rw [if_pos c_3] at eO
          exact hJ38 cL4 (eF.trans (by rw [f_X6_standingUnder_j4, if_neg cL4, if_pos c_3])) eO ls (lv_sub hl [0, 1, 3] rfl)
        · rw [if_neg c_3] at eO
          refine lv_aload_n hx hb dX6_standingUnder_23 rfl (lv_at hl 0 rfl) ?_
          refine lv_iload_n hx hb dX6_standingUnder_24 rfl (lv_at hl 1 rfl) ?_
          refine lv_iload_n hx hb dX6_standingUnder_25 rfl (lv_at hl 3 rfl) ?_
          obtain ⟨hv_4, eO⟩ := eO
          refine vm_roVx (v := vm_bi (f_X6_isInChain z p1 x3_4)) (As := [.int p1, .int x3_4]) (rest := [.int x2_4]) (T := TX6) (N := 11) (wc := [(h0, .inr (6, [.ref h1, .int states, .ref h2, .int ln, .ref h3, .int thr, .ref h4, .int rd, .int num, .int due, .long hash])), (h1, .inl (cI, 163, .inl z)), (h2, .inl (cI, 978, .inl hi)), (h3, .inl (cI, 60, .inl tx)), (h4, .inl (cI, 42, .inl pa))]) ⟨hx, hb, hml, hown, hts⟩ hK hN hP hl.1 ⟨Nat.le_of_ble_eq_true rfl, Nat.le_of_ble_eq_true rfl⟩ (c_X6_isInChain l dC dI cI cB h0 h1 h2 h3 h4 states ln thr rd num due hash z hi tx pa p1 x3_4 hv_4) (cwV 2 hts gX6_standingUnder_X6_isInChain rfl rfl rfl yd_X6_isInChain ⟨Nat.le_of_ble_eq_true rfl, Nat.le_of_ble_eq_true rfl⟩) [0, 1, 2, 3, 4] rfl 6 rfl rfl rfl rfl (Nat.le_of_ble_eq_true rfl) dX6_standingUnder_26 ?_
          refine lv_if_eq (tgt := 38) hx hb dX6_standingUnder_29 (by decide) (fun c_5 => ?_) (fun c_5 => ?_)
          · rw [if_pos c_5] at eO
            exact hJ38 cL4 (eF.trans (by rw [f_X6_standingUnder_j4, if_neg cL4, if_neg c_3, if_pos c_5])) eO ls (lv_sub hl [0, 1, 3] rfl)
          · rw [if_neg c_5] at eO
            refine lv_iconst (v := 1) hx hb dX6_standingUnder_32 (by decide) ?_
            refine lv_iload_n hx hb dX6_standingUnder_33 rfl (lv_at hl 3 rfl) ?_
            refine lv_ishl hx hb dX6_standingUnder_34 ?_
            refine lv_goto (tgt := 39) hx hb dX6_standingUnder_35 (by decide) ?_
            exact hJ39 (1 <<< (x3_4 &&& 31)) cL4 (eF.trans (by rw [f_X6_standingUnder_j4, if_neg cL4, if_neg c_3, if_neg c_5])) eO ls (lv_sub hl [0, 1, 3] rfl)
  rw [o_X6_standingUnder] at eO
  refine lv_iconst (v := 0) hx hb dX6_standingUnder_0 (by decide) ?_
  refine lv_istore_n (lv' := [(2, .int 0), (0, .ref h0), (1, .int p1)]) hx hb dX6_standingUnder_1 rfl hl (by decide) rfl (fun ls hl => ?_)
  refine lv_iconst (v := 0) hx hb dX6_standingUnder_2 (by decide) ?_
  refine lv_istore_n (lv' := [(3, .int 0), (2, .int 0), (0, .ref h0), (1, .int p1)]) hx hb dX6_standingUnder_3 rfl hl (by decide) rfl (fun ls hl => ?_)
  exact hJ4 ((((z (Int32.toNatClampNeg 3))).toInt - ((0 : Int32)).toInt).toNat + 1) 0 0 (Nat.lt_succ_self _) (by decide) (eF.trans (by rw [f_X6_standingUnder])) eO ls (lv_sub hl [2, 3, 1, 0] rfl)

def f_X6_removeRequest_j18 : Nat → Int32 → (Nat → Int32) → (Nat → Int32)
  | 0, _, _ => (fun _ => 0)
  | n18 + 1, x2_18, z_18 => if (127 + (6 * (z_18 (Int32.toNatClampNeg 4)))) ≤ x2_18 then
      z_18
    else
      f_X6_removeRequest_j18 n18 (x2_18 + 1) (upd z_18 (Int32.toNatClampNeg x2_18) (z_18 (Int32.toNatClampNeg (x2_18 + 6))))
def f_X6_removeRequest (z : Nat → Int32) (p1 : Int32) : (Nat → Int32) :=
  f_X6_removeRequest_j18 1000 (127 + (6 * p1)) (upd z (Int32.toNatClampNeg 4) ((z (Int32.toNatClampNeg 4)) - 1))
def o_X6_removeRequest_j18 : Nat → Int32 → (Nat → Int32) → Prop
  | 0, _, _ => False
  | n18 + 1, x2_18, z_18 => if (127 + (6 * (z_18 (Int32.toNatClampNeg 4)))) ≤ x2_18 then
      True
    else
      vp_in (x2_18 + 6) 163 ∧
      (vp_in x2_18 163 ∧
      (o_X6_removeRequest_j18 n18 (x2_18 + 1) (upd z_18 (Int32.toNatClampNeg x2_18) (z_18 (Int32.toNatClampNeg (x2_18 + 6))))))
def o_X6_removeRequest (z : Nat → Int32) (p1 : Int32) : Prop :=
  o_X6_removeRequest_j18 1000 (127 + (6 * p1)) (upd z (Int32.toNatClampNeg 4) ((z (Int32.toNatClampNeg 4)) - 1))
theorem yd_X6_removeRequest : yX6_removeRequest.cls = RX6 ∧ yX6_removeRequest.cls ≠ "java/lang/invoke/MethodHandle" ∧ yX6_removeRequest.cls ≠ "java/lang/invoke/VarHandle" ∧ (parseMethodDescriptor yX6_removeRequest.desc).map (fun d => d.parameters.length) = some 1 := by decide +kernel
set_option maxHeartbeats 4000000 in
set_option maxRecDepth 100000 in
theorem c_X6_removeRequest (l : Launch) (dC : Nat → ClassId) (dI : Nat → Nat → Nat) (cI cB : ClassId) (h0 h1 h2 h3 h4 : Nat) (sz : Nat) (states : Int32) (ln : Int32) (thr : Int32) (rd : Int32) (num : Int32) (due : Int32) (hash : Int64) (z : Nat → Int32) (hi : Nat → Int32) (tx : Nat → Int32) (pa : Nat → Int32) (p1 : Int32) (eO : o_X6_removeRequest z p1) : Met l yX6_removeRequest wsX6_removeRequest ({ frames := 0, cells := 0, slots := 0, locals := 0 }) (vm_prw [.ref h0, .int p1] (dC, dI) [(h0, .inr (6, [.ref h1, .int states, .ref h2, .int ln, .ref h3, .int thr, .ref h4, .int rd, .int num, .int due, .long hash])), (h1, .inl (cI, 163, .inl z)), (h2, .inl (cI, 978, .inl hi)), (h3, .inl (cI, 60, .inl tx)), (h4, .inl (cI, 42, .inl pa))] cI cB sz) (va_Qv (fun _ : Unit => True) (fun _ t => va_P (dC, dI) vwCl [(h0, .inr (6, [.ref h1, .int states, .ref h2, .int ln, .ref h3, .int thr, .ref h4, .int rd, .int num, .int due, .long hash])), (h1, .inl (cI, 163, .inl (f_X6_removeRequest z p1))), (h2, .inl (cI, 978, .inl hi)), (h3, .inl (cI, 60, .inl tx)), (h4, .inl (cI, 42, .inl pa))] t.heap) (va_A [(h0, .inr (6, [.ref h1, .int states, .ref h2, .int ln, .ref h3, .int thr, .ref h4, .int rd, .int num, .int due, .long hash])), (h1, .inl (cI, 163, .inl z)), (h2, .inl (cI, 978, .inl hi)), (h3, .inl (cI, 60, .inl tx)), (h4, .inl (cI, 42, .inl pa))] sz)) 0 0 (va_A [(h0, .inr (6, [.ref h1, .int states, .ref h2, .int ln, .ref h3, .int thr, .ref h4, .int rd, .int num, .int due, .long hash])), (h1, .inl (cI, 163, .inl z)), (h2, .inl (cI, 978, .inl hi)), (h3, .inl (cI, 60, .inl tx)), (h4, .inl (cI, 42, .inl pa))] sz) := by
  refine Met.ofW (cc := cX6_removeRequest) (maxL := 3) (ret := none) (by decide) rfl ?_
  intro p e s m args below meth c s₁ B hml hv
  obtain ⟨rfl, hsz, hP, hK, hN, hD0⟩ := hv
  have hx := B.exec
  have hb := B.bytes
  have hr := B.returns
  have hts := atoms_spec (ws := wsX6_removeRequest) B.pre
  have hown : s.vm.findClass RX6 = some m.cls := findClass_of_methodNamed B.named
  have hlocks := B.notSynchronized
  subst hsz
  have hD := hD0.self (sz := s.heap.size)
  generalize hAe : va_A [(h0, .inr (6, [.ref h1, .int states, .ref h2, .int ln, .ref h3, .int thr, .ref h4, .int rd, .int num, .int due, .long hash])), (h1, .inl (cI, 163, .inl z)), (h2, .inl (cI, 978, .inl hi)), (h3, .inl (cI, 60, .inl tx)), (h4, .inl (cI, 42, .inl pa))] s.heap.size = A at hD ⊢
  have hA : ∀ q : Nat, s.heap.size ≤ q → A q := fun q h => by rw [← hAe]; exact Or.inr h
  have hS : va_S A s.heap s.heap [] := va_S.rf
  have hP : va_P (dC, dI) vwCl [(h0, .inr (6, [.ref h1, .int states, .ref h2, .int ln, .ref h3, .int thr, .ref h4, .int rd, .int num, .int due, .long hash])), (h1, .inl (cI, 163, .inl z)), (h2, .inl (cI, 978, .inl hi)), (h3, .inl (cI, 60, .inl tx)), (h4, .inl (cI, 42, .inl pa))] s.heap := hP
  have kw1 := hts (.fieldLink RX6 7 "LapseMandatesModel" "z" "[I") (List.mem_of_getElem? (i := 1) rfl)
  have iwsX60 : ∀ w ∈ wsX60, w ∈ wsX6_removeRequest := fun w h => List.mem_cons_of_mem _ (List.mem_append_right _ h)
  generalize hrr : f_X6_removeRequest z p1 = rr
  have eF := hrr.symm
  have hl := lv_entry ([.ref h0, .int p1]) (n := 3) (Nat.le_of_ble_eq_true rfl)
  rw [lg_entry_eq]
  generalize (lg_sl ([.ref h0, .int p1]) ++ List.replicate (3 - (lg_sl ([.ref h0, .int p1])).length) Slot.unset).toArray = ls at hl ⊢
  have hl : lv_has ls 3 [(0, .ref h0), (1, .int p1)] := hl
  have hJ18 : ∀ (n18 : Nat) (x2_18 : Int32) (z_18 : Nat → Int32), rr = f_X6_removeRequest_j18 n18 x2_18 z_18 → o_X6_removeRequest_j18 n18 x2_18 z_18 → ∀ (H : Heap) (locs : List Loc), va_P (dC, dI) vwCl [(h0, .inr (6, [.ref h1, .int states, .ref h2, .int ln, .ref h3, .int thr, .ref h4, .int rd, .int num, .int due, .long hash])), (h1, .inl (cI, 163, .inl z_18)), (h2, .inl (cI, 978, .inl hi)), (h3, .inl (cI, 60, .inl tx)), (h4, .inl (cI, 42, .inl pa))] H → va_D A [(h0, .inr (6, [.ref h1, .int states, .ref h2, .int ln, .ref h3, .int thr, .ref h4, .int rd, .int num, .int due, .long hash])), (h1, .inl (cI, 163, .inl z_18)), (h2, .inl (cI, 978, .inl hi)), (h3, .inl (cI, 60, .inl tx)), (h4, .inl (cI, 42, .inl pa))] → va_S A s.heap H locs → ∀ (ls : Array Slot), lv_has ls 3 [(0, .ref h0), (2, .int x2_18)] → W p l e (headSpec wsX6_removeRequest ({ frames := 0, cells := 0, slots := 0, locals := 0 })).room s m ([.ref h0, .int p1] : List Value).toArray below meth c H locs 0 0 (MQ below (va_Qv (fun _ : Unit => True) (fun _ t => va_P (dC, dI) vwCl [(h0, .inr (6, [.ref h1, .int states, .ref h2, .int ln, .ref h3, .int thr, .ref h4, .int rd, .int num, .int due, .long hash])), (h1, .inl (cI, 163, .inl rr)), (h2, .inl (cI, 978, .inl hi)), (h3, .inl (cI, 60, .inl tx)), (h4, .inl (cI, 42, .inl pa))] t.heap) A) ([.ref h0, .int p1] : List Value).toArray s 0 0 A) (F0 m 18 ls []) := by
    intro n18
    induction n18 with
    | zero =>
      intro x2_18 z_18 eF eO
      exact False.elim eO
    | succ n18 ih18 =>
      intro x2_18 z_18 eF eO H locs hP hD hS ls hl
      rw [o_X6_removeRequest_j18] at eO
      refine lv_iload_n hx hb dX6_removeRequest_18 rfl (lv_at hl 1 rfl) ?_
      refine lv_bipush (v := 127) hx hb dX6_removeRequest_19 (by decide) ?_
      refine lv_bipush (v := 6) hx hb dX6_removeRequest_21 (by decide) ?_
      refine lv_aload_n hx hb dX6_removeRequest_23 rfl (lv_at hl 0 rfl) ?_
      refine va_get (D := (dC, dI)) (ci := 6) (v := .ref h1) (C := RX6) (T := TX6) (N := 11) hx hb hts iwsX60 hown hK hP 0 rfl rfl 0 (by decide) kw1 (fun _ h9 => h9) rfl dX6_removeRequest_24 ?_
      refine lv_iconst (v := 4) hx hb dX6_removeRequest_27 (by decide) ?_
      refine va_iald hx hb hK hP 1 0 rfl rfl (by unfold vp_in; decide) dX6_removeRequest_28 ?_
      refine lv_imul hx hb dX6_removeRequest_29 ?_
      refine lv_iadd hx hb dX6_removeRequest_30 ?_
      refine lv_icmp_ge (tgt := 55) hx hb dX6_removeRequest_31 (by decide) (fun c_1 => ?_) (fun c_1 => ?_)
      · rw [if_pos c_1] at eO
        have e9 : rr = z_18 := eF.trans (by rw [f_X6_removeRequest_j18, if_pos c_1])
        exact W.vret hx hb hr (fun t ht hW => ⟨⟨(), rfl, trivial, (by rw [e9]; show va_P _ _ _ t.heap; rw [ht]; exact hP)⟩, hS.F ht⟩) hS.2.2 dX6_removeRequest_55
      · rw [if_neg c_1] at eO
        refine lv_aload_n hx hb dX6_removeRequest_34 rfl (lv_at hl 0 rfl) ?_
        refine va_get (D := (dC, dI)) (ci := 6) (v := .ref h1) (C := RX6) (T := TX6) (N := 11) hx hb hts iwsX60 hown hK hP 0 rfl rfl 0 (by decide) kw1 (fun _ h9 => h9) rfl dX6_removeRequest_35 ?_
        refine lv_iload_n hx hb dX6_removeRequest_38 rfl (lv_at hl 1 rfl) ?_
        refine lv_aload_n hx hb dX6_removeRequest_39 rfl (lv_at hl 0 rfl) ?_
        refine va_get (D := (dC, dI)) (ci := 6) (v := .ref h1) (C := RX6) (T := TX6) (N := 11) hx hb hts iwsX60 hown hK hP 0 rfl rfl 0 (by decide) kw1 (fun _ h9 => h9) rfl dX6_removeRequest_40 ?_
        refine lv_iload_n hx hb dX6_removeRequest_43 rfl (lv_at hl 1 rfl) ?_
        refine lv_bipush (v := 6) hx hb dX6_removeRequest_44 (by decide) ?_
        refine lv_iadd hx hb dX6_removeRequest_46 ?_
        obtain ⟨hv_2, eO⟩ := eO
        refine va_iald hx hb hK hP 1 0 rfl rfl hv_2 dX6_removeRequest_47 ?_
        obtain ⟨hv_3, eO⟩ := eO
        refine va_iast hx hb hK hP hD hS 1 0 rfl rfl hv_3 dX6_removeRequest_48 (fun H locs hP hD hS => ?_)
        have hP : va_P (dC, dI) vwCl [(h0, .inr (6, [.ref h1, .int states, .ref h2, .int ln, .ref h3, .int thr, .ref h4, .int rd, .int num, .int due, .long hash])), (h1, .inl (cI, 163, .inl (upd z_18 (Int32.toNatClampNeg x2_18) (z_18 (Int32.toNatClampNeg (x2_18 + 6)))))), (h2, .inl (cI, 978, .inl hi)), (h3, .inl (cI, 60, .inl tx)), (h4, .inl (cI, 42, .inl pa))] H := hP
        have hD : va_D A [(h0, .inr (6, [.ref h1, .int states, .ref h2, .int ln, .ref h3, .int thr, .ref h4, .int rd, .int num, .int due, .long hash])), (h1, .inl (cI, 163, .inl (upd z_18 (Int32.toNatClampNeg x2_18) (z_18 (Int32.toNatClampNeg (x2_18 + 6)))))), (h2, .inl (cI, 978, .inl hi)), (h3, .inl (cI, 60, .inl tx)), (h4, .inl (cI, 42, .inl pa))] := hD
        refine lv_iinc (v := (x2_18 + 1)) (lv' := [(2, .int (x2_18 + 1)), (0, .ref h0)]) hx hb dX6_removeRequest_49 hl (k := 1) rfl rfl (by decide) rfl (fun ls hl => ?_)
        refine lv_goto (tgt := 18) hx hb dX6_removeRequest_52 (by decide) ?_
        exact ih18 (x2_18 + 1) (upd z_18 (Int32.toNatClampNeg x2_18) (z_18 (Int32.toNatClampNeg (x2_18 + 6)))) (eF.trans (by rw [f_X6_removeRequest_j18, if_neg c_1])) eO _ _ hP hD hS ls (lv_sub hl [1, 0] rfl)
  rw [o_X6_removeRequest] at eO
  refine lv_aload_n hx hb dX6_removeRequest_0 rfl (lv_at hl 0 rfl) ?_
  refine va_get (D := (dC, dI)) (ci := 6) (v := .ref h1) (C := RX6) (T := TX6) (N := 11) hx hb hts iwsX60 hown hK hP 0 rfl rfl 0 (by decide) kw1 (fun _ h9 => h9) rfl dX6_removeRequest_1 ?_
  refine lv_iconst (v := 4) hx hb dX6_removeRequest_4 (by decide) ?_
  refine lv_dup2_11 hx hb dX6_removeRequest_5 rfl rfl ?_
  refine va_iald hx hb hK hP 1 0 rfl rfl (by unfold vp_in; decide) dX6_removeRequest_6 ?_
  refine lv_iconst (v := 1) hx hb dX6_removeRequest_7 (by decide) ?_
  refine lv_isub hx hb dX6_removeRequest_8 ?_
  refine va_iast hx hb hK hP hD hS 1 0 rfl rfl (by unfold vp_in; decide) dX6_removeRequest_9 (fun H locs hP hD hS => ?_)
  have hP : va_P (dC, dI) vwCl [(h0, .inr (6, [.ref h1, .int states, .ref h2, .int ln, .ref h3, .int thr, .ref h4, .int rd, .int num, .int due, .long hash])), (h1, .inl (cI, 163, .inl (upd z (Int32.toNatClampNeg 4) ((z (Int32.toNatClampNeg 4)) - 1)))), (h2, .inl (cI, 978, .inl hi)), (h3, .inl (cI, 60, .inl tx)), (h4, .inl (cI, 42, .inl pa))] H := hP
  have hD : va_D A [(h0, .inr (6, [.ref h1, .int states, .ref h2, .int ln, .ref h3, .int thr, .ref h4, .int rd, .int num, .int due, .long hash])), (h1, .inl (cI, 163, .inl (upd z (Int32.toNatClampNeg 4) ((z (Int32.toNatClampNeg 4)) - 1)))), (h2, .inl (cI, 978, .inl hi)), (h3, .inl (cI, 60, .inl tx)), (h4, .inl (cI, 42, .inl pa))] := hD
  refine lv_bipush (v := 127) hx hb dX6_removeRequest_10 (by decide) ?_
  refine lv_bipush (v := 6) hx hb dX6_removeRequest_12 (by decide) ?_
  refine lv_iload_n hx hb dX6_removeRequest_14 rfl (lv_at hl 1 rfl) ?_
  refine lv_imul hx hb dX6_removeRequest_15 ?_
  refine lv_iadd hx hb dX6_removeRequest_16 ?_
  refine lv_istore_n (lv' := [(2, .int (127 + (6 * p1))), (0, .ref h0), (1, .int p1)]) hx hb dX6_removeRequest_17 rfl hl (by decide) rfl (fun ls hl => ?_)
  exact hJ18 1000 (127 + (6 * p1)) (upd z (Int32.toNatClampNeg 4) ((z (Int32.toNatClampNeg 4)) - 1)) (eF.trans (by rw [f_X6_removeRequest])) eO _ _ hP hD hS ls (lv_sub hl [1, 0] rfl)

def f_X6_lapse_c46 (x3_8 : Int32) (kj8 : Int32 → (Nat → Int32) → (Int32 × (Nat → Int32))) (z_c46 : Nat → Int32) : Int32 × (Nat → Int32) :=
  kj8 (x3_8 + 1) z_c46
def f_X6_lapse_c33 (x3_8 : Int32) (kj8 : Int32 → (Nat → Int32) → (Int32 × (Nat → Int32))) (z_c33 : Nat → Int32) : Int32 × (Nat → Int32) :=
  f_X6_lapse_c46 x3_8 kj8 (f_X6_put z_c33 x3_8 8 (z_c33 (Int32.toNatClampNeg 2)))
def f_X6_lapse_j46 (x3_8 : Int32) (z_8 : Nat → Int32) (kj8 : Int32 → (Nat → Int32) → (Int32 × (Nat → Int32))) : Int32 × (Nat → Int32) :=
  kj8 (x3_8 + 1) z_8
def f_X6_lapse_j103 (x3_61 : Int32) (kj61 : Int32 → (Nat → Int32) → (Int32 × (Nat → Int32))) (z_103 : Nat → Int32) : Int32 × (Nat → Int32) :=
  kj61 (x3_61 + (-1)) z_103
def f_X6_lapse_c92 (x3_61 : Int32) (kj61 : Int32 → (Nat → Int32) → (Int32 × (Nat → Int32))) (z_c92 : Nat → Int32) : Int32 × (Nat → Int32) :=
  f_X6_lapse_j103 x3_61 kj61 (upd z_c92 (Int32.toNatClampNeg 9) ((z_c92 (Int32.toNatClampNeg 9)) + 1))
def f_X6_lapse_j61 (z : Nat → Int32) (p1 : Int32) : Nat → Int32 → (Nat → Int32) → Int32 × (Nat → Int32)
  | 0, _, _ => (0, (fun _ => 0))
  | n61 + 1, x3_61, z_61 => if x3_61 < 0 then
      ((f_X6_ones (f_X6_standingUnder z p1)), z_61)
    else
      if (f_X6_ofRequest z_61 x3_61 3) = 0 then
        if (vm_bi (f_X6_has (f_X6_standingUnder z p1) (f_X6_ofRequest z_61 x3_61 0))) = 0 then
          f_X6_lapse_j103 x3_61 (f_X6_lapse_j61 z p1 n61) z_61
        else
          f_X6_lapse_c92 x3_61 (f_X6_lapse_j61 z p1 n61) (f_X6_removeRequest z_61 x3_61)
      else
        f_X6_lapse_j103 x3_61 (f_X6_lapse_j61 z p1 n61) z_61
def f_X6_lapse_j8 (z : Nat → Int32) (p1 : Int32) : Nat → Int32 → (Nat → Int32) → Int32 × (Nat → Int32)
  | 0, _, _ => (0, (fun _ => 0))
  | n8 + 1, x3_8, z_8 => if (z_8 (Int32.toNatClampNeg 3)) ≤ x3_8 then
      f_X6_lapse_j61 z p1 (((((z_8 (Int32.toNatClampNeg 4)) - 1)).toInt + 1).toNat + 1) ((z_8 (Int32.toNatClampNeg 4)) - 1) z_8
    else
      if (vm_bi (f_X6_has (f_X6_standingUnder z p1) x3_8)) = 0 then
        f_X6_lapse_j46 x3_8 z_8 (f_X6_lapse_j8 z p1 n8)
      else
        f_X6_lapse_c33 x3_8 (f_X6_lapse_j8 z p1 n8) (f_X6_put z_8 x3_8 5 0)
def f_X6_lapse (z : Nat → Int32) (p1 : Int32) : Int32 × (Nat → Int32) :=
  f_X6_lapse_j8 z p1 1000 0 z
def o_X6_lapse_c46 (x3_8 : Int32) (koj8 : Int32 → (Nat → Int32) → Prop) (z_c46 : Nat → Int32) : Prop :=
  koj8 (x3_8 + 1) z_c46
def o_X6_lapse_c33 (x3_8 : Int32) (koj8 : Int32 → (Nat → Int32) → Prop) (z_c33 : Nat → Int32) : Prop :=
  o_X6_put z_c33 x3_8 8 (z_c33 (Int32.toNatClampNeg 2)) ∧
  (o_X6_lapse_c46 x3_8 koj8 (f_X6_put z_c33 x3_8 8 (z_c33 (Int32.toNatClampNeg 2))))
def o_X6_lapse_j46 (x3_8 : Int32) (z_8 : Nat → Int32) (koj8 : Int32 → (Nat → Int32) → Prop) : Prop :=
  koj8 (x3_8 + 1) z_8
def o_X6_lapse_j103 (x3_61 : Int32) (koj61 : Int32 → (Nat → Int32) → Prop) (z_103 : Nat → Int32) : Prop :=
  koj61 (x3_61 + (-1)) z_103
def o_X6_lapse_c92 (x3_61 : Int32) (koj61 : Int32 → (Nat → Int32) → Prop) (z_c92 : Nat → Int32) : Prop :=
  o_X6_lapse_j103 x3_61 koj61 (upd z_c92 (Int32.toNatClampNeg 9) ((z_c92 (Int32.toNatClampNeg 9)) + 1))
def o_X6_lapse_j61 (z : Nat → Int32) (p1 : Int32) : Nat → Int32 → (Nat → Int32) → Prop
  | 0, _, _ => True
  | n61 + 1, x3_61, z_61 => if x3_61 < 0 then
      True
    else
      o_X6_ofRequest z_61 x3_61 3 ∧
      (if (f_X6_ofRequest z_61 x3_61 3) = 0 then
        o_X6_ofRequest z_61 x3_61 0 ∧
        (if (vm_bi (f_X6_has (f_X6_standingUnder z p1) (f_X6_ofRequest z_61 x3_61 0))) = 0 then
          o_X6_lapse_j103 x3_61 (o_X6_lapse_j61 z p1 n61) z_61
        else
          o_X6_removeRequest z_61 x3_61 ∧
          (o_X6_lapse_c92 x3_61 (o_X6_lapse_j61 z p1 n61) (f_X6_removeRequest z_61 x3_61)))
      else
        o_X6_lapse_j103 x3_61 (o_X6_lapse_j61 z p1 n61) z_61)
def o_X6_lapse_j8 (z : Nat → Int32) (p1 : Int32) : Nat → Int32 → (Nat → Int32) → Prop
  | 0, _, _ => False
  | n8 + 1, x3_8, z_8 => if (z_8 (Int32.toNatClampNeg 3)) ≤ x3_8 then
      o_X6_lapse_j61 z p1 (((((z_8 (Int32.toNatClampNeg 4)) - 1)).toInt + 1).toNat + 1) ((z_8 (Int32.toNatClampNeg 4)) - 1) z_8
    else
      if (vm_bi (f_X6_has (f_X6_standingUnder z p1) x3_8)) = 0 then
        o_X6_lapse_j46 x3_8 z_8 (o_X6_lapse_j8 z p1 n8)
      else
        o_X6_put z_8 x3_8 5 0 ∧
        (o_X6_lapse_c33 x3_8 (o_X6_lapse_j8 z p1 n8) (f_X6_put z_8 x3_8 5 0))
def o_X6_lapse (z : Nat → Int32) (p1 : Int32) : Prop :=
  o_X6_standingUnder z p1 ∧
  (o_X6_lapse_j8 z p1 1000 0 z)
theorem yd_X6_lapse : yX6_lapse.cls = RX6 ∧ yX6_lapse.cls ≠ "java/lang/invoke/MethodHandle" ∧ yX6_lapse.cls ≠ "java/lang/invoke/VarHandle" ∧ (parseMethodDescriptor yX6_lapse.desc).map (fun d => d.parameters.length) = some 1 := by decide +kernel
set_option maxHeartbeats 4000000 in
set_option maxRecDepth 100000 in
theorem c_X6_lapse (l : Launch) (dC : Nat → ClassId) (dI : Nat → Nat → Nat) (cI cB : ClassId) (h0 h1 h2 h3 h4 : Nat) (sz : Nat) (states : Int32) (ln : Int32) (thr : Int32) (rd : Int32) (num : Int32) (due : Int32) (hash : Int64) (z : Nat → Int32) (hi : Nat → Int32) (tx : Nat → Int32) (pa : Nat → Int32) (p1 : Int32) (eO : o_X6_lapse z p1) : Met l yX6_lapse wsX6_lapse ({ frames := 3, cells := 0, slots := 0, locals := 69 }) (vm_prw [.ref h0, .int p1] (dC, dI) [(h0, .inr (6, [.ref h1, .int states, .ref h2, .int ln, .ref h3, .int thr, .ref h4, .int rd, .int num, .int due, .long hash])), (h1, .inl (cI, 163, .inl z)), (h2, .inl (cI, 978, .inl hi)), (h3, .inl (cI, 60, .inl tx)), (h4, .inl (cI, 42, .inl pa))] cI cB sz) (va_Qi (fun (r9 : Int32) (_ : Unit) => r9 = (f_X6_lapse z p1).1) (fun _ t => va_P (dC, dI) vwCl [(h0, .inr (6, [.ref h1, .int states, .ref h2, .int ln, .ref h3, .int thr, .ref h4, .int rd, .int num, .int due, .long hash])), (h1, .inl (cI, 163, .inl ((f_X6_lapse z p1).2))), (h2, .inl (cI, 978, .inl hi)), (h3, .inl (cI, 60, .inl tx)), (h4, .inl (cI, 42, .inl pa))] t.heap) (va_A [(h0, .inr (6, [.ref h1, .int states, .ref h2, .int ln, .ref h3, .int thr, .ref h4, .int rd, .int num, .int due, .long hash])), (h1, .inl (cI, 163, .inl z)), (h2, .inl (cI, 978, .inl hi)), (h3, .inl (cI, 60, .inl tx)), (h4, .inl (cI, 42, .inl pa))] sz)) 0 0 (va_A [(h0, .inr (6, [.ref h1, .int states, .ref h2, .int ln, .ref h3, .int thr, .ref h4, .int rd, .int num, .int due, .long hash])), (h1, .inl (cI, 163, .inl z)), (h2, .inl (cI, 978, .inl hi)), (h3, .inl (cI, 60, .inl tx)), (h4, .inl (cI, 42, .inl pa))] sz) := by
  refine Met.ofW (cc := cX6_lapse) (maxL := 4) (ret := (some .int)) (by decide) rfl ?_
  intro p e s m args below meth c s₁ B hml hv
  obtain ⟨rfl, hsz, hP, hK, hN, hD0⟩ := hv
  have hx := B.exec
  have hb := B.bytes
  have hr := B.returns
  have hts := atoms_spec (ws := wsX6_lapse) B.pre
  have hown : s.vm.findClass RX6 = some m.cls := findClass_of_methodNamed B.named
  have hlocks := B.notSynchronized
  subst hsz
  have hD := hD0.self (sz := s.heap.size)
  generalize hAe : va_A [(h0, .inr (6, [.ref h1, .int states, .ref h2, .int ln, .ref h3, .int thr, .ref h4, .int rd, .int num, .int due, .long hash])), (h1, .inl (cI, 163, .inl z)), (h2, .inl (cI, 978, .inl hi)), (h3, .inl (cI, 60, .inl tx)), (h4, .inl (cI, 42, .inl pa))] s.heap.size = A at hD ⊢
  have hA : ∀ q : Nat, s.heap.size ≤ q → A q := fun q h => by rw [← hAe]; exact Or.inr h
  have hS : va_S A s.heap s.heap [] := va_S.rf
  have hP : va_P (dC, dI) vwCl [(h0, .inr (6, [.ref h1, .int states, .ref h2, .int ln, .ref h3, .int thr, .ref h4, .int rd, .int num, .int due, .long hash])), (h1, .inl (cI, 163, .inl z)), (h2, .inl (cI, 978, .inl hi)), (h3, .inl (cI, 60, .inl tx)), (h4, .inl (cI, 42, .inl pa))] s.heap := hP
  have kw1 := hts (.fieldLink RX6 7 "LapseMandatesModel" "z" "[I") (List.mem_of_getElem? (i := 1) rfl)
  have iwsX60 : ∀ w ∈ wsX60, w ∈ wsX6_lapse := fun w h => List.mem_cons_of_mem _ (List.mem_append_right _ h)
  generalize hrr : f_X6_lapse z p1 = rr
  have eF := hrr.symm
  have hl := lv_entry ([.ref h0, .int p1]) (n := 4) (Nat.le_of_ble_eq_true rfl)
  rw [lg_entry_eq]
  generalize (lg_sl ([.ref h0, .int p1]) ++ List.replicate (4 - (lg_sl ([.ref h0, .int p1])).length) Slot.unset).toArray = ls at hl ⊢
  have hl : lv_has ls 4 [(0, .ref h0), (1, .int p1)] := hl
  have hJ61 : ∀ (n61 : Nat) (x3_61 : Int32) (z_61 : Nat → Int32), ((x3_61).toInt + 1).toNat < n61 → rr = f_X6_lapse_j61 z p1 n61 x3_61 z_61 → o_X6_lapse_j61 z p1 n61 x3_61 z_61 → ∀ (H : Heap) (locs : List Loc), va_P (dC, dI) vwCl [(h0, .inr (6, [.ref h1, .int states, .ref h2, .int ln, .ref h3, .int thr, .ref h4, .int rd, .int num, .int due, .long hash])), (h1, .inl (cI, 163, .inl z_61)), (h2, .inl (cI, 978, .inl hi)), (h3, .inl (cI, 60, .inl tx)), (h4, .inl (cI, 42, .inl pa))] H → va_D A [(h0, .inr (6, [.ref h1, .int states, .ref h2, .int ln, .ref h3, .int thr, .ref h4, .int rd, .int num, .int due, .long hash])), (h1, .inl (cI, 163, .inl z_61)), (h2, .inl (cI, 978, .inl hi)), (h3, .inl (cI, 60, .inl tx)), (h4, .inl (cI, 42, .inl pa))] → va_S A s.heap H locs → ∀ (ls : Array Slot), lv_has ls 4 [(0, .ref h0), (2, .int (f_X6_standingUnder z p1)), (3, .int x3_61)] → W p l e (headSpec wsX6_lapse ({ frames := 3, cells := 0, slots := 0, locals := 69 })).room s m ([.ref h0, .int p1] : List Value).toArray below meth c H locs 0 0 (MQ below (va_Qi (fun (r9 : Int32) (_ : Unit) => r9 = rr.1) (fun _ t => va_P (dC, dI) vwCl [(h0, .inr (6, [.ref h1, .int states, .ref h2, .int ln, .ref h3, .int thr, .ref h4, .int rd, .int num, .int due, .long hash])), (h1, .inl (cI, 163, .inl rr.2)), (h2, .inl (cI, 978, .inl hi)), (h3, .inl (cI, 60, .inl tx)), (h4, .inl (cI, 42, .inl pa))] t.heap) A) ([.ref h0, .int p1] : List Value).toArray s 0 0 A) (F0 m 61 ls []) := by
    intro n61
    induction n61 with
    | zero =>
      intro x3_61 z_61 hm61
      exact absurd hm61 (Nat.not_lt_zero _)
    | succ n61 ih61 =>
      intro x3_61 z_61 hm61 eF eO H locs hP hD hS ls hl
      rw [o_X6_lapse_j61] at eO
      have hJ103 : ∀ (z_103 : Nat → Int32), ¬ x3_61 < 0 → rr = f_X6_lapse_j103 x3_61 (f_X6_lapse_j61 z p1 n61) z_103 → o_X6_lapse_j103 x3_61 (o_X6_lapse_j61 z p1 n61) z_103 → ∀ (H : Heap) (locs : List Loc), va_P (dC, dI) vwCl [(h0, .inr (6, [.ref h1, .int states, .ref h2, .int ln, .ref h3, .int thr, .ref h4, .int rd, .int num, .int due, .long hash])), (h1, .inl (cI, 163, .inl z_103)), (h2, .inl (cI, 978, .inl hi)), (h3, .inl (cI, 60, .inl tx)), (h4, .inl (cI, 42, .inl pa))] H → va_D A [(h0, .inr (6, [.ref h1, .int states, .ref h2, .int ln, .ref h3, .int thr, .ref h4, .int rd, .int num, .int due, .long hash])), (h1, .inl (cI, 163, .inl z_103)), (h2, .inl (cI, 978, .inl hi)), (h3, .inl (cI, 60, .inl tx)), (h4, .inl (cI, 42, .inl pa))] → va_S A s.heap H locs → ∀ (ls : Array Slot), lv_has ls 4 [(0, .ref h0), (2, .int (f_X6_standingUnder z p1)), (3, .int x3_61)] → W p l e (headSpec wsX6_lapse ({ frames := 3, cells := 0, slots := 0, locals := 69 })).room s m ([.ref h0, .int p1] : List Value).toArray below meth c H locs 0 0 (MQ below (va_Qi (fun (r9 : Int32) (_ : Unit) => r9 = rr.1) (fun _ t => va_P (dC, dI) vwCl [(h0, .inr (6, [.ref h1, .int states, .ref h2, .int ln, .ref h3, .int thr, .ref h4, .int rd, .int num, .int due, .long hash])), (h1, .inl (cI, 163, .inl rr.2)), (h2, .inl (cI, 978, .inl hi)), (h3, .inl (cI, 60, .inl tx)), (h4, .inl (cI, 42, .inl pa))] t.heap) A) ([.ref h0, .int p1] : List Value).toArray s 0 0 A) (F0 m 103 ls []) := by
        intro z_103 cL61 eF eO H locs hP hD hS ls hl
        rw [o_X6_lapse_j103] at eO
        refine lv_iinc (v := (x3_61 + (-1))) (lv' := [(3, .int (x3_61 + (-1))), (0, .ref h0), (2, .int (f_X6_standingUnder z p1))]) hx hb dX6_lapse_103 hl (k := 2) rfl rfl (by decide) rfl (fun ls hl => ?_)
        refine lv_goto (tgt := 61) hx hb dX6_lapse_106 (by decide) ?_
        exact ih61 (x3_61 + (-1)) z_103 (vm_dn2 (vm_nlt cL61) hm61) (eF.trans (by rw [f_X6_lapse_j103])) eO _ _ hP hD hS ls (lv_sub hl [1, 2, 0] rfl)
      refine lv_iload_n hx hb dX6_lapse_61 rfl (lv_at hl 2 rfl) ?_
      refine lv_if_lt (tgt := 109) hx hb dX6_lapse_62 (by decide) (fun cL61 => ?_) (fun cL61 => ?_)
      · rw [if_pos cL61] at eO
        refine lv_iload_n hx hb dX6_lapse_109 rfl (lv_at hl 1 rfl) ?_
        refine vm_roSx (v := (f_X6_ones (f_X6_standingUnder z p1))) (As := [.int (f_X6_standingUnder z p1)]) (rest := []) ⟨hx, hb, hml, hown, hts⟩ hK hN hP hl.1 ⟨Nat.le_of_ble_eq_true rfl, Nat.le_of_ble_eq_true rfl⟩ (c_X6_ones l dC dI cI cB (f_X6_standingUnder z p1)) (va_cwS 1 hts gX6_lapse_X6_ones rfl rfl rfl yd_X6_ones ⟨Nat.le_of_ble_eq_true rfl, Nat.le_of_ble_eq_true rfl⟩) rfl rfl (Nat.le_of_ble_eq_true rfl) dX6_lapse_110 ?_
        have e9 : rr = ((f_X6_ones (f_X6_standingUnder z p1)), z_61) := eF.trans (by rw [f_X6_lapse_j61, if_pos cL61])
        exact W.iret (v := (f_X6_ones (f_X6_standingUnder z p1))) hx hb hr (fun t ht hW => ⟨⟨_, (), rfl, by rw [e9], (by rw [e9]; show va_P _ _ _ t.heap; rw [ht]; exact hP)⟩, hS.F ht⟩) hS.2.2 dX6_lapse_113
      · rw [if_neg cL61] at eO
        refine lv_aload_n hx hb dX6_lapse_65 rfl (lv_at hl 0 rfl) ?_
        refine lv_iload_n hx hb dX6_lapse_66 rfl (lv_at hl 2 rfl) ?_
        refine lv_iconst (v := 3) hx hb dX6_lapse_67 (by decide) ?_
        obtain ⟨hv_2, eO⟩ := eO
        refine vm_roVx (v := (f_X6_ofRequest z_61 x3_61 3)) (As := [.int x3_61, .int 3]) (rest := []) (T := TX6) (N := 11) (wc := [(h0, .inr (6, [.ref h1, .int states, .ref h2, .int ln, .ref h3, .int thr, .ref h4, .int rd, .int num, .int due, .long hash])), (h1, .inl (cI, 163, .inl z_61)), (h2, .inl (cI, 978, .inl hi)), (h3, .inl (cI, 60, .inl tx)), (h4, .inl (cI, 42, .inl pa))]) ⟨hx, hb, hml, hown, hts⟩ hK hN hP hl.1 ⟨Nat.le_of_ble_eq_true rfl, Nat.le_of_ble_eq_true rfl⟩ (c_X6_ofRequest l dC dI cI cB h0 h1 h2 h3 h4 states ln thr rd num due hash z_61 hi tx pa x3_61 3 hv_2) (cwV 2 hts gX6_lapse_X6_ofRequest rfl rfl rfl yd_X6_ofRequest ⟨Nat.le_of_ble_eq_true rfl, Nat.le_of_ble_eq_true rfl⟩) [0, 1, 2, 3, 4] rfl 6 rfl rfl rfl rfl (Nat.le_of_ble_eq_true rfl) dX6_lapse_68 ?_
        refine lv_if_ne (tgt := 103) hx hb dX6_lapse_71 (by decide) (fun c_3 => ?_) (fun c_3 => ?_)
        · rw [if_neg c_3] at eO
          exact hJ103 z_61 cL61 (eF.trans (by rw [f_X6_lapse_j61, if_neg cL61, if_neg c_3])) eO _ _ hP hD hS ls (lv_sub hl [0, 1, 2] rfl)
        · rw [if_pos c_3] at eO
          refine lv_iload_n hx hb dX6_lapse_74 rfl (lv_at hl 1 rfl) ?_
          refine lv_aload_n hx hb dX6_lapse_75 rfl (lv_at hl 0 rfl) ?_
          refine lv_iload_n hx hb dX6_lapse_76 rfl (lv_at hl 2 rfl) ?_
          refine lv_iconst (v := 0) hx hb dX6_lapse_77 (by decide) ?_
          obtain ⟨hv_4, eO⟩ := eO
          refine vm_roVx (v := (f_X6_ofRequest z_61 x3_61 0)) (As := [.int x3_61, .int 0]) (rest := [.int (f_X6_standingUnder z p1)]) (T := TX6) (N := 11) (wc := [(h0, .inr (6, [.ref h1, .int states, .ref h2, .int ln, .ref h3, .int thr, .ref h4, .int rd, .int num, .int due, .long hash])), (h1, .inl (cI, 163, .inl z_61)), (h2, .inl (cI, 978, .inl hi)), (h3, .inl (cI, 60, .inl tx)), (h4, .inl (cI, 42, .inl pa))]) ⟨hx, hb, hml, hown, hts⟩ hK hN hP hl.1 ⟨Nat.le_of_ble_eq_true rfl, Nat.le_of_ble_eq_true rfl⟩ (c_X6_ofRequest l dC dI cI cB h0 h1 h2 h3 h4 states ln thr rd num due hash z_61 hi tx pa x3_61 0 hv_4) (cwV 2 hts gX6_lapse_X6_ofRequest rfl rfl rfl yd_X6_ofRequest ⟨Nat.le_of_ble_eq_true rfl, Nat.le_of_ble_eq_true rfl⟩) [0, 1, 2, 3, 4] rfl 6 rfl rfl rfl rfl (Nat.le_of_ble_eq_true rfl) dX6_lapse_78 ?_
          refine vm_roSx (v := vm_bi (f_X6_has (f_X6_standingUnder z p1) (f_X6_ofRequest z_61 x3_61 0))) (As := [.int (f_X6_standingUnder z p1), .int (f_X6_ofRequest z_61 x3_61 0)]) (rest := []) ⟨hx, hb, hml, hown, hts⟩ hK hN hP hl.1 ⟨Nat.le_of_ble_eq_true rfl, Nat.le_of_ble_eq_true rfl⟩ (c_X6_has l dC dI cI cB (f_X6_standingUnder z p1) (f_X6_ofRequest z_61 x3_61 0)) (va_cwS 2 hts gX6_lapse_X6_has rfl rfl rfl yd_X6_has ⟨Nat.le_of_ble_eq_true rfl, Nat.le_of_ble_eq_true rfl⟩) rfl rfl (Nat.le_of_ble_eq_true rfl) dX6_lapse_81 ?_
          refine lv_if_eq (tgt := 103) hx hb dX6_lapse_84 (by decide) (fun c_5 => ?_) (fun c_5 => ?_)
          · rw [if_pos c_5] at eO
            exact hJ103 z_61 cL61 (eF.trans (by rw [f_X6_lapse_j61, if_neg cL61, if_pos c_3, if_pos c_5])) eO _ _ hP hD hS ls (lv_sub hl [0, 1, 2] rfl)
          · rw [if_neg c_5] at eO
            refine lv_aload_n hx hb dX6_lapse_87 rfl (lv_at hl 0 rfl) ?_
            refine lv_iload_n hx hb dX6_lapse_88 rfl (lv_at hl 2 rfl) ?_
            obtain ⟨hv_6, eO⟩ := eO
            refine vm_rwVv (As := [.int x3_61]) (rest := []) (T := TX6) (N := 11) (wc := [(h0, .inr (6, [.ref h1, .int states, .ref h2, .int ln, .ref h3, .int thr, .ref h4, .int rd, .int num, .int due, .long hash])), (h1, .inl (cI, 163, .inl z_61)), (h2, .inl (cI, 978, .inl hi)), (h3, .inl (cI, 60, .inl tx)), (h4, .inl (cI, 42, .inl pa))]) (w1 := [(h0, .inr (6, [.ref h1, .int states, .ref h2, .int ln, .ref h3, .int thr, .ref h4, .int rd, .int num, .int due, .long hash])), (h1, .inl (cI, 163, .inl (f_X6_removeRequest z_61 x3_61))), (h2, .inl (cI, 978, .inl hi)), (h3, .inl (cI, 60, .inl tx)), (h4, .inl (cI, 42, .inl pa))]) ⟨hx, hb, hml, hown, hts⟩ hK hN hP hD hS hA hl.1 ⟨Nat.le_of_ble_eq_true rfl, Nat.le_of_ble_eq_true rfl⟩ (c_X6_removeRequest l dC dI cI cB h0 h1 h2 h3 h4 _ states ln thr rd num due hash z_61 hi tx pa x3_61 hv_6) (cwV 1 hts gX6_lapse_X6_removeRequest rfl rfl rfl yd_X6_removeRequest ⟨Nat.le_of_ble_eq_true rfl, Nat.le_of_ble_eq_true rfl⟩) [0, 1, 2, 3, 4] rfl rfl rfl 6 rfl rfl rfl rfl (Nat.le_of_ble_eq_true rfl) dX6_lapse_89 (fun H locs hP hD hS => ?_)
            have hP : va_P (dC, dI) vwCl [(h0, .inr (6, [.ref h1, .int states, .ref h2, .int ln, .ref h3, .int thr, .ref h4, .int rd, .int num, .int due, .long hash])), (h1, .inl (cI, 163, .inl (f_X6_removeRequest z_61 x3_61))), (h2, .inl (cI, 978, .inl hi)), (h3, .inl (cI, 60, .inl tx)), (h4, .inl (cI, 42, .inl pa))] H := hP
            have hD : va_D A [(h0, .inr (6, [.ref h1, .int states, .ref h2, .int ln, .ref h3, .int thr, .ref h4, .int rd, .int num, .int due, .long hash])), (h1, .inl (cI, 163, .inl (f_X6_removeRequest z_61 x3_61))), (h2, .inl (cI, 978, .inl hi)), (h3, .inl (cI, 60, .inl tx)), (h4, .inl (cI, 42, .inl pa))] := hD
            obtain ⟨z_c92, ez_c92⟩ : ∃ zz9, zz9 = (f_X6_removeRequest z_61 x3_61) := ⟨_, rfl⟩
            rw [← ez_c92] at hP hD
            have eF : rr = f_X6_lapse_c92 x3_61 (f_X6_lapse_j61 z p1 n61) z_c92 := eF.trans (by rw [f_X6_lapse_j61, if_neg cL61, if_pos c_3, if_neg c_5, ez_c92])
            have eO : o_X6_lapse_c92 x3_61 (o_X6_lapse_j61 z p1 n61) z_c92 := by rw [ez_c92]; exact eO
            rw [o_X6_lapse_c92] at eO
            refine lv_aload_n hx hb dX6_lapse_92 rfl (lv_at hl 0 rfl) ?_
            refine va_get (D := (dC, dI)) (ci := 6) (v := .ref h1) (C := RX6) (T := TX6) (N := 11) hx hb hts iwsX60 hown hK hP 0 rfl rfl 0 (by decide) kw1 (fun _ h9 => h9) rfl dX6_lapse_93 ?_
            refine lv_bipush (v := 9) hx hb dX6_lapse_96 (by decide) ?_
            refine lv_dup2_11 hx hb dX6_lapse_98 rfl rfl ?_
            refine va_iald hx hb hK hP 1 0 rfl rfl (by unfold vp_in; decide) dX6_lapse_99 ?_
            refine lv_iconst (v := 1) hx hb dX6_lapse_100 (by decide) ?_
            refine lv_iadd hx hb dX6_lapse_101 ?_
            refine va_iast hx hb hK hP hD hS 1 0 rfl rfl (by unfold vp_in; decide) dX6_lapse_102 (fun H locs hP hD hS => ?_)
            have hP : va_P (dC, dI) vwCl [(h0, .inr (6, [.ref h1, .int states, .ref h2, .int ln, .ref h3, .int thr, .ref h4, .int rd, .int num, .int due, .long hash])), (h1, .inl (cI, 163, .inl (upd z_c92 (Int32.toNatClampNeg 9) ((z_c92 (Int32.toNatClampNeg 9)) + 1)))), (h2, .inl (cI, 978, .inl hi)), (h3, .inl (cI, 60, .inl tx)), (h4, .inl (cI, 42, .inl pa))] H := hP
            have hD : va_D A [(h0, .inr (6, [.ref h1, .int states, .ref h2, .int ln, .ref h3, .int thr, .ref h4, .int rd, .int num, .int due, .long hash])), (h1, .inl (cI, 163, .inl (upd z_c92 (Int32.toNatClampNeg 9) ((z_c92 (Int32.toNatClampNeg 9)) + 1)))), (h2, .inl (cI, 978, .inl hi)), (h3, .inl (cI, 60, .inl tx)), (h4, .inl (cI, 42, .inl pa))] := hD
            exact hJ103 (upd z_c92 (Int32.toNatClampNeg 9) ((z_c92 (Int32.toNatClampNeg 9)) + 1)) cL61 (eF.trans (by rw [f_X6_lapse_c92])) eO _ _ hP hD hS ls (lv_sub hl [0, 1, 2] rfl)
  have hJ8 : ∀ (n8 : Nat) (x3_8 : Int32) (z_8 : Nat → Int32), rr = f_X6_lapse_j8 z p1 n8 x3_8 z_8 → o_X6_lapse_j8 z p1 n8 x3_8 z_8 → ∀ (H : Heap) (locs : List Loc), va_P (dC, dI) vwCl [(h0, .inr (6, [.ref h1, .int states, .ref h2, .int ln, .ref h3, .int thr, .ref h4, .int rd, .int num, .int due, .long hash])), (h1, .inl (cI, 163, .inl z_8)), (h2, .inl (cI, 978, .inl hi)), (h3, .inl (cI, 60, .inl tx)), (h4, .inl (cI, 42, .inl pa))] H → va_D A [(h0, .inr (6, [.ref h1, .int states, .ref h2, .int ln, .ref h3, .int thr, .ref h4, .int rd, .int num, .int due, .long hash])), (h1, .inl (cI, 163, .inl z_8)), (h2, .inl (cI, 978, .inl hi)), (h3, .inl (cI, 60, .inl tx)), (h4, .inl (cI, 42, .inl pa))] → va_S A s.heap H locs → ∀ (ls : Array Slot), lv_has ls 4 [(0, .ref h0), (2, .int (f_X6_standingUnder z p1)), (3, .int x3_8)] → W p l e (headSpec wsX6_lapse ({ frames := 3, cells := 0, slots := 0, locals := 69 })).room s m ([.ref h0, .int p1] : List Value).toArray below meth c H locs 0 0 (MQ below (va_Qi (fun (r9 : Int32) (_ : Unit) => r9 = rr.1) (fun _ t => va_P (dC, dI) vwCl [(h0, .inr (6, [.ref h1, .int states, .ref h2, .int ln, .ref h3, .int thr, .ref h4, .int rd, .int num, .int due, .long hash])), (h1, .inl (cI, 163, .inl rr.2)), (h2, .inl (cI, 978, .inl hi)), (h3, .inl (cI, 60, .inl tx)), (h4, .inl (cI, 42, .inl pa))] t.heap) A) ([.ref h0, .int p1] : List Value).toArray s 0 0 A) (F0 m 8 ls []) := by
    intro n8
    induction n8 with
    | zero =>
      intro x3_8 z_8 eF eO
      exact False.elim eO
    | succ n8 ih8 =>
      intro x3_8 z_8 eF eO H locs hP hD hS ls hl
      rw [o_X6_lapse_j8] at eO
      have hJ46 : rr = f_X6_lapse_j46 x3_8 z_8 (f_X6_lapse_j8 z p1 n8) → o_X6_lapse_j46 x3_8 z_8 (o_X6_lapse_j8 z p1 n8) → ∀ (H : Heap) (locs : List Loc), va_P (dC, dI) vwCl [(h0, .inr (6, [.ref h1, .int states, .ref h2, .int ln, .ref h3, .int thr, .ref h4, .int rd, .int num, .int due, .long hash])), (h1, .inl (cI, 163, .inl z_8)), (h2, .inl (cI, 978, .inl hi)), (h3, .inl (cI, 60, .inl tx)), (h4, .inl (cI, 42, .inl pa))] H → va_D A [(h0, .inr (6, [.ref h1, .int states, .ref h2, .int ln, .ref h3, .int thr, .ref h4, .int rd, .int num, .int due, .long hash])), (h1, .inl (cI, 163, .inl z_8)), (h2, .inl (cI, 978, .inl hi)), (h3, .inl (cI, 60, .inl tx)), (h4, .inl (cI, 42, .inl pa))] → va_S A s.heap H locs → ∀ (ls : Array Slot), lv_has ls 4 [(0, .ref h0), (2, .int (f_X6_standingUnder z p1)), (3, .int x3_8)] → W p l e (headSpec wsX6_lapse ({ frames := 3, cells := 0, slots := 0, locals := 69 })).room s m ([.ref h0, .int p1] : List Value).toArray below meth c H locs 0 0 (MQ below (va_Qi (fun (r9 : Int32) (_ : Unit) => r9 = rr.1) (fun _ t => va_P (dC, dI) vwCl [(h0, .inr (6, [.ref h1, .int states, .ref h2, .int ln, .ref h3, .int thr, .ref h4, .int rd, .int num, .int due, .long hash])), (h1, .inl (cI, 163, .inl rr.2)), (h2, .inl (cI, 978, .inl hi)), (h3, .inl (cI, 60, .inl tx)), (h4, .inl (cI, 42, .inl pa))] t.heap) A) ([.ref h0, .int p1] : List Value).toArray s 0 0 A) (F0 m 46 ls []) := by
        intro eF eO H locs hP hD hS ls hl
        rw [o_X6_lapse_j46] at eO
        refine lv_iinc (v := (x3_8 + 1)) (lv' := [(3, .int (x3_8 + 1)), (0, .ref h0), (2, .int (f_X6_standingUnder z p1))]) hx hb dX6_lapse_46 hl (k := 2) rfl rfl (by decide) rfl (fun ls hl => ?_)
        refine lv_goto (tgt := 8) hx hb dX6_lapse_49 (by decide) ?_
        exact ih8 (x3_8 + 1) z_8 (eF.trans (by rw [f_X6_lapse_j46])) eO _ _ hP hD hS ls (lv_sub hl [1, 2, 0] rfl)
      refine lv_iload_n hx hb dX6_lapse_8 rfl (lv_at hl 2 rfl) ?_
      refine lv_aload_n hx hb dX6_lapse_9 rfl (lv_at hl 0 rfl) ?_
      refine va_get (D := (dC, dI)) (ci := 6) (v := .ref h1) (C := RX6) (T := TX6) (N := 11) hx hb hts iwsX60 hown hK hP 0 rfl rfl 0 (by decide) kw1 (fun _ h9 => h9) rfl dX6_lapse_10 ?_
      refine lv_iconst (v := 3) hx hb dX6_lapse_13 (by decide) ?_
      refine va_iald hx hb hK hP 1 0 rfl rfl (by unfold vp_in; decide) dX6_lapse_14 ?_
      refine lv_icmp_ge (tgt := 52) hx hb dX6_lapse_15 (by decide) (fun c_7 => ?_) (fun c_7 => ?_)
      · rw [if_pos c_7] at eO
        refine lv_aload_n hx hb dX6_lapse_52 rfl (lv_at hl 0 rfl) ?_
        refine va_get (D := (dC, dI)) (ci := 6) (v := .ref h1) (C := RX6) (T := TX6) (N := 11) hx hb hts iwsX60 hown hK hP 0 rfl rfl 0 (by decide) kw1 (fun _ h9 => h9) rfl dX6_lapse_53 ?_
        refine lv_iconst (v := 4) hx hb dX6_lapse_56 (by decide) ?_
        refine va_iald hx hb hK hP 1 0 rfl rfl (by unfold vp_in; decide) dX6_lapse_57 ?_
        refine lv_iconst (v := 1) hx hb dX6_lapse_58 (by decide) ?_
        refine lv_isub hx hb dX6_lapse_59 ?_
        refine lv_istore_n (lv' := [(3, .int ((z_8 (Int32.toNatClampNeg 4)) - 1)), (0, .ref h0), (2, .int (f_X6_standingUnder z p1))]) hx hb dX6_lapse_60 rfl hl (by decide) rfl (fun ls hl => ?_)
        exact hJ61 (((((z_8 (Int32.toNatClampNeg 4)) - 1)).toInt + 1).toNat + 1) ((z_8 (Int32.toNatClampNeg 4)) - 1) z_8 (Nat.lt_succ_self _) (eF.trans (by rw [f_X6_lapse_j8, if_pos c_7])) eO _ _ hP hD hS ls (lv_sub hl [1, 2, 0] rfl)
      · rw [if_neg c_7] at eO
        refine lv_iload_n hx hb dX6_lapse_18 rfl (lv_at hl 1 rfl) ?_
        refine lv_iload_n hx hb dX6_lapse_19 rfl (lv_at hl 2 rfl) ?_
        refine vm_roSx (v := vm_bi (f_X6_has (f_X6_standingUnder z p1) x3_8)) (As := [.int (f_X6_standingUnder z p1), .int x3_8]) (rest := []) ⟨hx, hb, hml, hown, hts⟩ hK hN hP hl.1 ⟨Nat.le_of_ble_eq_true rfl, Nat.le_of_ble_eq_true rfl⟩ (c_X6_has l dC dI cI cB (f_X6_standingUnder z p1) x3_8) (va_cwS 2 hts gX6_lapse_X6_has rfl rfl rfl yd_X6_has ⟨Nat.le_of_ble_eq_true rfl, Nat.le_of_ble_eq_true rfl⟩) rfl rfl (Nat.le_of_ble_eq_true rfl) dX6_lapse_20 ?_
        refine lv_if_eq (tgt := 46) hx hb dX6_lapse_23 (by decide) (fun c_8 => ?_) (fun c_8 => ?_)
        · rw [if_pos c_8] at eO
          exact hJ46 (eF.trans (by rw [f_X6_lapse_j8, if_neg c_7, if_pos c_8])) eO _ _ hP hD hS ls (lv_sub hl [0, 1, 2] rfl)
        · rw [if_neg c_8] at eO
          refine lv_aload_n hx hb dX6_lapse_26 rfl (lv_at hl 0 rfl) ?_
          refine lv_iload_n hx hb dX6_lapse_27 rfl (lv_at hl 2 rfl) ?_
          refine lv_iconst (v := 5) hx hb dX6_lapse_28 (by decide) ?_
          refine lv_iconst (v := 0) hx hb dX6_lapse_29 (by decide) ?_
          obtain ⟨hv_9, eO⟩ := eO
          refine vm_rwVv (As := [.int x3_8, .int 5, .int 0]) (rest := []) (T := TX6) (N := 11) (wc := [(h0, .inr (6, [.ref h1, .int states, .ref h2, .int ln, .ref h3, .int thr, .ref h4, .int rd, .int num, .int due, .long hash])), (h1, .inl (cI, 163, .inl z_8)), (h2, .inl (cI, 978, .inl hi)), (h3, .inl (cI, 60, .inl tx)), (h4, .inl (cI, 42, .inl pa))]) (w1 := [(h0, .inr (6, [.ref h1, .int states, .ref h2, .int ln, .ref h3, .int thr, .ref h4, .int rd, .int num, .int due, .long hash])), (h1, .inl (cI, 163, .inl (f_X6_put z_8 x3_8 5 0))), (h2, .inl (cI, 978, .inl hi)), (h3, .inl (cI, 60, .inl tx)), (h4, .inl (cI, 42, .inl pa))]) ⟨hx, hb, hml, hown, hts⟩ hK hN hP hD hS hA hl.1 ⟨Nat.le_of_ble_eq_true rfl, Nat.le_of_ble_eq_true rfl⟩ (c_X6_put l dC dI cI cB h0 h1 h2 h3 h4 _ states ln thr rd num due hash z_8 hi tx pa x3_8 5 0 hv_9) (cwV 3 hts gX6_lapse_X6_put rfl rfl rfl yd_X6_put ⟨Nat.le_of_ble_eq_true rfl, Nat.le_of_ble_eq_true rfl⟩) [0, 1, 2, 3, 4] rfl rfl rfl 6 rfl rfl rfl rfl (Nat.le_of_ble_eq_true rfl) dX6_lapse_30 (fun H locs hP hD hS => ?_)
          have hP : va_P (dC, dI) vwCl [(h0, .inr (6, [.ref h1, .int states, .ref h2, .int ln, .ref h3, .int thr, .ref h4, .int rd, .int num, .int due, .long hash])), (h1, .inl (cI, 163, .inl (f_X6_put z_8 x3_8 5 0))), (h2, .inl (cI, 978, .inl hi)), (h3, .inl (cI, 60, .inl tx)), (h4, .inl (cI, 42, .inl pa))] H := hP
          have hD : va_D A [(h0, .inr (6, [.ref h1, .int states, .ref h2, .int ln, .ref h3, .int thr, .ref h4, .int rd, .int num, .int due, .long hash])), (h1, .inl (cI, 163, .inl (f_X6_put z_8 x3_8 5 0))), (h2, .inl (cI, 978, .inl hi)), (h3, .inl (cI, 60, .inl tx)), (h4, .inl (cI, 42, .inl pa))] := hD
          obtain ⟨z_c33, ez_c33⟩ : ∃ zz9, zz9 = (f_X6_put z_8 x3_8 5 0) := ⟨_, rfl⟩
          rw [← ez_c33] at hP hD
          have eF : rr = f_X6_lapse_c33 x3_8 (f_X6_lapse_j8 z p1 n8) z_c33 := eF.trans (by rw [f_X6_lapse_j8, if_neg c_7, if_neg c_8, ez_c33])
          have eO : o_X6_lapse_c33 x3_8 (o_X6_lapse_j8 z p1 n8) z_c33 := by rw [ez_c33]; exact eO
          rw [o_X6_lapse_c33] at eO
          refine lv_aload_n hx hb dX6_lapse_33 rfl (lv_at hl 0 rfl) ?_
          refine lv_iload_n hx hb dX6_lapse_34 rfl (lv_at hl 2 rfl) ?_
          refine lv_bipush (v := 8) hx hb dX6_lapse_35 (by decide) ?_
          refine lv_aload_n hx hb dX6_lapse_37 rfl (lv_at hl 0 rfl) ?_
          refine va_get (D := (dC, dI)) (ci := 6) (v := .ref h1) (C := RX6) (T := TX6) (N := 11) hx hb hts iwsX60 hown hK hP 0 rfl rfl 0 (by decide) kw1 (fun _ h9 => h9) rfl dX6_lapse_38 ?_
          refine lv_iconst (v := 2) hx hb dX6_lapse_41 (by decide) ?_
          refine va_iald hx hb hK hP 1 0 rfl rfl (by unfold vp_in; decide) dX6_lapse_42 ?_
          obtain ⟨hv_10, eO⟩ := eO
          refine vm_rwVv (As := [.int x3_8, .int 8, .int (z_c33 (Int32.toNatClampNeg 2))]) (rest := []) (T := TX6) (N := 11) (wc := [(h0, .inr (6, [.ref h1, .int states, .ref h2, .int ln, .ref h3, .int thr, .ref h4, .int rd, .int num, .int due, .long hash])), (h1, .inl (cI, 163, .inl z_c33)), (h2, .inl (cI, 978, .inl hi)), (h3, .inl (cI, 60, .inl tx)), (h4, .inl (cI, 42, .inl pa))]) (w1 := [(h0, .inr (6, [.ref h1, .int states, .ref h2, .int ln, .ref h3, .int thr, .ref h4, .int rd, .int num, .int due, .long hash])), (h1, .inl (cI, 163, .inl (f_X6_put z_c33 x3_8 8 (z_c33 (Int32.toNatClampNeg 2))))), (h2, .inl (cI, 978, .inl hi)), (h3, .inl (cI, 60, .inl tx)), (h4, .inl (cI, 42, .inl pa))]) ⟨hx, hb, hml, hown, hts⟩ hK hN hP hD hS hA hl.1 ⟨Nat.le_of_ble_eq_true rfl, Nat.le_of_ble_eq_true rfl⟩ (c_X6_put l dC dI cI cB h0 h1 h2 h3 h4 _ states ln thr rd num due hash z_c33 hi tx pa x3_8 8 (z_c33 (Int32.toNatClampNeg 2)) hv_10) (cwV 3 hts gX6_lapse_X6_put rfl rfl rfl yd_X6_put ⟨Nat.le_of_ble_eq_true rfl, Nat.le_of_ble_eq_true rfl⟩) [0, 1, 2, 3, 4] rfl rfl rfl 6 rfl rfl rfl rfl (Nat.le_of_ble_eq_true rfl) dX6_lapse_43 (fun H locs hP hD hS => ?_)
          have hP : va_P (dC, dI) vwCl [(h0, .inr (6, [.ref h1, .int states, .ref h2, .int ln, .ref h3, .int thr, .ref h4, .int rd, .int num, .int due, .long hash])), (h1, .inl (cI, 163, .inl (f_X6_put z_c33 x3_8 8 (z_c33 (Int32.toNatClampNeg 2))))), (h2, .inl (cI, 978, .inl hi)), (h3, .inl (cI, 60, .inl tx)), (h4, .inl (cI, 42, .inl pa))] H := hP
          have hD : va_D A [(h0, .inr (6, [.ref h1, .int states, .ref h2, .int ln, .ref h3, .int thr, .ref h4, .int rd, .int num, .int due, .long hash])), (h1, .inl (cI, 163, .inl (f_X6_put z_c33 x3_8 8 (z_c33 (Int32.toNatClampNeg 2))))), (h2, .inl (cI, 978, .inl hi)), (h3, .inl (cI, 60, .inl tx)), (h4, .inl (cI, 42, .inl pa))] := hD
          obtain ⟨z_c46, ez_c46⟩ : ∃ zz9, zz9 = (f_X6_put z_c33 x3_8 8 (z_c33 (Int32.toNatClampNeg 2))) := ⟨_, rfl⟩
          rw [← ez_c46] at hP hD
          have eF : rr = f_X6_lapse_c46 x3_8 (f_X6_lapse_j8 z p1 n8) z_c46 := eF.trans (by rw [f_X6_lapse_c33, ez_c46])
          have eO : o_X6_lapse_c46 x3_8 (o_X6_lapse_j8 z p1 n8) z_c46 := by rw [ez_c46]; exact eO
          rw [o_X6_lapse_c46] at eO
          refine lv_iinc (v := (x3_8 + 1)) (lv' := [(3, .int (x3_8 + 1)), (0, .ref h0), (2, .int (f_X6_standingUnder z p1))]) hx hb dX6_lapse_46 hl (k := 2) rfl rfl (by decide) rfl (fun ls hl => ?_)
          refine lv_goto (tgt := 8) hx hb dX6_lapse_49 (by decide) ?_
          exact ih8 (x3_8 + 1) z_c46 (eF.trans (by rw [f_X6_lapse_c46])) eO _ _ hP hD hS ls (lv_sub hl [1, 2, 0] rfl)
  rw [o_X6_lapse] at eO
  refine lv_aload_n hx hb dX6_lapse_0 rfl (lv_at hl 0 rfl) ?_
  refine lv_iload_n hx hb dX6_lapse_1 rfl (lv_at hl 1 rfl) ?_
  obtain ⟨hv_11, eO⟩ := eO
  refine vm_roVx (v := (f_X6_standingUnder z p1)) (As := [.int p1]) (rest := []) (T := TX6) (N := 11) (wc := [(h0, .inr (6, [.ref h1, .int states, .ref h2, .int ln, .ref h3, .int thr, .ref h4, .int rd, .int num, .int due, .long hash])), (h1, .inl (cI, 163, .inl z)), (h2, .inl (cI, 978, .inl hi)), (h3, .inl (cI, 60, .inl tx)), (h4, .inl (cI, 42, .inl pa))]) ⟨hx, hb, hml, hown, hts⟩ hK hN hP hl.1 ⟨Nat.le_of_ble_eq_true rfl, Nat.le_of_ble_eq_true rfl⟩ (c_X6_standingUnder l dC dI cI cB h0 h1 h2 h3 h4 states ln thr rd num due hash z hi tx pa p1 hv_11) (cwV 1 hts gX6_lapse_X6_standingUnder rfl rfl rfl yd_X6_standingUnder ⟨Nat.le_of_ble_eq_true rfl, Nat.le_of_ble_eq_true rfl⟩) [0, 1, 2, 3, 4] rfl 6 rfl rfl rfl rfl (Nat.le_of_ble_eq_true rfl) dX6_lapse_2 ?_
  refine lv_istore_n (lv' := [(2, .int (f_X6_standingUnder z p1)), (0, .ref h0), (1, .int p1)]) hx hb dX6_lapse_5 rfl hl (by decide) rfl (fun ls hl => ?_)
  refine lv_iconst (v := 0) hx hb dX6_lapse_6 (by decide) ?_
  refine lv_istore_n (lv' := [(3, .int 0), (2, .int (f_X6_standingUnder z p1)), (0, .ref h0), (1, .int p1)]) hx hb dX6_lapse_7 rfl hl (by decide) rfl (fun ls hl => ?_)
  exact hJ8 1000 0 z (eF.trans (by rw [f_X6_lapse])) eO _ _ hP hD hS ls (lv_sub hl [2, 1, 0] rfl)

def f_X6_addRequest (z : Nat → Int32) (p1 : Int32) (p2 : Int32) (p3 : Int32) : (Nat → Int32) :=
  (upd (upd (upd (upd (upd (upd (upd z (Int32.toNatClampNeg 4) ((z (Int32.toNatClampNeg 4)) + 1)) (Int32.toNatClampNeg ((127 + (6 * (z (Int32.toNatClampNeg 4)))) + 0)) p1) (Int32.toNatClampNeg ((127 + (6 * (z (Int32.toNatClampNeg 4)))) + 1)) p2) (Int32.toNatClampNeg ((127 + (6 * (z (Int32.toNatClampNeg 4)))) + 2)) ((upd (upd (upd z (Int32.toNatClampNeg 4) ((z (Int32.toNatClampNeg 4)) + 1)) (Int32.toNatClampNeg ((127 + (6 * (z (Int32.toNatClampNeg 4)))) + 0)) p1) (Int32.toNatClampNeg ((127 + (6 * (z (Int32.toNatClampNeg 4)))) + 1)) p2) (Int32.toNatClampNeg 2))) (Int32.toNatClampNeg ((127 + (6 * (z (Int32.toNatClampNeg 4)))) + 3)) p3) (Int32.toNatClampNeg ((127 + (6 * (z (Int32.toNatClampNeg 4)))) + 4)) (f_X6_of (upd (upd (upd (upd (upd z (Int32.toNatClampNeg 4) ((z (Int32.toNatClampNeg 4)) + 1)) (Int32.toNatClampNeg ((127 + (6 * (z (Int32.toNatClampNeg 4)))) + 0)) p1) (Int32.toNatClampNeg ((127 + (6 * (z (Int32.toNatClampNeg 4)))) + 1)) p2) (Int32.toNatClampNeg ((127 + (6 * (z (Int32.toNatClampNeg 4)))) + 2)) ((upd (upd (upd z (Int32.toNatClampNeg 4) ((z (Int32.toNatClampNeg 4)) + 1)) (Int32.toNatClampNeg ((127 + (6 * (z (Int32.toNatClampNeg 4)))) + 0)) p1) (Int32.toNatClampNeg ((127 + (6 * (z (Int32.toNatClampNeg 4)))) + 1)) p2) (Int32.toNatClampNeg 2))) (Int32.toNatClampNeg ((127 + (6 * (z (Int32.toNatClampNeg 4)))) + 3)) p3) p1 4)) (Int32.toNatClampNeg ((127 + (6 * (z (Int32.toNatClampNeg 4)))) + 5)) 0)
def o_X6_addRequest (z : Nat → Int32) (p1 : Int32) (p2 : Int32) (p3 : Int32) : Prop :=
  vp_in ((127 + (6 * (z (Int32.toNatClampNeg 4)))) + 0) 163 ∧
  (vp_in ((127 + (6 * (z (Int32.toNatClampNeg 4)))) + 1) 163 ∧
  (vp_in ((127 + (6 * (z (Int32.toNatClampNeg 4)))) + 2) 163 ∧
  (vp_in ((127 + (6 * (z (Int32.toNatClampNeg 4)))) + 3) 163 ∧
  (o_X6_of (upd (upd (upd (upd (upd z (Int32.toNatClampNeg 4) ((z (Int32.toNatClampNeg 4)) + 1)) (Int32.toNatClampNeg ((127 + (6 * (z (Int32.toNatClampNeg 4)))) + 0)) p1) (Int32.toNatClampNeg ((127 + (6 * (z (Int32.toNatClampNeg 4)))) + 1)) p2) (Int32.toNatClampNeg ((127 + (6 * (z (Int32.toNatClampNeg 4)))) + 2)) ((upd (upd (upd z (Int32.toNatClampNeg 4) ((z (Int32.toNatClampNeg 4)) + 1)) (Int32.toNatClampNeg ((127 + (6 * (z (Int32.toNatClampNeg 4)))) + 0)) p1) (Int32.toNatClampNeg ((127 + (6 * (z (Int32.toNatClampNeg 4)))) + 1)) p2) (Int32.toNatClampNeg 2))) (Int32.toNatClampNeg ((127 + (6 * (z (Int32.toNatClampNeg 4)))) + 3)) p3) p1 4 ∧
  (vp_in ((127 + (6 * (z (Int32.toNatClampNeg 4)))) + 4) 163 ∧
  (vp_in ((127 + (6 * (z (Int32.toNatClampNeg 4)))) + 5) 163 ∧
  (True)))))))
theorem yd_X6_addRequest : yX6_addRequest.cls = RX6 ∧ yX6_addRequest.cls ≠ "java/lang/invoke/MethodHandle" ∧ yX6_addRequest.cls ≠ "java/lang/invoke/VarHandle" ∧ (parseMethodDescriptor yX6_addRequest.desc).map (fun d => d.parameters.length) = some 3 := by decide +kernel
set_option maxHeartbeats 4000000 in
set_option maxRecDepth 100000 in
theorem c_X6_addRequest (l : Launch) (dC : Nat → ClassId) (dI : Nat → Nat → Nat) (cI cB : ClassId) (h0 h1 h2 h3 h4 : Nat) (sz : Nat) (states : Int32) (ln : Int32) (thr : Int32) (rd : Int32) (num : Int32) (due : Int32) (hash : Int64) (z : Nat → Int32) (hi : Nat → Int32) (tx : Nat → Int32) (pa : Nat → Int32) (p1 : Int32) (p2 : Int32) (p3 : Int32) (eO : o_X6_addRequest z p1 p2 p3) : Met l yX6_addRequest wsX6_addRequest ({ frames := 1, cells := 0, slots := 0, locals := 22 }) (vm_prw [.ref h0, .int p1, .int p2, .int p3] (dC, dI) [(h0, .inr (6, [.ref h1, .int states, .ref h2, .int ln, .ref h3, .int thr, .ref h4, .int rd, .int num, .int due, .long hash])), (h1, .inl (cI, 163, .inl z)), (h2, .inl (cI, 978, .inl hi)), (h3, .inl (cI, 60, .inl tx)), (h4, .inl (cI, 42, .inl pa))] cI cB sz) (va_Qv (fun _ : Unit => True) (fun _ t => va_P (dC, dI) vwCl [(h0, .inr (6, [.ref h1, .int states, .ref h2, .int ln, .ref h3, .int thr, .ref h4, .int rd, .int num, .int due, .long hash])), (h1, .inl (cI, 163, .inl (f_X6_addRequest z p1 p2 p3))), (h2, .inl (cI, 978, .inl hi)), (h3, .inl (cI, 60, .inl tx)), (h4, .inl (cI, 42, .inl pa))] t.heap) (va_A [(h0, .inr (6, [.ref h1, .int states, .ref h2, .int ln, .ref h3, .int thr, .ref h4, .int rd, .int num, .int due, .long hash])), (h1, .inl (cI, 163, .inl z)), (h2, .inl (cI, 978, .inl hi)), (h3, .inl (cI, 60, .inl tx)), (h4, .inl (cI, 42, .inl pa))] sz)) 0 0 (va_A [(h0, .inr (6, [.ref h1, .int states, .ref h2, .int ln, .ref h3, .int thr, .ref h4, .int rd, .int num, .int due, .long hash])), (h1, .inl (cI, 163, .inl z)), (h2, .inl (cI, 978, .inl hi)), (h3, .inl (cI, 60, .inl tx)), (h4, .inl (cI, 42, .inl pa))] sz) := by
  refine Met.ofW (cc := cX6_addRequest) (maxL := 5) (ret := none) (by decide) rfl ?_
  intro p e s m args below meth c s₁ B hml hv
  obtain ⟨rfl, hsz, hP, hK, hN, hD0⟩ := hv
  have hx := B.exec
  have hb := B.bytes
  have hr := B.returns
  have hts := atoms_spec (ws := wsX6_addRequest) B.pre
  have hown : s.vm.findClass RX6 = some m.cls := findClass_of_methodNamed B.named
  have hlocks := B.notSynchronized
  subst hsz
  have hD := hD0.self (sz := s.heap.size)
  generalize hAe : va_A [(h0, .inr (6, [.ref h1, .int states, .ref h2, .int ln, .ref h3, .int thr, .ref h4, .int rd, .int num, .int due, .long hash])), (h1, .inl (cI, 163, .inl z)), (h2, .inl (cI, 978, .inl hi)), (h3, .inl (cI, 60, .inl tx)), (h4, .inl (cI, 42, .inl pa))] s.heap.size = A at hD ⊢
  have hA : ∀ q : Nat, s.heap.size ≤ q → A q := fun q h => by rw [← hAe]; exact Or.inr h
  have hS : va_S A s.heap s.heap [] := va_S.rf
  have hP : va_P (dC, dI) vwCl [(h0, .inr (6, [.ref h1, .int states, .ref h2, .int ln, .ref h3, .int thr, .ref h4, .int rd, .int num, .int due, .long hash])), (h1, .inl (cI, 163, .inl z)), (h2, .inl (cI, 978, .inl hi)), (h3, .inl (cI, 60, .inl tx)), (h4, .inl (cI, 42, .inl pa))] s.heap := hP
  have kw1 := hts (.fieldLink RX6 7 "LapseMandatesModel" "z" "[I") (List.mem_of_getElem? (i := 1) rfl)
  have iwsX60 : ∀ w ∈ wsX60, w ∈ wsX6_addRequest := fun w h => List.mem_cons_of_mem _ (List.mem_append_right _ h)
  generalize hrr : f_X6_addRequest z p1 p2 p3 = rr
  have eF := hrr.symm
  have hl := lv_entry ([.ref h0, .int p1, .int p2, .int p3]) (n := 5) (Nat.le_of_ble_eq_true rfl)
  rw [lg_entry_eq]
  generalize (lg_sl ([.ref h0, .int p1, .int p2, .int p3]) ++ List.replicate (5 - (lg_sl ([.ref h0, .int p1, .int p2, .int p3])).length) Slot.unset).toArray = ls at hl ⊢
  have hl : lv_has ls 5 [(0, .ref h0), (1, .int p1), (2, .int p2), (3, .int p3)] := hl
  rw [o_X6_addRequest] at eO
  refine lv_bipush (v := 127) hx hb dX6_addRequest_0 (by decide) ?_
  refine lv_bipush (v := 6) hx hb dX6_addRequest_2 (by decide) ?_
  refine lv_aload_n hx hb dX6_addRequest_4 rfl (lv_at hl 0 rfl) ?_
  refine va_get (D := (dC, dI)) (ci := 6) (v := .ref h1) (C := RX6) (T := TX6) (N := 11) hx hb hts iwsX60 hown hK hP 0 rfl rfl 0 (by decide) kw1 (fun _ h9 => h9) rfl dX6_addRequest_5 ?_
  refine lv_iconst (v := 4) hx hb dX6_addRequest_8 (by decide) ?_
  refine va_iald hx hb hK hP 1 0 rfl rfl (by unfold vp_in; decide) dX6_addRequest_9 ?_
  refine lv_imul hx hb dX6_addRequest_10 ?_
  refine lv_iadd hx hb dX6_addRequest_11 ?_
  refine lv_istore (lv' := [(4, .int (127 + (6 * (z (Int32.toNatClampNeg 4))))), (0, .ref h0), (1, .int p1), (2, .int p2), (3, .int p3)]) hx hb dX6_addRequest_12 hl (by decide) rfl (fun ls hl => ?_)
  refine lv_aload_n hx hb dX6_addRequest_14 rfl (lv_at hl 1 rfl) ?_
  refine va_get (D := (dC, dI)) (ci := 6) (v := .ref h1) (C := RX6) (T := TX6) (N := 11) hx hb hts iwsX60 hown hK hP 0 rfl rfl 0 (by decide) kw1 (fun _ h9 => h9) rfl dX6_addRequest_15 ?_
  refine lv_iconst (v := 4) hx hb dX6_addRequest_18 (by decide) ?_
  refine lv_dup2_11 hx hb dX6_addRequest_19 rfl rfl ?_
  refine va_iald hx hb hK hP 1 0 rfl rfl (by unfold vp_in; decide) dX6_addRequest_20 ?_
  refine lv_iconst (v := 1) hx hb dX6_addRequest_21 (by decide) ?_
  refine lv_iadd hx hb dX6_addRequest_22 ?_
  refine va_iast hx hb hK hP hD hS 1 0 rfl rfl (by unfold vp_in; decide) dX6_addRequest_23 (fun H locs hP hD hS => ?_)
  have hP : va_P (dC, dI) vwCl [(h0, .inr (6, [.ref h1, .int states, .ref h2, .int ln, .ref h3, .int thr, .ref h4, .int rd, .int num, .int due, .long hash])), (h1, .inl (cI, 163, .inl (upd z (Int32.toNatClampNeg 4) ((z (Int32.toNatClampNeg 4)) + 1)))), (h2, .inl (cI, 978, .inl hi)), (h3, .inl (cI, 60, .inl tx)), (h4, .inl (cI, 42, .inl pa))] H := hP
  have hD : va_D A [(h0, .inr (6, [.ref h1, .int states, .ref h2, .int ln, .ref h3, .int thr, .ref h4, .int rd, .int num, .int due, .long hash])), (h1, .inl (cI, 163, .inl (upd z (Int32.toNatClampNeg 4) ((z (Int32.toNatClampNeg 4)) + 1)))), (h2, .inl (cI, 978, .inl hi)), (h3, .inl (cI, 60, .inl tx)), (h4, .inl (cI, 42, .inl pa))] := hD
  refine lv_aload_n hx hb dX6_addRequest_24 rfl (lv_at hl 1 rfl) ?_
  refine va_get (D := (dC, dI)) (ci := 6) (v := .ref h1) (C := RX6) (T := TX6) (N := 11) hx hb hts iwsX60 hown hK hP 0 rfl rfl 0 (by decide) kw1 (fun _ h9 => h9) rfl dX6_addRequest_25 ?_
  refine lv_iload hx hb dX6_addRequest_28 (lv_at hl 0 rfl) ?_
  refine lv_iconst (v := 0) hx hb dX6_addRequest_30 (by decide) ?_
  refine lv_iadd hx hb dX6_addRequest_31 ?_
  refine lv_iload_n hx hb dX6_addRequest_32 rfl (lv_at hl 2 rfl) ?_
  obtain ⟨hv_1, eO⟩ := eO
  refine va_iast hx hb hK hP hD hS 1 0 rfl rfl hv_1 dX6_addRequest_33 (fun H locs hP hD hS => ?_)
  have hP : va_P (dC, dI) vwCl [(h0, .inr (6, [.ref h1, .int states, .ref h2, .int ln, .ref h3, .int thr, .ref h4, .int rd, .int num, .int due, .long hash])), (h1, .inl (cI, 163, .inl (upd (upd z (Int32.toNatClampNeg 4) ((z (Int32.toNatClampNeg 4)) + 1)) (Int32.toNatClampNeg ((127 + (6 * (z (Int32.toNatClampNeg 4)))) + 0)) p1))), (h2, .inl (cI, 978, .inl hi)), (h3, .inl (cI, 60, .inl tx)), (h4, .inl (cI, 42, .inl pa))] H := hP
  have hD : va_D A [(h0, .inr (6, [.ref h1, .int states, .ref h2, .int ln, .ref h3, .int thr, .ref h4, .int rd, .int num, .int due, .long hash])), (h1, .inl (cI, 163, .inl (upd (upd z (Int32.toNatClampNeg 4) ((z (Int32.toNatClampNeg 4)) + 1)) (Int32.toNatClampNeg ((127 + (6 * (z (Int32.toNatClampNeg 4)))) + 0)) p1))), (h2, .inl (cI, 978, .inl hi)), (h3, .inl (cI, 60, .inl tx)), (h4, .inl (cI, 42, .inl pa))] := hD
  refine lv_aload_n hx hb dX6_addRequest_34 rfl (lv_at hl 1 rfl) ?_
  refine va_get (D := (dC, dI)) (ci := 6) (v := .ref h1) (C := RX6) (T := TX6) (N := 11) hx hb hts iwsX60 hown hK hP 0 rfl rfl 0 (by decide) kw1 (fun _ h9 => h9) rfl dX6_addRequest_35 ?_
  refine lv_iload hx hb dX6_addRequest_38 (lv_at hl 0 rfl) ?_
  refine lv_iconst (v := 1) hx hb dX6_addRequest_40 (by decide) ?_
  refine lv_iadd hx hb dX6_addRequest_41 ?_
  refine lv_iload_n hx hb dX6_addRequest_42 rfl (lv_at hl 3 rfl) ?_
  obtain ⟨hv_2, eO⟩ := eO
  refine va_iast hx hb hK hP hD hS 1 0 rfl rfl hv_2 dX6_addRequest_43 (fun H locs hP hD hS => ?_)
  have hP : va_P (dC, dI) vwCl [(h0, .inr (6, [.ref h1, .int states, .ref h2, .int ln, .ref h3, .int thr, .ref h4, .int rd, .int num, .int due, .long hash])), (h1, .inl (cI, 163, .inl (upd (upd (upd z (Int32.toNatClampNeg 4) ((z (Int32.toNatClampNeg 4)) + 1)) (Int32.toNatClampNeg ((127 + (6 * (z (Int32.toNatClampNeg 4)))) + 0)) p1) (Int32.toNatClampNeg ((127 + (6 * (z (Int32.toNatClampNeg 4)))) + 1)) p2))), (h2, .inl (cI, 978, .inl hi)), (h3, .inl (cI, 60, .inl tx)), (h4, .inl (cI, 42, .inl pa))] H := hP
  have hD : va_D A [(h0, .inr (6, [.ref h1, .int states, .ref h2, .int ln, .ref h3, .int thr, .ref h4, .int rd, .int num, .int due, .long hash])), (h1, .inl (cI, 163, .inl (upd (upd (upd z (Int32.toNatClampNeg 4) ((z (Int32.toNatClampNeg 4)) + 1)) (Int32.toNatClampNeg ((127 + (6 * (z (Int32.toNatClampNeg 4)))) + 0)) p1) (Int32.toNatClampNeg ((127 + (6 * (z (Int32.toNatClampNeg 4)))) + 1)) p2))), (h2, .inl (cI, 978, .inl hi)), (h3, .inl (cI, 60, .inl tx)), (h4, .inl (cI, 42, .inl pa))] := hD
  refine lv_aload_n hx hb dX6_addRequest_44 rfl (lv_at hl 1 rfl) ?_
  refine va_get (D := (dC, dI)) (ci := 6) (v := .ref h1) (C := RX6) (T := TX6) (N := 11) hx hb hts iwsX60 hown hK hP 0 rfl rfl 0 (by decide) kw1 (fun _ h9 => h9) rfl dX6_addRequest_45 ?_
  refine lv_iload hx hb dX6_addRequest_48 (lv_at hl 0 rfl) ?_
  refine lv_iconst (v := 2) hx hb dX6_addRequest_50 (by decide) ?_
  refine lv_iadd hx hb dX6_addRequest_51 ?_
  refine lv_aload_n hx hb dX6_addRequest_52 rfl (lv_at hl 1 rfl) ?_
  refine va_get (D := (dC, dI)) (ci := 6) (v := .ref h1) (C := RX6) (T := TX6) (N := 11) hx hb hts iwsX60 hown hK hP 0 rfl rfl 0 (by decide) kw1 (fun _ h9 => h9) rfl dX6_addRequest_53 ?_
  refine lv_iconst (v := 2) hx hb dX6_addRequest_56 (by decide) ?_
  refine va_iald hx hb hK hP 1 0 rfl rfl (by unfold vp_in; decide) dX6_addRequest_57 ?_
  obtain ⟨hv_3, eO⟩ := eO
  refine va_iast hx hb hK hP hD hS 1 0 rfl rfl hv_3 dX6_addRequest_58 (fun H locs hP hD hS => ?_)
  have hP : va_P (dC, dI) vwCl [(h0, .inr (6, [.ref h1, .int states, .ref h2, .int ln, .ref h3, .int thr, .ref h4, .int rd, .int num, .int due, .long hash])), (h1, .inl (cI, 163, .inl (upd (upd (upd (upd z (Int32.toNatClampNeg 4) ((z (Int32.toNatClampNeg 4)) + 1)) (Int32.toNatClampNeg ((127 + (6 * (z (Int32.toNatClampNeg 4)))) + 0)) p1) (Int32.toNatClampNeg ((127 + (6 * (z (Int32.toNatClampNeg 4)))) + 1)) p2) (Int32.toNatClampNeg ((127 + (6 * (z (Int32.toNatClampNeg 4)))) + 2)) ((upd (upd (upd z (Int32.toNatClampNeg 4) ((z (Int32.toNatClampNeg 4)) + 1)) (Int32.toNatClampNeg ((127 + (6 * (z (Int32.toNatClampNeg 4)))) + 0)) p1) (Int32.toNatClampNeg ((127 + (6 * (z (Int32.toNatClampNeg 4)))) + 1)) p2) (Int32.toNatClampNeg 2))))), (h2, .inl (cI, 978, .inl hi)), (h3, .inl (cI, 60, .inl tx)), (h4, .inl (cI, 42, .inl pa))] H := hP
  have hD : va_D A [(h0, .inr (6, [.ref h1, .int states, .ref h2, .int ln, .ref h3, .int thr, .ref h4, .int rd, .int num, .int due, .long hash])), (h1, .inl (cI, 163, .inl (upd (upd (upd (upd z (Int32.toNatClampNeg 4) ((z (Int32.toNatClampNeg 4)) + 1)) (Int32.toNatClampNeg ((127 + (6 * (z (Int32.toNatClampNeg 4)))) + 0)) p1) (Int32.toNatClampNeg ((127 + (6 * (z (Int32.toNatClampNeg 4)))) + 1)) p2) (Int32.toNatClampNeg ((127 + (6 * (z (Int32.toNatClampNeg 4)))) + 2)) ((upd (upd (upd z (Int32.toNatClampNeg 4) ((z (Int32.toNatClampNeg 4)) + 1)) (Int32.toNatClampNeg ((127 + (6 * (z (Int32.toNatClampNeg 4)))) + 0)) p1) (Int32.toNatClampNeg ((127 + (6 * (z (Int32.toNatClampNeg 4)))) + 1)) p2) (Int32.toNatClampNeg 2))))), (h2, .inl (cI, 978, .inl hi)), (h3, .inl (cI, 60, .inl tx)), (h4, .inl (cI, 42, .inl pa))] := hD
  refine lv_aload_n hx hb dX6_addRequest_59 rfl (lv_at hl 1 rfl) ?_
  refine va_get (D := (dC, dI)) (ci := 6) (v := .ref h1) (C := RX6) (T := TX6) (N := 11) hx hb hts iwsX60 hown hK hP 0 rfl rfl 0 (by decide) kw1 (fun _ h9 => h9) rfl dX6_addRequest_60 ?_
  refine lv_iload hx hb dX6_addRequest_63 (lv_at hl 0 rfl) ?_
  refine lv_iconst (v := 3) hx hb dX6_addRequest_65 (by decide) ?_
  refine lv_iadd hx hb dX6_addRequest_66 ?_
  refine lv_iload_n hx hb dX6_addRequest_67 rfl (lv_at hl 4 rfl) ?_
  obtain ⟨hv_4, eO⟩ := eO
  refine va_iast hx hb hK hP hD hS 1 0 rfl rfl hv_4 dX6_addRequest_68 (fun H locs hP hD hS => ?_)
  have hP : va_P (dC, dI) vwCl [(h0, .inr (6, [.ref h1, .int states, .ref h2, .int ln, .ref h3, .int thr, .ref h4, .int rd, .int num, .int due, .long hash])), (h1, .inl (cI, 163, .inl (upd (upd (upd (upd (upd z (Int32.toNatClampNeg 4) ((z (Int32.toNatClampNeg 4)) + 1)) (Int32.toNatClampNeg ((127 + (6 * (z (Int32.toNatClampNeg 4)))) + 0)) p1) (Int32.toNatClampNeg ((127 + (6 * (z (Int32.toNatClampNeg 4)))) + 1)) p2) (Int32.toNatClampNeg ((127 + (6 * (z (Int32.toNatClampNeg 4)))) + 2)) ((upd (upd (upd z (Int32.toNatClampNeg 4) ((z (Int32.toNatClampNeg 4)) + 1)) (Int32.toNatClampNeg ((127 + (6 * (z (Int32.toNatClampNeg 4)))) + 0)) p1) (Int32.toNatClampNeg ((127 + (6 * (z (Int32.toNatClampNeg 4)))) + 1)) p2) (Int32.toNatClampNeg 2))) (Int32.toNatClampNeg ((127 + (6 * (z (Int32.toNatClampNeg 4)))) + 3)) p3))), (h2, .inl (cI, 978, .inl hi)), (h3, .inl (cI, 60, .inl tx)), (h4, .inl (cI, 42, .inl pa))] H := hP
  have hD : va_D A [(h0, .inr (6, [.ref h1, .int states, .ref h2, .int ln, .ref h3, .int thr, .ref h4, .int rd, .int num, .int due, .long hash])), (h1, .inl (cI, 163, .inl (upd (upd (upd (upd (upd z (Int32.toNatClampNeg 4) ((z (Int32.toNatClampNeg 4)) + 1)) (Int32.toNatClampNeg ((127 + (6 * (z (Int32.toNatClampNeg 4)))) + 0)) p1) (Int32.toNatClampNeg ((127 + (6 * (z (Int32.toNatClampNeg 4)))) + 1)) p2) (Int32.toNatClampNeg ((127 + (6 * (z (Int32.toNatClampNeg 4)))) + 2)) ((upd (upd (upd z (Int32.toNatClampNeg 4) ((z (Int32.toNatClampNeg 4)) + 1)) (Int32.toNatClampNeg ((127 + (6 * (z (Int32.toNatClampNeg 4)))) + 0)) p1) (Int32.toNatClampNeg ((127 + (6 * (z (Int32.toNatClampNeg 4)))) + 1)) p2) (Int32.toNatClampNeg 2))) (Int32.toNatClampNeg ((127 + (6 * (z (Int32.toNatClampNeg 4)))) + 3)) p3))), (h2, .inl (cI, 978, .inl hi)), (h3, .inl (cI, 60, .inl tx)), (h4, .inl (cI, 42, .inl pa))] := hD
  refine lv_aload_n hx hb dX6_addRequest_69 rfl (lv_at hl 1 rfl) ?_
  refine va_get (D := (dC, dI)) (ci := 6) (v := .ref h1) (C := RX6) (T := TX6) (N := 11) hx hb hts iwsX60 hown hK hP 0 rfl rfl 0 (by decide) kw1 (fun _ h9 => h9) rfl dX6_addRequest_70 ?_
  refine lv_iload hx hb dX6_addRequest_73 (lv_at hl 0 rfl) ?_
  refine lv_iconst (v := 4) hx hb dX6_addRequest_75 (by decide) ?_
  refine lv_iadd hx hb dX6_addRequest_76 ?_
  refine lv_aload_n hx hb dX6_addRequest_77 rfl (lv_at hl 1 rfl) ?_
  refine lv_iload_n hx hb dX6_addRequest_78 rfl (lv_at hl 2 rfl) ?_
  refine lv_iconst (v := 4) hx hb dX6_addRequest_79 (by decide) ?_
  obtain ⟨hv_5, eO⟩ := eO
  refine vm_roVx (v := (f_X6_of (upd (upd (upd (upd (upd z (Int32.toNatClampNeg 4) ((z (Int32.toNatClampNeg 4)) + 1)) (Int32.toNatClampNeg ((127 + (6 * (z (Int32.toNatClampNeg 4)))) + 0)) p1) (Int32.toNatClampNeg ((127 + (6 * (z (Int32.toNatClampNeg 4)))) + 1)) p2) (Int32.toNatClampNeg ((127 + (6 * (z (Int32.toNatClampNeg 4)))) + 2)) ((upd (upd (upd z (Int32.toNatClampNeg 4) ((z (Int32.toNatClampNeg 4)) + 1)) (Int32.toNatClampNeg ((127 + (6 * (z (Int32.toNatClampNeg 4)))) + 0)) p1) (Int32.toNatClampNeg ((127 + (6 * (z (Int32.toNatClampNeg 4)))) + 1)) p2) (Int32.toNatClampNeg 2))) (Int32.toNatClampNeg ((127 + (6 * (z (Int32.toNatClampNeg 4)))) + 3)) p3) p1 4)) (As := [.int p1, .int 4]) (rest := [.int ((127 + (6 * (z (Int32.toNatClampNeg 4)))) + 4), .ref h1]) (T := TX6) (N := 11) (wc := [(h0, .inr (6, [.ref h1, .int states, .ref h2, .int ln, .ref h3, .int thr, .ref h4, .int rd, .int num, .int due, .long hash])), (h1, .inl (cI, 163, .inl (upd (upd (upd (upd (upd z (Int32.toNatClampNeg 4) ((z (Int32.toNatClampNeg 4)) + 1)) (Int32.toNatClampNeg ((127 + (6 * (z (Int32.toNatClampNeg 4)))) + 0)) p1) (Int32.toNatClampNeg ((127 + (6 * (z (Int32.toNatClampNeg 4)))) + 1)) p2) (Int32.toNatClampNeg ((127 + (6 * (z (Int32.toNatClampNeg 4)))) + 2)) ((upd (upd (upd z (Int32.toNatClampNeg 4) ((z (Int32.toNatClampNeg 4)) + 1)) (Int32.toNatClampNeg ((127 + (6 * (z (Int32.toNatClampNeg 4)))) + 0)) p1) (Int32.toNatClampNeg ((127 + (6 * (z (Int32.toNatClampNeg 4)))) + 1)) p2) (Int32.toNatClampNeg 2))) (Int32.toNatClampNeg ((127 + (6 * (z (Int32.toNatClampNeg 4)))) + 3)) p3))), (h2, .inl (cI, 978, .inl hi)), (h3, .inl (cI, 60, .inl tx)), (h4, .inl (cI, 42, .inl pa))]) ⟨hx, hb, hml, hown, hts⟩ hK hN hP hl.1 ⟨Nat.le_of_ble_eq_true rfl, Nat.le_of_ble_eq_true rfl⟩ (c_X6_of l dC dI cI cB h0 h1 h2 h3 h4 states ln thr rd num due hash (upd (upd (upd (upd (upd z (Int32.toNatClampNeg 4) ((z (Int32.toNatClampNeg 4)) + 1)) (Int32.toNatClampNeg ((127 + (6 * (z (Int32.toNatClampNeg 4)))) + 0)) p1) (Int32.toNatClampNeg ((127 + (6 * (z (Int32.toNatClampNeg 4)))) + 1)) p2) (Int32.toNatClampNeg ((127 + (6 * (z (Int32.toNatClampNeg 4)))) + 2)) ((upd (upd (upd z (Int32.toNatClampNeg 4) ((z (Int32.toNatClampNeg 4)) + 1)) (Int32.toNatClampNeg ((127 + (6 * (z (Int32.toNatClampNeg 4)))) + 0)) p1) (Int32.toNatClampNeg ((127 + (6 * (z (Int32.toNatClampNeg 4)))) + 1)) p2) (Int32.toNatClampNeg 2))) (Int32.toNatClampNeg ((127 + (6 * (z (Int32.toNatClampNeg 4)))) + 3)) p3) hi tx pa p1 4 hv_5) (cwV 2 hts gX6_addRequest_X6_of rfl rfl rfl yd_X6_of ⟨Nat.le_of_ble_eq_true rfl, Nat.le_of_ble_eq_true rfl⟩) [0, 1, 2, 3, 4] rfl 6 rfl rfl rfl rfl (Nat.le_of_ble_eq_true rfl) dX6_addRequest_80 ?_
  obtain ⟨hv_6, eO⟩ := eO
  refine va_iast hx hb hK hP hD hS 1 0 rfl rfl hv_6 dX6_addRequest_83 (fun H locs hP hD hS => ?_)
  have hP : va_P (dC, dI) vwCl [(h0, .inr (6, [.ref h1, .int states, .ref h2, .int ln, .ref h3, .int thr, .ref h4, .int rd, .int num, .int due, .long hash])), (h1, .inl (cI, 163, .inl (upd (upd (upd (upd (upd (upd z (Int32.toNatClampNeg 4) ((z (Int32.toNatClampNeg 4)) + 1)) (Int32.toNatClampNeg ((127 + (6 * (z (Int32.toNatClampNeg 4)))) + 0)) p1) (Int32.toNatClampNeg ((127 + (6 * (z (Int32.toNatClampNeg 4)))) + 1)) p2) (Int32.toNatClampNeg ((127 + (6 * (z (Int32.toNatClampNeg 4)))) + 2)) ((upd (upd (upd z (Int32.toNatClampNeg 4) ((z (Int32.toNatClampNeg 4)) + 1)) (Int32.toNatClampNeg ((127 + (6 * (z (Int32.toNatClampNeg 4)))) + 0)) p1) (Int32.toNatClampNeg ((127 + (6 * (z (Int32.toNatClampNeg 4)))) + 1)) p2) (Int32.toNatClampNeg 2))) (Int32.toNatClampNeg ((127 + (6 * (z (Int32.toNatClampNeg 4)))) + 3)) p3) (Int32.toNatClampNeg ((127 + (6 * (z (Int32.toNatClampNeg 4)))) + 4)) (f_X6_of (upd (upd (upd (upd (upd z (Int32.toNatClampNeg 4) ((z (Int32.toNatClampNeg 4)) + 1)) (Int32.toNatClampNeg ((127 + (6 * (z (Int32.toNatClampNeg 4)))) + 0)) p1) (Int32.toNatClampNeg ((127 + (6 * (z (Int32.toNatClampNeg 4)))) + 1)) p2) (Int32.toNatClampNeg ((127 + (6 * (z (Int32.toNatClampNeg 4)))) + 2)) ((upd (upd (upd z (Int32.toNatClampNeg 4) ((z (Int32.toNatClampNeg 4)) + 1)) (Int32.toNatClampNeg ((127 + (6 * (z (Int32.toNatClampNeg 4)))) + 0)) p1) (Int32.toNatClampNeg ((127 + (6 * (z (Int32.toNatClampNeg 4)))) + 1)) p2) (Int32.toNatClampNeg 2))) (Int32.toNatClampNeg ((127 + (6 * (z (Int32.toNatClampNeg 4)))) + 3)) p3) p1 4)))), (h2, .inl (cI, 978, .inl hi)), (h3, .inl (cI, 60, .inl tx)), (h4, .inl (cI, 42, .inl pa))] H := hP
  have hD : va_D A [(h0, .inr (6, [.ref h1, .int states, .ref h2, .int ln, .ref h3, .int thr, .ref h4, .int rd, .int num, .int due, .long hash])), (h1, .inl (cI, 163, .inl (upd (upd (upd (upd (upd (upd z (Int32.toNatClampNeg 4) ((z (Int32.toNatClampNeg 4)) + 1)) (Int32.toNatClampNeg ((127 + (6 * (z (Int32.toNatClampNeg 4)))) + 0)) p1) (Int32.toNatClampNeg ((127 + (6 * (z (Int32.toNatClampNeg 4)))) + 1)) p2) (Int32.toNatClampNeg ((127 + (6 * (z (Int32.toNatClampNeg 4)))) + 2)) ((upd (upd (upd z (Int32.toNatClampNeg 4) ((z (Int32.toNatClampNeg 4)) + 1)) (Int32.toNatClampNeg ((127 + (6 * (z (Int32.toNatClampNeg 4)))) + 0)) p1) (Int32.toNatClampNeg ((127 + (6 * (z (Int32.toNatClampNeg 4)))) + 1)) p2) (Int32.toNatClampNeg 2))) (Int32.toNatClampNeg ((127 + (6 * (z (Int32.toNatClampNeg 4)))) + 3)) p3) (Int32.toNatClampNeg ((127 + (6 * (z (Int32.toNatClampNeg 4)))) + 4)) (f_X6_of (upd (upd (upd (upd (upd z (Int32.toNatClampNeg 4) ((z (Int32.toNatClampNeg 4)) + 1)) (Int32.toNatClampNeg ((127 + (6 * (z (Int32.toNatClampNeg 4)))) + 0)) p1) (Int32.toNatClampNeg ((127 + (6 * (z (Int32.toNatClampNeg 4)))) + 1)) p2) (Int32.toNatClampNeg ((127 + (6 * (z (Int32.toNatClampNeg 4)))) + 2)) ((upd (upd (upd z (Int32.toNatClampNeg 4) ((z (Int32.toNatClampNeg 4)) + 1)) (Int32.toNatClampNeg ((127 + (6 * (z (Int32.toNatClampNeg 4)))) + 0)) p1) (Int32.toNatClampNeg ((127 + (6 * (z (Int32.toNatClampNeg 4)))) + 1)) p2) (Int32.toNatClampNeg 2))) (Int32.toNatClampNeg ((127 + (6 * (z (Int32.toNatClampNeg 4)))) + 3)) p3) p1 4)))), (h2, .inl (cI, 978, .inl hi)), (h3, .inl (cI, 60, .inl tx)), (h4, .inl (cI, 42, .inl pa))] := hD
  refine lv_aload_n hx hb dX6_addRequest_84 rfl (lv_at hl 1 rfl) ?_
  refine va_get (D := (dC, dI)) (ci := 6) (v := .ref h1) (C := RX6) (T := TX6) (N := 11) hx hb hts iwsX60 hown hK hP 0 rfl rfl 0 (by decide) kw1 (fun _ h9 => h9) rfl dX6_addRequest_85 ?_
  refine lv_iload hx hb dX6_addRequest_88 (lv_at hl 0 rfl) ?_
  refine lv_iconst (v := 5) hx hb dX6_addRequest_90 (by decide) ?_
  refine lv_iadd hx hb dX6_addRequest_91 ?_
  refine lv_iconst (v := 0) hx hb dX6_addRequest_92 (by decide) ?_
  obtain ⟨hv_7, eO⟩ := eO
  refine va_iast hx hb hK hP hD hS 1 0 rfl rfl hv_7 dX6_addRequest_93 (fun H locs hP hD hS => ?_)
  have hP : va_P (dC, dI) vwCl [(h0, .inr (6, [.ref h1, .int states, .ref h2, .int ln, .ref h3, .int thr, .ref h4, .int rd, .int num, .int due, .long hash])), (h1, .inl (cI, 163, .inl (upd (upd (upd (upd (upd (upd (upd z (Int32.toNatClampNeg 4) ((z (Int32.toNatClampNeg 4)) + 1)) (Int32.toNatClampNeg ((127 + (6 * (z (Int32.toNatClampNeg 4)))) + 0)) p1) (Int32.toNatClampNeg ((127 + (6 * (z (Int32.toNatClampNeg 4)))) + 1)) p2) (Int32.toNatClampNeg ((127 + (6 * (z (Int32.toNatClampNeg 4)))) + 2)) ((upd (upd (upd z (Int32.toNatClampNeg 4) ((z (Int32.toNatClampNeg 4)) + 1)) (Int32.toNatClampNeg ((127 + (6 * (z (Int32.toNatClampNeg 4)))) + 0)) p1) (Int32.toNatClampNeg ((127 + (6 * (z (Int32.toNatClampNeg 4)))) + 1)) p2) (Int32.toNatClampNeg 2))) (Int32.toNatClampNeg ((127 + (6 * (z (Int32.toNatClampNeg 4)))) + 3)) p3) (Int32.toNatClampNeg ((127 + (6 * (z (Int32.toNatClampNeg 4)))) + 4)) (f_X6_of (upd (upd (upd (upd (upd z (Int32.toNatClampNeg 4) ((z (Int32.toNatClampNeg 4)) + 1)) (Int32.toNatClampNeg ((127 + (6 * (z (Int32.toNatClampNeg 4)))) + 0)) p1) (Int32.toNatClampNeg ((127 + (6 * (z (Int32.toNatClampNeg 4)))) + 1)) p2) (Int32.toNatClampNeg ((127 + (6 * (z (Int32.toNatClampNeg 4)))) + 2)) ((upd (upd (upd z (Int32.toNatClampNeg 4) ((z (Int32.toNatClampNeg 4)) + 1)) (Int32.toNatClampNeg ((127 + (6 * (z (Int32.toNatClampNeg 4)))) + 0)) p1) (Int32.toNatClampNeg ((127 + (6 * (z (Int32.toNatClampNeg 4)))) + 1)) p2) (Int32.toNatClampNeg 2))) (Int32.toNatClampNeg ((127 + (6 * (z (Int32.toNatClampNeg 4)))) + 3)) p3) p1 4)) (Int32.toNatClampNeg ((127 + (6 * (z (Int32.toNatClampNeg 4)))) + 5)) 0))), (h2, .inl (cI, 978, .inl hi)), (h3, .inl (cI, 60, .inl tx)), (h4, .inl (cI, 42, .inl pa))] H := hP
  have hD : va_D A [(h0, .inr (6, [.ref h1, .int states, .ref h2, .int ln, .ref h3, .int thr, .ref h4, .int rd, .int num, .int due, .long hash])), (h1, .inl (cI, 163, .inl (upd (upd (upd (upd (upd (upd (upd z (Int32.toNatClampNeg 4) ((z (Int32.toNatClampNeg 4)) + 1)) (Int32.toNatClampNeg ((127 + (6 * (z (Int32.toNatClampNeg 4)))) + 0)) p1) (Int32.toNatClampNeg ((127 + (6 * (z (Int32.toNatClampNeg 4)))) + 1)) p2) (Int32.toNatClampNeg ((127 + (6 * (z (Int32.toNatClampNeg 4)))) + 2)) ((upd (upd (upd z (Int32.toNatClampNeg 4) ((z (Int32.toNatClampNeg 4)) + 1)) (Int32.toNatClampNeg ((127 + (6 * (z (Int32.toNatClampNeg 4)))) + 0)) p1) (Int32.toNatClampNeg ((127 + (6 * (z (Int32.toNatClampNeg 4)))) + 1)) p2) (Int32.toNatClampNeg 2))) (Int32.toNatClampNeg ((127 + (6 * (z (Int32.toNatClampNeg 4)))) + 3)) p3) (Int32.toNatClampNeg ((127 + (6 * (z (Int32.toNatClampNeg 4)))) + 4)) (f_X6_of (upd (upd (upd (upd (upd z (Int32.toNatClampNeg 4) ((z (Int32.toNatClampNeg 4)) + 1)) (Int32.toNatClampNeg ((127 + (6 * (z (Int32.toNatClampNeg 4)))) + 0)) p1) (Int32.toNatClampNeg ((127 + (6 * (z (Int32.toNatClampNeg 4)))) + 1)) p2) (Int32.toNatClampNeg ((127 + (6 * (z (Int32.toNatClampNeg 4)))) + 2)) ((upd (upd (upd z (Int32.toNatClampNeg 4) ((z (Int32.toNatClampNeg 4)) + 1)) (Int32.toNatClampNeg ((127 + (6 * (z (Int32.toNatClampNeg 4)))) + 0)) p1) (Int32.toNatClampNeg ((127 + (6 * (z (Int32.toNatClampNeg 4)))) + 1)) p2) (Int32.toNatClampNeg 2))) (Int32.toNatClampNeg ((127 + (6 * (z (Int32.toNatClampNeg 4)))) + 3)) p3) p1 4)) (Int32.toNatClampNeg ((127 + (6 * (z (Int32.toNatClampNeg 4)))) + 5)) 0))), (h2, .inl (cI, 978, .inl hi)), (h3, .inl (cI, 60, .inl tx)), (h4, .inl (cI, 42, .inl pa))] := hD
  have e9 : rr = (upd (upd (upd (upd (upd (upd (upd z (Int32.toNatClampNeg 4) ((z (Int32.toNatClampNeg 4)) + 1)) (Int32.toNatClampNeg ((127 + (6 * (z (Int32.toNatClampNeg 4)))) + 0)) p1) (Int32.toNatClampNeg ((127 + (6 * (z (Int32.toNatClampNeg 4)))) + 1)) p2) (Int32.toNatClampNeg ((127 + (6 * (z (Int32.toNatClampNeg 4)))) + 2)) ((upd (upd (upd z (Int32.toNatClampNeg 4) ((z (Int32.toNatClampNeg 4)) + 1)) (Int32.toNatClampNeg ((127 + (6 * (z (Int32.toNatClampNeg 4)))) + 0)) p1) (Int32.toNatClampNeg ((127 + (6 * (z (Int32.toNatClampNeg 4)))) + 1)) p2) (Int32.toNatClampNeg 2))) (Int32.toNatClampNeg ((127 + (6 * (z (Int32.toNatClampNeg 4)))) + 3)) p3) (Int32.toNatClampNeg ((127 + (6 * (z (Int32.toNatClampNeg 4)))) + 4)) (f_X6_of (upd (upd (upd (upd (upd z (Int32.toNatClampNeg 4) ((z (Int32.toNatClampNeg 4)) + 1)) (Int32.toNatClampNeg ((127 + (6 * (z (Int32.toNatClampNeg 4)))) + 0)) p1) (Int32.toNatClampNeg ((127 + (6 * (z (Int32.toNatClampNeg 4)))) + 1)) p2) (Int32.toNatClampNeg ((127 + (6 * (z (Int32.toNatClampNeg 4)))) + 2)) ((upd (upd (upd z (Int32.toNatClampNeg 4) ((z (Int32.toNatClampNeg 4)) + 1)) (Int32.toNatClampNeg ((127 + (6 * (z (Int32.toNatClampNeg 4)))) + 0)) p1) (Int32.toNatClampNeg ((127 + (6 * (z (Int32.toNatClampNeg 4)))) + 1)) p2) (Int32.toNatClampNeg 2))) (Int32.toNatClampNeg ((127 + (6 * (z (Int32.toNatClampNeg 4)))) + 3)) p3) p1 4)) (Int32.toNatClampNeg ((127 + (6 * (z (Int32.toNatClampNeg 4)))) + 5)) 0) := eF.trans (by rw [f_X6_addRequest])
  exact W.vret hx hb hr (fun t ht hW => ⟨⟨(), rfl, trivial, (by rw [e9]; show va_P _ _ _ t.heap; rw [ht]; exact hP)⟩, hS.F ht⟩) hS.2.2 dX6_addRequest_94

def f_X6_holdsAbove_j36 (z : Nat → Int32) (x4_10 : Int32) (kj10 : Bool → Int32 → Bool) (s0_36 : Bool) : Bool :=
  kj10 s0_36 (f_X6_of z x4_10 0)
def f_X6_holdsAbove_j31 (z : Nat → Int32) (x4_10 : Int32) (kj10 : Bool → Int32 → Bool) : Bool :=
  f_X6_holdsAbove_j36 z x4_10 kj10 true
def f_X6_holdsAbove_j10 (z : Nat → Int32) (p1 : Int32) : Nat → Bool → Int32 → Bool
  | 0, _, _ => false
  | n10 + 1, x3_10, x4_10 => if x4_10 = (-1) then
      x3_10
    else
      if (vm_bi x3_10) = 0 then
        if (f_X6_of z x4_10 1) = p1 then
          f_X6_holdsAbove_j31 z x4_10 (f_X6_holdsAbove_j10 z p1 n10)
        else
          f_X6_holdsAbove_j36 z x4_10 (f_X6_holdsAbove_j10 z p1 n10) false
      else
        f_X6_holdsAbove_j31 z x4_10 (f_X6_holdsAbove_j10 z p1 n10)
def f_X6_holdsAbove (z : Nat → Int32) (p1 : Int32) (p2 : Int32) : Bool :=
  f_X6_holdsAbove_j10 z p1 1000 false (f_X6_of z p2 0)
def o_X6_holdsAbove_j36 (z : Nat → Int32) (x4_10 : Int32) (koj10 : Bool → Int32 → Prop) (s0_36 : Bool) : Prop :=
  o_X6_of z x4_10 0 ∧
  (koj10 s0_36 (f_X6_of z x4_10 0))
def o_X6_holdsAbove_j31 (z : Nat → Int32) (x4_10 : Int32) (koj10 : Bool → Int32 → Prop) : Prop :=
  o_X6_holdsAbove_j36 z x4_10 koj10 true
def o_X6_holdsAbove_j10 (z : Nat → Int32) (p1 : Int32) : Nat → Bool → Int32 → Prop
  | 0, _, _ => False
  | n10 + 1, x3_10, x4_10 => if x4_10 = (-1) then
      True
    else
      if (vm_bi x3_10) = 0 then
        o_X6_of z x4_10 1 ∧
        (if (f_X6_of z x4_10 1) = p1 then
          o_X6_holdsAbove_j31 z x4_10 (o_X6_holdsAbove_j10 z p1 n10)
        else
          o_X6_holdsAbove_j36 z x4_10 (o_X6_holdsAbove_j10 z p1 n10) false)
      else
        o_X6_holdsAbove_j31 z x4_10 (o_X6_holdsAbove_j10 z p1 n10)
def o_X6_holdsAbove (z : Nat → Int32) (p1 : Int32) (p2 : Int32) : Prop :=
  o_X6_of z p2 0 ∧
  (o_X6_holdsAbove_j10 z p1 1000 false (f_X6_of z p2 0))
theorem yd_X6_holdsAbove : yX6_holdsAbove.cls = RX6 ∧ yX6_holdsAbove.cls ≠ "java/lang/invoke/MethodHandle" ∧ yX6_holdsAbove.cls ≠ "java/lang/invoke/VarHandle" ∧ (parseMethodDescriptor yX6_holdsAbove.desc).map (fun d => d.parameters.length) = some 2 := by decide +kernel
set_option maxHeartbeats 4000000 in
set_option maxRecDepth 100000 in
theorem c_X6_holdsAbove (l : Launch) (dC : Nat → ClassId) (dI : Nat → Nat → Nat) (cI cB : ClassId) (h0 h1 h2 h3 h4 : Nat) (states : Int32) (ln : Int32) (thr : Int32) (rd : Int32) (num : Int32) (due : Int32) (hash : Int64) (z : Nat → Int32) (hi : Nat → Int32) (tx : Nat → Int32) (pa : Nat → Int32) (p1 : Int32) (p2 : Int32) (eO : o_X6_holdsAbove z p1 p2) : Met l yX6_holdsAbove wsX6_holdsAbove ({ frames := 1, cells := 0, slots := 0, locals := 22 }) (vm_pre [.ref h0, .int p1, .int p2] (dC, dI) [(h0, .inr (6, [.ref h1, .int states, .ref h2, .int ln, .ref h3, .int thr, .ref h4, .int rd, .int num, .int due, .long hash])), (h1, .inl (cI, 163, .inl z)), (h2, .inl (cI, 978, .inl hi)), (h3, .inl (cI, 60, .inl tx)), (h4, .inl (cI, 42, .inl pa))] cI cB) (vp_Si (fun r9 : Int32 => r9 = vm_bi (f_X6_holdsAbove z p1 p2))) 0 0 (fun _ => False) := by
  refine Met.ofW (cc := cX6_holdsAbove) (maxL := 5) (ret := (some .boolean)) (by decide) rfl ?_
  intro p e s m args below meth c s₁ B hml hv
  obtain ⟨rfl, hP, hK, hN⟩ := hv
  have hx := B.exec
  have hb := B.bytes
  have hr := B.returns
  have hts := atoms_spec (ws := wsX6_holdsAbove) B.pre
  have hown : s.vm.findClass RX6 = some m.cls := findClass_of_methodNamed B.named
  have hlocks := B.notSynchronized
  generalize hrr : f_X6_holdsAbove z p1 p2 = rr
  have eF := hrr.symm
  have hl := lv_entry ([.ref h0, .int p1, .int p2]) (n := 5) (Nat.le_of_ble_eq_true rfl)
  rw [lg_entry_eq]
  generalize (lg_sl ([.ref h0, .int p1, .int p2]) ++ List.replicate (5 - (lg_sl ([.ref h0, .int p1, .int p2])).length) Slot.unset).toArray = ls at hl ⊢
  have hl : lv_has ls 5 [(0, .ref h0), (1, .int p1), (2, .int p2)] := hl
  have hJ10 : ∀ (n10 : Nat) (x3_10 : Bool) (x4_10 : Int32), rr = f_X6_holdsAbove_j10 z p1 n10 x3_10 x4_10 → o_X6_holdsAbove_j10 z p1 n10 x3_10 x4_10 → ∀ (ls : Array Slot), lv_has ls 5 [(0, .ref h0), (1, .int p1), (3, .int (vm_bi x3_10)), (4, .int x4_10)] → W p l e (headSpec wsX6_holdsAbove ({ frames := 1, cells := 0, slots := 0, locals := 22 })).room s m ([.ref h0, .int p1, .int p2] : List Value).toArray below meth c s.heap [] 0 0 (MQ below (vp_Si (fun r9 : Int32 => r9 = vm_bi rr)) ([.ref h0, .int p1, .int p2] : List Value).toArray s 0 0 (fun _ => False)) (F0 m 10 ls []) := by
    intro n10
    induction n10 with
    | zero =>
      intro x3_10 x4_10 eF eO
      exact False.elim eO
    | succ n10 ih10 =>
      intro x3_10 x4_10 eF eO ls hl
      rw [o_X6_holdsAbove_j10] at eO
      have hJ36 : ∀ (s0_36 : Bool), rr = f_X6_holdsAbove_j36 z x4_10 (f_X6_holdsAbove_j10 z p1 n10) s0_36 → o_X6_holdsAbove_j36 z x4_10 (o_X6_holdsAbove_j10 z p1 n10) s0_36 → ∀ (ls : Array Slot), lv_has ls 5 [(0, .ref h0), (1, .int p1), (4, .int x4_10)] → W p l e (headSpec wsX6_holdsAbove ({ frames := 1, cells := 0, slots := 0, locals := 22 })).room s m ([.ref h0, .int p1, .int p2] : List Value).toArray below meth c s.heap [] 0 0 (MQ below (vp_Si (fun r9 : Int32 => r9 = vm_bi rr)) ([.ref h0, .int p1, .int p2] : List Value).toArray s 0 0 (fun _ => False)) (F0 m 36 ls [.int (vm_bi s0_36)]) := by
        intro s0_36 eF eO ls hl
        rw [o_X6_holdsAbove_j36] at eO
        refine lv_istore_n (lv' := [(3, .int (vm_bi s0_36)), (0, .ref h0), (1, .int p1), (4, .int x4_10)]) hx hb dX6_holdsAbove_36 rfl hl (by decide) rfl (fun ls hl => ?_)
        refine lv_aload_n hx hb dX6_holdsAbove_37 rfl (lv_at hl 1 rfl) ?_
        refine lv_iload hx hb dX6_holdsAbove_38 (lv_at hl 3 rfl) ?_
        refine lv_iconst (v := 0) hx hb dX6_holdsAbove_40 (by decide) ?_
        obtain ⟨hv_1, eO⟩ := eO
        refine vm_roVx (v := (f_X6_of z x4_10 0)) (As := [.int x4_10, .int 0]) (rest := []) (T := TX6) (N := 11) (wc := [(h0, .inr (6, [.ref h1, .int states, .ref h2, .int ln, .ref h3, .int thr, .ref h4, .int rd, .int num, .int due, .long hash])), (h1, .inl (cI, 163, .inl z)), (h2, .inl (cI, 978, .inl hi)), (h3, .inl (cI, 60, .inl tx)), (h4, .inl (cI, 42, .inl pa))]) ⟨hx, hb, hml, hown, hts⟩ hK hN hP hl.1 ⟨Nat.le_of_ble_eq_true rfl, Nat.le_of_ble_eq_true rfl⟩ (c_X6_of l dC dI cI cB h0 h1 h2 h3 h4 states ln thr rd num due hash z hi tx pa x4_10 0 hv_1) (cwV 2 hts gX6_holdsAbove_X6_of rfl rfl rfl yd_X6_of ⟨Nat.le_of_ble_eq_true rfl, Nat.le_of_ble_eq_true rfl⟩) [0, 1, 2, 3, 4] rfl 6 rfl rfl rfl rfl (Nat.le_of_ble_eq_true rfl) dX6_holdsAbove_41 ?_
        refine lv_istore (lv' := [(4, .int (f_X6_of z x4_10 0)), (3, .int (vm_bi s0_36)), (0, .ref h0), (1, .int p1)]) hx hb dX6_holdsAbove_44 hl (by decide) rfl (fun ls hl => ?_)
        refine lv_goto (tgt := 10) hx hb dX6_holdsAbove_46 (by decide) ?_
        exact ih10 s0_36 (f_X6_of z x4_10 0) (eF.trans (by rw [f_X6_holdsAbove_j36])) eO ls (lv_sub hl [2, 3, 1, 0] rfl)
      have hJ31 : rr = f_X6_holdsAbove_j31 z x4_10 (f_X6_holdsAbove_j10 z p1 n10) → o_X6_holdsAbove_j31 z x4_10 (o_X6_holdsAbove_j10 z p1 n10) → ∀ (ls : Array Slot), lv_has ls 5 [(0, .ref h0), (1, .int p1), (4, .int x4_10)] → W p l e (headSpec wsX6_holdsAbove ({ frames := 1, cells := 0, slots := 0, locals := 22 })).room s m ([.ref h0, .int p1, .int p2] : List Value).toArray below meth c s.heap [] 0 0 (MQ below (vp_Si (fun r9 : Int32 => r9 = vm_bi rr)) ([.ref h0, .int p1, .int p2] : List Value).toArray s 0 0 (fun _ => False)) (F0 m 31 ls []) := by
        intro eF eO ls hl
        rw [o_X6_holdsAbove_j31] at eO
        refine lv_iconst (v := 1) hx hb dX6_holdsAbove_31 (by decide) ?_
        refine lv_goto (tgt := 36) hx hb dX6_holdsAbove_32 (by decide) ?_
        exact hJ36 true (eF.trans (by rw [f_X6_holdsAbove_j31])) eO ls (lv_sub hl [0, 1, 2] rfl)
      refine lv_iload hx hb dX6_holdsAbove_10 (lv_at hl 3 rfl) ?_
      refine lv_iconst (v := (-1)) hx hb dX6_holdsAbove_12 (by decide) ?_
      refine lv_icmp_eq (tgt := 49) hx hb dX6_holdsAbove_13 (by decide) (fun c_2 => ?_) (fun c_2 => ?_)
      · rw [if_pos c_2] at eO
        refine lv_iload_n hx hb dX6_holdsAbove_49 rfl (lv_at hl 2 rfl) ?_
        have e9 : rr = x3_10 := eF.trans (by rw [f_X6_holdsAbove_j10, if_pos c_2])
        exact W.zret (v := vm_bi x3_10) hx hb hr (vm_bi_nw _) (fun t ht hW => ⟨_, rfl, by rw [e9] <;> rfl, ht⟩) (fun _ hq => by cases hq) dX6_holdsAbove_50
      · rw [if_neg c_2] at eO
        refine lv_iload_n hx hb dX6_holdsAbove_16 rfl (lv_at hl 2 rfl) ?_
        refine lv_if_ne (tgt := 31) hx hb dX6_holdsAbove_17 (by decide) (fun c_3 => ?_) (fun c_3 => ?_)
        · rw [if_neg c_3] at eO
          exact hJ31 (eF.trans (by rw [f_X6_holdsAbove_j10, if_neg c_2, if_neg c_3])) eO ls (lv_sub hl [0, 1, 3] rfl)
        · rw [if_pos c_3] at eO
          refine lv_aload_n hx hb dX6_holdsAbove_20 rfl (lv_at hl 0 rfl) ?_
          refine lv_iload hx hb dX6_holdsAbove_21 (lv_at hl 3 rfl) ?_
          refine lv_iconst (v := 1) hx hb dX6_holdsAbove_23 (by decide) ?_
          obtain ⟨hv_4, eO⟩ := eO
          refine vm_roVx (v := (f_X6_of z x4_10 1)) (As := [.int x4_10, .int 1]) (rest := []) (T := TX6) (N := 11) (wc := [(h0, .inr (6, [.ref h1, .int states, .ref h2, .int ln, .ref h3, .int thr, .ref h4, .int rd, .int num, .int due, .long hash])), (h1, .inl (cI, 163, .inl z)), (h2, .inl (cI, 978, .inl hi)), (h3, .inl (cI, 60, .inl tx)), (h4, .inl (cI, 42, .inl pa))]) ⟨hx, hb, hml, hown, hts⟩ hK hN hP hl.1 ⟨Nat.le_of_ble_eq_true rfl, Nat.le_of_ble_eq_true rfl⟩ (c_X6_of l dC dI cI cB h0 h1 h2 h3 h4 states ln thr rd num due hash z hi tx pa x4_10 1 hv_4) (cwV 2 hts gX6_holdsAbove_X6_of rfl rfl rfl yd_X6_of ⟨Nat.le_of_ble_eq_true rfl, Nat.le_of_ble_eq_true rfl⟩) [0, 1, 2, 3, 4] rfl 6 rfl rfl rfl rfl (Nat.le_of_ble_eq_true rfl) dX6_holdsAbove_24 ?_
          refine lv_iload_n hx hb dX6_holdsAbove_27 rfl (lv_at hl 1 rfl) ?_
          refine lv_icmp_ne (tgt := 35) hx hb dX6_holdsAbove_28 (by decide) (fun c_5 => ?_) (fun c_5 => ?_)
          · rw [if_neg c_5] at eO
            refine lv_iconst (v := 0) hx hb dX6_holdsAbove_35 (by decide) ?_
            exact hJ36 false (eF.trans (by rw [f_X6_holdsAbove_j10, if_neg c_2, if_pos c_3, if_neg c_5])) eO ls (lv_sub hl [0, 1, 3] rfl)
          · rw [if_pos c_5] at eO
            exact hJ31 (eF.trans (by rw [f_X6_holdsAbove_j10, if_neg c_2, if_pos c_3, if_pos c_5])) eO ls (lv_sub hl [0, 1, 3] rfl)
  rw [o_X6_holdsAbove] at eO
  refine lv_iconst (v := 0) hx hb dX6_holdsAbove_0 (by decide) ?_
  refine lv_istore_n (lv' := [(3, .int 0), (0, .ref h0), (1, .int p1), (2, .int p2)]) hx hb dX6_holdsAbove_1 rfl hl (by decide) rfl (fun ls hl => ?_)
  refine lv_aload_n hx hb dX6_holdsAbove_2 rfl (lv_at hl 1 rfl) ?_
  refine lv_iload_n hx hb dX6_holdsAbove_3 rfl (lv_at hl 3 rfl) ?_
  refine lv_iconst (v := 0) hx hb dX6_holdsAbove_4 (by decide) ?_
  obtain ⟨hv_6, eO⟩ := eO
  refine vm_roVx (v := (f_X6_of z p2 0)) (As := [.int p2, .int 0]) (rest := []) (T := TX6) (N := 11) (wc := [(h0, .inr (6, [.ref h1, .int states, .ref h2, .int ln, .ref h3, .int thr, .ref h4, .int rd, .int num, .int due, .long hash])), (h1, .inl (cI, 163, .inl z)), (h2, .inl (cI, 978, .inl hi)), (h3, .inl (cI, 60, .inl tx)), (h4, .inl (cI, 42, .inl pa))]) ⟨hx, hb, hml, hown, hts⟩ hK hN hP hl.1 ⟨Nat.le_of_ble_eq_true rfl, Nat.le_of_ble_eq_true rfl⟩ (c_X6_of l dC dI cI cB h0 h1 h2 h3 h4 states ln thr rd num due hash z hi tx pa p2 0 hv_6) (cwV 2 hts gX6_holdsAbove_X6_of rfl rfl rfl yd_X6_of ⟨Nat.le_of_ble_eq_true rfl, Nat.le_of_ble_eq_true rfl⟩) [0, 1, 2, 3, 4] rfl 6 rfl rfl rfl rfl (Nat.le_of_ble_eq_true rfl) dX6_holdsAbove_5 ?_
  refine lv_istore (lv' := [(4, .int (f_X6_of z p2 0)), (3, .int 0), (0, .ref h0), (1, .int p1), (2, .int p2)]) hx hb dX6_holdsAbove_8 hl (by decide) rfl (fun ls hl => ?_)
  exact hJ10 1000 false (f_X6_of z p2 0) (eF.trans (by rw [f_X6_holdsAbove])) eO ls (lv_sub hl [2, 3, 1, 0] rfl)

def f_X6_canApprove (z : Nat → Int32) (p1 : Int32) (p2 : Int32) : Bool :=
  if (vm_bi (f_X6_has (f_X6_ofRequest z p1 5) p2)) = 0 then
    if (f_X6_of z (f_X6_ofRequest z p1 0) 1) = p2 then
      false
    else
      if (vm_bi (f_X6_holdsAbove z p2 (f_X6_ofRequest z p1 0))) = 0 then
        false
      else
        true
  else
    false
def o_X6_canApprove (z : Nat → Int32) (p1 : Int32) (p2 : Int32) : Prop :=
  o_X6_ofRequest z p1 0 ∧
  (o_X6_ofRequest z p1 5 ∧
  (if (vm_bi (f_X6_has (f_X6_ofRequest z p1 5) p2)) = 0 then
    o_X6_of z (f_X6_ofRequest z p1 0) 1 ∧
    (if (f_X6_of z (f_X6_ofRequest z p1 0) 1) = p2 then
      True
    else
      o_X6_holdsAbove z p2 (f_X6_ofRequest z p1 0) ∧
      (if (vm_bi (f_X6_holdsAbove z p2 (f_X6_ofRequest z p1 0))) = 0 then
        True
      else
        True))
  else
    True))
theorem yd_X6_canApprove : yX6_canApprove.cls = RX6 ∧ yX6_canApprove.cls ≠ "java/lang/invoke/MethodHandle" ∧ yX6_canApprove.cls ≠ "java/lang/invoke/VarHandle" ∧ (parseMethodDescriptor yX6_canApprove.desc).map (fun d => d.parameters.length) = some 2 := by decide +kernel
set_option maxHeartbeats 4000000 in
set_option maxRecDepth 100000 in
theorem c_X6_canApprove (l : Launch) (dC : Nat → ClassId) (dI : Nat → Nat → Nat) (cI cB : ClassId) (h0 h1 h2 h3 h4 : Nat) (states : Int32) (ln : Int32) (thr : Int32) (rd : Int32) (num : Int32) (due : Int32) (hash : Int64) (z : Nat → Int32) (hi : Nat → Int32) (tx : Nat → Int32) (pa : Nat → Int32) (p1 : Int32) (p2 : Int32) (eO : o_X6_canApprove z p1 p2) : Met l yX6_canApprove wsX6_canApprove ({ frames := 2, cells := 0, slots := 0, locals := 46 }) (vm_pre [.ref h0, .int p1, .int p2] (dC, dI) [(h0, .inr (6, [.ref h1, .int states, .ref h2, .int ln, .ref h3, .int thr, .ref h4, .int rd, .int num, .int due, .long hash])), (h1, .inl (cI, 163, .inl z)), (h2, .inl (cI, 978, .inl hi)), (h3, .inl (cI, 60, .inl tx)), (h4, .inl (cI, 42, .inl pa))] cI cB) (vp_Si (fun r9 : Int32 => r9 = vm_bi (f_X6_canApprove z p1 p2))) 0 0 (fun _ => False) := by
  refine Met.ofW (cc := cX6_canApprove) (maxL := 4) (ret := (some .boolean)) (by decide) rfl ?_
  intro p e s m args below meth c s₁ B hml hv
  obtain ⟨rfl, hP, hK, hN⟩ := hv
  have hx := B.exec
  have hb := B.bytes
  have hr := B.returns
  have hts := atoms_spec (ws := wsX6_canApprove) B.pre
  have hown : s.vm.findClass RX6 = some m.cls := findClass_of_methodNamed B.named
  have hlocks := B.notSynchronized
  generalize hrr : f_X6_canApprove z p1 p2 = rr
  have eF := hrr.symm
  have hl := lv_entry ([.ref h0, .int p1, .int p2]) (n := 4) (Nat.le_of_ble_eq_true rfl)
  rw [lg_entry_eq]
  generalize (lg_sl ([.ref h0, .int p1, .int p2]) ++ List.replicate (4 - (lg_sl ([.ref h0, .int p1, .int p2])).length) Slot.unset).toArray = ls at hl ⊢
  have hl : lv_has ls 4 [(0, .ref h0), (1, .int p1), (2, .int p2)] := hl
  rw [o_X6_canApprove] at eO
  refine lv_aload_n hx hb dX6_canApprove_0 rfl (lv_at hl 0 rfl) ?_
  refine lv_iload_n hx hb dX6_canApprove_1 rfl (lv_at hl 1 rfl) ?_
  refine lv_iconst (v := 0) hx hb dX6_canApprove_2 (by decide) ?_
  obtain ⟨hv_1, eO⟩ := eO
  refine vm_roVx (v := (f_X6_ofRequest z p1 0)) (As := [.int p1, .int 0]) (rest := []) (T := TX6) (N := 11) (wc := [(h0, .inr (6, [.ref h1, .int states, .ref h2, .int ln, .ref h3, .int thr, .ref h4, .int rd, .int num, .int due, .long hash])), (h1, .inl (cI, 163, .inl z)), (h2, .inl (cI, 978, .inl hi)), (h3, .inl (cI, 60, .inl tx)), (h4, .inl (cI, 42, .inl pa))]) ⟨hx, hb, hml, hown, hts⟩ hK hN hP hl.1 ⟨Nat.le_of_ble_eq_true rfl, Nat.le_of_ble_eq_true rfl⟩ (c_X6_ofRequest l dC dI cI cB h0 h1 h2 h3 h4 states ln thr rd num due hash z hi tx pa p1 0 hv_1) (cwV 2 hts gX6_canApprove_X6_ofRequest rfl rfl rfl yd_X6_ofRequest ⟨Nat.le_of_ble_eq_true rfl, Nat.le_of_ble_eq_true rfl⟩) [0, 1, 2, 3, 4] rfl 6 rfl rfl rfl rfl (Nat.le_of_ble_eq_true rfl) dX6_canApprove_3 ?_
  refine lv_istore_n (lv' := [(3, .int (f_X6_ofRequest z p1 0)), (0, .ref h0), (1, .int p1), (2, .int p2)]) hx hb dX6_canApprove_6 rfl hl (by decide) rfl (fun ls hl => ?_)
  refine lv_aload_n hx hb dX6_canApprove_7 rfl (lv_at hl 1 rfl) ?_
  refine lv_iload_n hx hb dX6_canApprove_8 rfl (lv_at hl 2 rfl) ?_
  refine lv_iconst (v := 5) hx hb dX6_canApprove_9 (by decide) ?_
  obtain ⟨hv_2, eO⟩ := eO
  refine vm_roVx (v := (f_X6_ofRequest z p1 5)) (As := [.int p1, .int 5]) (rest := []) (T := TX6) (N := 11) (wc := [(h0, .inr (6, [.ref h1, .int states, .ref h2, .int ln, .ref h3, .int thr, .ref h4, .int rd, .int num, .int due, .long hash])), (h1, .inl (cI, 163, .inl z)), (h2, .inl (cI, 978, .inl hi)), (h3, .inl (cI, 60, .inl tx)), (h4, .inl (cI, 42, .inl pa))]) ⟨hx, hb, hml, hown, hts⟩ hK hN hP hl.1 ⟨Nat.le_of_ble_eq_true rfl, Nat.le_of_ble_eq_true rfl⟩ (c_X6_ofRequest l dC dI cI cB h0 h1 h2 h3 h4 states ln thr rd num due hash z hi tx pa p1 5 hv_2) (cwV 2 hts gX6_canApprove_X6_ofRequest rfl rfl rfl yd_X6_ofRequest ⟨Nat.le_of_ble_eq_true rfl, Nat.le_of_ble_eq_true rfl⟩) [0, 1, 2, 3, 4] rfl 6 rfl rfl rfl rfl (Nat.le_of_ble_eq_true rfl) dX6_canApprove_10 ?_
  refine lv_iload_n hx hb dX6_canApprove_13 rfl (lv_at hl 3 rfl) ?_
  refine vm_roSx (v := vm_bi (f_X6_has (f_X6_ofRequest z p1 5) p2)) (As := [.int (f_X6_ofRequest z p1 5), .int p2]) (rest := []) ⟨hx, hb, hml, hown, hts⟩ hK hN hP hl.1 ⟨Nat.le_of_ble_eq_true rfl, Nat.le_of_ble_eq_true rfl⟩ (c_X6_has l dC dI cI cB (f_X6_ofRequest z p1 5) p2) (va_cwS 2 hts gX6_canApprove_X6_has rfl rfl rfl yd_X6_has ⟨Nat.le_of_ble_eq_true rfl, Nat.le_of_ble_eq_true rfl⟩) rfl rfl (Nat.le_of_ble_eq_true rfl) dX6_canApprove_14 ?_
  refine lv_if_ne (tgt := 43) hx hb dX6_canApprove_17 (by decide) (fun c_3 => ?_) (fun c_3 => ?_)
  · rw [if_neg c_3] at eO
    refine lv_iconst (v := 0) hx hb dX6_canApprove_43 (by decide) ?_
    have e9 : rr = false := eF.trans (by rw [f_X6_canApprove, if_neg c_3])
    exact W.zret (v := 0) hx hb hr rfl (fun t ht hW => ⟨_, rfl, by rw [e9] <;> rfl, ht⟩) (fun _ hq => by cases hq) dX6_canApprove_44
  · rw [if_pos c_3] at eO
    refine lv_aload_n hx hb dX6_canApprove_20 rfl (lv_at hl 1 rfl) ?_
    refine lv_iload_n hx hb dX6_canApprove_21 rfl (lv_at hl 0 rfl) ?_
    refine lv_iconst (v := 1) hx hb dX6_canApprove_22 (by decide) ?_
    obtain ⟨hv_4, eO⟩ := eO
    refine vm_roVx (v := (f_X6_of z (f_X6_ofRequest z p1 0) 1)) (As := [.int (f_X6_ofRequest z p1 0), .int 1]) (rest := []) (T := TX6) (N := 11) (wc := [(h0, .inr (6, [.ref h1, .int states, .ref h2, .int ln, .ref h3, .int thr, .ref h4, .int rd, .int num, .int due, .long hash])), (h1, .inl (cI, 163, .inl z)), (h2, .inl (cI, 978, .inl hi)), (h3, .inl (cI, 60, .inl tx)), (h4, .inl (cI, 42, .inl pa))]) ⟨hx, hb, hml, hown, hts⟩ hK hN hP hl.1 ⟨Nat.le_of_ble_eq_true rfl, Nat.le_of_ble_eq_true rfl⟩ (c_X6_of l dC dI cI cB h0 h1 h2 h3 h4 states ln thr rd num due hash z hi tx pa (f_X6_ofRequest z p1 0) 1 hv_4) (cwV 2 hts gX6_canApprove_X6_of rfl rfl rfl yd_X6_of ⟨Nat.le_of_ble_eq_true rfl, Nat.le_of_ble_eq_true rfl⟩) [0, 1, 2, 3, 4] rfl 6 rfl rfl rfl rfl (Nat.le_of_ble_eq_true rfl) dX6_canApprove_23 ?_
    refine lv_iload_n hx hb dX6_canApprove_26 rfl (lv_at hl 3 rfl) ?_
    refine lv_icmp_eq (tgt := 43) hx hb dX6_canApprove_27 (by decide) (fun c_5 => ?_) (fun c_5 => ?_)
    · rw [if_pos c_5] at eO
      refine lv_iconst (v := 0) hx hb dX6_canApprove_43 (by decide) ?_
      have e9 : rr = false := eF.trans (by rw [f_X6_canApprove, if_pos c_3, if_pos c_5])
      exact W.zret (v := 0) hx hb hr rfl (fun t ht hW => ⟨_, rfl, by rw [e9] <;> rfl, ht⟩) (fun _ hq => by cases hq) dX6_canApprove_44
    · rw [if_neg c_5] at eO
      refine lv_aload_n hx hb dX6_canApprove_30 rfl (lv_at hl 1 rfl) ?_
      refine lv_iload_n hx hb dX6_canApprove_31 rfl (lv_at hl 3 rfl) ?_
      refine lv_iload_n hx hb dX6_canApprove_32 rfl (lv_at hl 0 rfl) ?_
      obtain ⟨hv_6, eO⟩ := eO
      refine vm_roVx (v := vm_bi (f_X6_holdsAbove z p2 (f_X6_ofRequest z p1 0))) (As := [.int p2, .int (f_X6_ofRequest z p1 0)]) (rest := []) (T := TX6) (N := 11) (wc := [(h0, .inr (6, [.ref h1, .int states, .ref h2, .int ln, .ref h3, .int thr, .ref h4, .int rd, .int num, .int due, .long hash])), (h1, .inl (cI, 163, .inl z)), (h2, .inl (cI, 978, .inl hi)), (h3, .inl (cI, 60, .inl tx)), (h4, .inl (cI, 42, .inl pa))]) ⟨hx, hb, hml, hown, hts⟩ hK hN hP hl.1 ⟨Nat.le_of_ble_eq_true rfl, Nat.le_of_ble_eq_true rfl⟩ (c_X6_holdsAbove l dC dI cI cB h0 h1 h2 h3 h4 states ln thr rd num due hash z hi tx pa p2 (f_X6_ofRequest z p1 0) hv_6) (cwV 2 hts gX6_canApprove_X6_holdsAbove rfl rfl rfl yd_X6_holdsAbove ⟨Nat.le_of_ble_eq_true rfl, Nat.le_of_ble_eq_true rfl⟩) [0, 1, 2, 3, 4] rfl 6 rfl rfl rfl rfl (Nat.le_of_ble_eq_true rfl) dX6_canApprove_33 ?_
      refine lv_if_eq (tgt := 43) hx hb dX6_canApprove_36 (by decide) (fun c_7 => ?_) (fun c_7 => ?_)
      · rw [if_pos c_7] at eO
        refine lv_iconst (v := 0) hx hb dX6_canApprove_43 (by decide) ?_
        have e9 : rr = false := eF.trans (by rw [f_X6_canApprove, if_pos c_3, if_neg c_5, if_pos c_7])
        exact W.zret (v := 0) hx hb hr rfl (fun t ht hW => ⟨_, rfl, by rw [e9] <;> rfl, ht⟩) (fun _ hq => by cases hq) dX6_canApprove_44
      · rw [if_neg c_7] at eO
        refine lv_iconst (v := 1) hx hb dX6_canApprove_39 (by decide) ?_
        refine lv_goto (tgt := 44) hx hb dX6_canApprove_40 (by decide) ?_
        have e9 : rr = true := eF.trans (by rw [f_X6_canApprove, if_pos c_3, if_neg c_5, if_neg c_7])
        exact W.zret (v := 1) hx hb hr rfl (fun t ht hW => ⟨_, rfl, by rw [e9] <;> rfl, ht⟩) (fun _ hq => by cases hq) dX6_canApprove_44

def f_X6_approversOf_j27 (x2_4 : Int32) (x3_4 : Int32) (kj4 : Int32 → Int32 → Int32) (s0_27 : Int32) : Int32 :=
  kj4 (x2_4 ||| s0_27) (x3_4 + 1)
def f_X6_approversOf_j4 (z : Nat → Int32) (p1 : Int32) : Nat → Int32 → Int32 → Int32
  | 0, _, _ => 0
  | n4 + 1, x2_4, x3_4 => if 8 ≤ x3_4 then
      x2_4
    else
      if (vm_bi (f_X6_canApprove z p1 x3_4)) = 0 then
        f_X6_approversOf_j27 x2_4 x3_4 (f_X6_approversOf_j4 z p1 n4) 0
      else
        f_X6_approversOf_j27 x2_4 x3_4 (f_X6_approversOf_j4 z p1 n4) (1 <<< (x3_4 &&& 31))
def f_X6_approversOf (z : Nat → Int32) (p1 : Int32) : Int32 :=
  f_X6_approversOf_j4 z p1 ((((8 : Int32)).toInt - ((0 : Int32)).toInt).toNat + 1) 0 0
def o_X6_approversOf_j27 (x2_4 : Int32) (x3_4 : Int32) (koj4 : Int32 → Int32 → Prop) (s0_27 : Int32) : Prop :=
  koj4 (x2_4 ||| s0_27) (x3_4 + 1)
def o_X6_approversOf_j4 (z : Nat → Int32) (p1 : Int32) : Nat → Int32 → Int32 → Prop
  | 0, _, _ => True
  | n4 + 1, x2_4, x3_4 => if 8 ≤ x3_4 then
      True
    else
      o_X6_canApprove z p1 x3_4 ∧
      (if (vm_bi (f_X6_canApprove z p1 x3_4)) = 0 then
        o_X6_approversOf_j27 x2_4 x3_4 (o_X6_approversOf_j4 z p1 n4) 0
      else
        o_X6_approversOf_j27 x2_4 x3_4 (o_X6_approversOf_j4 z p1 n4) (1 <<< (x3_4 &&& 31)))
def o_X6_approversOf (z : Nat → Int32) (p1 : Int32) : Prop :=
  o_X6_approversOf_j4 z p1 ((((8 : Int32)).toInt - ((0 : Int32)).toInt).toNat + 1) 0 0
theorem yd_X6_approversOf : yX6_approversOf.cls = RX6 ∧ yX6_approversOf.cls ≠ "java/lang/invoke/MethodHandle" ∧ yX6_approversOf.cls ≠ "java/lang/invoke/VarHandle" ∧ (parseMethodDescriptor yX6_approversOf.desc).map (fun d => d.parameters.length) = some 1 := by decide +kernel
set_option maxHeartbeats 4000000 in
set_option maxRecDepth 100000 in
theorem c_X6_approversOf (l : Launch) (dC : Nat → ClassId) (dI : Nat → Nat → Nat) (cI cB : ClassId) (h0 h1 h2 h3 h4 : Nat) (states : Int32) (ln : Int32) (thr : Int32) (rd : Int32) (num : Int32) (due : Int32) (hash : Int64) (z : Nat → Int32) (hi : Nat → Int32) (tx : Nat → Int32) (pa : Nat → Int32) (p1 : Int32) (eO : o_X6_approversOf z p1) : Met l yX6_approversOf wsX6_approversOf ({ frames := 3, cells := 0, slots := 0, locals := 69 }) (vm_pre [.ref h0, .int p1] (dC, dI) [(h0, .inr (6, [.ref h1, .int states, .ref h2, .int ln, .ref h3, .int thr, .ref h4, .int rd, .int num, .int due, .long hash])), (h1, .inl (cI, 163, .inl z)), (h2, .inl (cI, 978, .inl hi)), (h3, .inl (cI, 60, .inl tx)), (h4, .inl (cI, 42, .inl pa))] cI cB) (vp_Si (fun r9 : Int32 => r9 = (f_X6_approversOf z p1))) 0 0 (fun _ => False) := by
  refine Met.ofW (cc := cX6_approversOf) (maxL := 4) (ret := (some .int)) (by decide) rfl ?_
  intro p e s m args below meth c s₁ B hml hv
  obtain ⟨rfl, hP, hK, hN⟩ := hv
  have hx := B.exec
  have hb := B.bytes
  have hr := B.returns
  have hts := atoms_spec (ws := wsX6_approversOf) B.pre
  have hown : s.vm.findClass RX6 = some m.cls := findClass_of_methodNamed B.named
  have hlocks := B.notSynchronized
  generalize hrr : f_X6_approversOf z p1 = rr
  have eF := hrr.symm
  have hl := lv_entry ([.ref h0, .int p1]) (n := 4) (Nat.le_of_ble_eq_true rfl)
  rw [lg_entry_eq]
  generalize (lg_sl ([.ref h0, .int p1]) ++ List.replicate (4 - (lg_sl ([.ref h0, .int p1])).length) Slot.unset).toArray = ls at hl ⊢
  have hl : lv_has ls 4 [(0, .ref h0), (1, .int p1)] := hl
  have hJ4 : ∀ (n4 : Nat) (x2_4 : Int32) (x3_4 : Int32), (((8 : Int32)).toInt - (x3_4).toInt).toNat < n4 → 0 ≤ x3_4 → rr = f_X6_approversOf_j4 z p1 n4 x2_4 x3_4 → o_X6_approversOf_j4 z p1 n4 x2_4 x3_4 → ∀ (ls : Array Slot), lv_has ls 4 [(0, .ref h0), (1, .int p1), (2, .int x2_4), (3, .int x3_4)] → W p l e (headSpec wsX6_approversOf ({ frames := 3, cells := 0, slots := 0, locals := 69 })).room s m ([.ref h0, .int p1] : List Value).toArray below meth c s.heap [] 0 0 (MQ below (vp_Si (fun r9 : Int32 => r9 = rr)) ([.ref h0, .int p1] : List Value).toArray s 0 0 (fun _ => False)) (F0 m 4 ls []) := by
    intro n4
    induction n4 with
    | zero =>
      intro x2_4 x3_4 hm4
      exact absurd hm4 (Nat.not_lt_zero _)
    | succ n4 ih4 =>
      intro x2_4 x3_4 hm4 hi4 eF eO ls hl
      rw [o_X6_approversOf_j4] at eO
      have hJ27 : ∀ (s0_27 : Int32), ¬ 8 ≤ x3_4 → rr = f_X6_approversOf_j27 x2_4 x3_4 (f_X6_approversOf_j4 z p1 n4) s0_27 → o_X6_approversOf_j27 x2_4 x3_4 (o_X6_approversOf_j4 z p1 n4) s0_27 → ∀ (ls : Array Slot), lv_has ls 4 [(0, .ref h0), (1, .int p1), (3, .int x3_4)] → W p l e (headSpec wsX6_approversOf ({ frames := 3, cells := 0, slots := 0, locals := 69 })).room s m ([.ref h0, .int p1] : List Value).toArray below meth c s.heap [] 0 0 (MQ below (vp_Si (fun r9 : Int32 => r9 = rr)) ([.ref h0, .int p1] : List Value).toArray s 0 0 (fun _ => False)) (F0 m 27 ls [.int s0_27, .int x2_4]) := by
        intro s0_27 cL4 eF eO ls hl
        rw [o_X6_approversOf_j27] at eO
        refine lv_ior hx hb dX6_approversOf_27 ?_
        refine lv_istore_n (lv' := [(2, .int (x2_4 ||| s0_27)), (0, .ref h0), (1, .int p1), (3, .int x3_4)]) hx hb dX6_approversOf_28 rfl hl (by decide) rfl (fun ls hl => ?_)
        refine lv_iinc (v := (x3_4 + 1)) (lv' := [(3, .int (x3_4 + 1)), (2, .int (x2_4 ||| s0_27)), (0, .ref h0), (1, .int p1)]) hx hb dX6_approversOf_29 hl (k := 3) rfl rfl (by decide) rfl (fun ls hl => ?_)
        refine lv_goto (tgt := 4) hx hb dX6_approversOf_32 (by decide) ?_
        exact ih4 (x2_4 ||| s0_27) (x3_4 + 1) (vm_up (vm_nle cL4) hm4) (vm_nn hi4 (vm_nle cL4)) (eF.trans (by rw [f_X6_approversOf_j27])) eO ls (lv_sub hl [2, 3, 1, 0] rfl)
      refine lv_iload_n hx hb dX6_approversOf_4 rfl (lv_at hl 3 rfl) ?_
      refine lv_bipush (v := 8) hx hb dX6_approversOf_5 (by decide) ?_
      refine lv_icmp_ge (tgt := 35) hx hb dX6_approversOf_7 (by decide) (fun cL4 => ?_) (fun cL4 => ?_)
      · rw [if_pos cL4] at eO
        refine lv_iload_n hx hb dX6_approversOf_35 rfl (lv_at hl 2 rfl) ?_
        have e9 : rr = x2_4 := eF.trans (by rw [f_X6_approversOf_j4, if_pos cL4])
        exact W.iret (v := x2_4) hx hb hr (fun t ht hW => ⟨_, rfl, e9.symm, ht⟩) (fun _ hq => by cases hq) dX6_approversOf_36
      · rw [if_neg cL4] at eO
        refine lv_iload_n hx hb dX6_approversOf_10 rfl (lv_at hl 2 rfl) ?_
        refine lv_aload_n hx hb dX6_approversOf_11 rfl (lv_at hl 0 rfl) ?_
        refine lv_iload_n hx hb dX6_approversOf_12 rfl (lv_at hl 1 rfl) ?_
        refine lv_iload_n hx hb dX6_approversOf_13 rfl (lv_at hl 3 rfl) ?_
        obtain ⟨hv_2, eO⟩ := eO
        refine vm_roVx (v := vm_bi (f_X6_canApprove z p1 x3_4)) (As := [.int p1, .int x3_4]) (rest := [.int x2_4]) (T := TX6) (N := 11) (wc := [(h0, .inr (6, [.ref h1, .int states, .ref h2, .int ln, .ref h3, .int thr, .ref h4, .int rd, .int num, .int due, .long hash])), (h1, .inl (cI, 163, .inl z)), (h2, .inl (cI, 978, .inl hi)), (h3, .inl (cI, 60, .inl tx)), (h4, .inl (cI, 42, .inl pa))]) ⟨hx, hb, hml, hown, hts⟩ hK hN hP hl.1 ⟨Nat.le_of_ble_eq_true rfl, Nat.le_of_ble_eq_true rfl⟩ (c_X6_canApprove l dC dI cI cB h0 h1 h2 h3 h4 states ln thr rd num due hash z hi tx pa p1 x3_4 hv_2) (cwV 2 hts gX6_approversOf_X6_canApprove rfl rfl rfl yd_X6_canApprove ⟨Nat.le_of_ble_eq_true rfl, Nat.le_of_ble_eq_true rfl⟩) [0, 1, 2, 3, 4] rfl 6 rfl rfl rfl rfl (Nat.le_of_ble_eq_true rfl) dX6_approversOf_14 ?_
        refine lv_if_eq (tgt := 26) hx hb dX6_approversOf_17 (by decide) (fun c_3 => ?_) (fun c_3 => ?_)
        · rw [if_pos c_3] at eO
          refine lv_iconst (v := 0) hx hb dX6_approversOf_26 (by decide) ?_
          exact hJ27 0 cL4 (eF.trans (by rw [f_X6_approversOf_j4, if_neg cL4, if_pos c_3])) eO ls (lv_sub hl [0, 1, 3] rfl)
        · rw [if_neg c_3] at eO
          refine lv_iconst (v := 1) hx hb dX6_approversOf_20 (by decide) ?_
          refine lv_iload_n hx hb dX6_approversOf_21 rfl (lv_at hl 3 rfl) ?_
          refine lv_ishl hx hb dX6_approversOf_22 ?_
          refine lv_goto (tgt := 27) hx hb dX6_approversOf_23 (by decide) ?_
          exact hJ27 (1 <<< (x3_4 &&& 31)) cL4 (eF.trans (by rw [f_X6_approversOf_j4, if_neg cL4, if_neg c_3])) eO ls (lv_sub hl [0, 1, 3] rfl)
  rw [o_X6_approversOf] at eO
  refine lv_iconst (v := 0) hx hb dX6_approversOf_0 (by decide) ?_
  refine lv_istore_n (lv' := [(2, .int 0), (0, .ref h0), (1, .int p1)]) hx hb dX6_approversOf_1 rfl hl (by decide) rfl (fun ls hl => ?_)
  refine lv_iconst (v := 0) hx hb dX6_approversOf_2 (by decide) ?_
  refine lv_istore_n (lv' := [(3, .int 0), (2, .int 0), (0, .ref h0), (1, .int p1)]) hx hb dX6_approversOf_3 rfl hl (by decide) rfl (fun ls hl => ?_)
  exact hJ4 ((((8 : Int32)).toInt - ((0 : Int32)).toInt).toNat + 1) 0 0 (Nat.lt_succ_self _) (by decide) (eF.trans (by rw [f_X6_approversOf])) eO ls (lv_sub hl [2, 3, 1, 0] rfl)

def f_X6_areWithin_j25 : Bool :=
  true
def f_X6_areWithin (z : Nat → Int32) (p1 : Int32) (p2 : Int32) (p3 : Int32) : Bool :=
  if p3 = (-1) then
    f_X6_areWithin_j25
  else
    if (f_X6_of z p3 2) < p1 then
      false
    else
      if (f_X6_of z p3 3) < p2 then
        false
      else
        f_X6_areWithin_j25
def o_X6_areWithin_j25 : Prop :=
  True
def o_X6_areWithin (z : Nat → Int32) (p1 : Int32) (p2 : Int32) (p3 : Int32) : Prop :=
  if p3 = (-1) then
    o_X6_areWithin_j25
  else
    o_X6_of z p3 2 ∧
    (if (f_X6_of z p3 2) < p1 then
      True
    else
      o_X6_of z p3 3 ∧
      (if (f_X6_of z p3 3) < p2 then
        True
      else
        o_X6_areWithin_j25))
theorem yd_X6_areWithin : yX6_areWithin.cls = RX6 ∧ yX6_areWithin.cls ≠ "java/lang/invoke/MethodHandle" ∧ yX6_areWithin.cls ≠ "java/lang/invoke/VarHandle" ∧ (parseMethodDescriptor yX6_areWithin.desc).map (fun d => d.parameters.length) = some 3 := by decide +kernel
set_option maxHeartbeats 4000000 in
set_option maxRecDepth 100000 in
theorem c_X6_areWithin (l : Launch) (dC : Nat → ClassId) (dI : Nat → Nat → Nat) (cI cB : ClassId) (h0 h1 h2 h3 h4 : Nat) (states : Int32) (ln : Int32) (thr : Int32) (rd : Int32) (num : Int32) (due : Int32) (hash : Int64) (z : Nat → Int32) (hi : Nat → Int32) (tx : Nat → Int32) (pa : Nat → Int32) (p1 : Int32) (p2 : Int32) (p3 : Int32) (eO : o_X6_areWithin z p1 p2 p3) : Met l yX6_areWithin wsX6_areWithin ({ frames := 1, cells := 0, slots := 0, locals := 22 }) (vm_pre [.ref h0, .int p1, .int p2, .int p3] (dC, dI) [(h0, .inr (6, [.ref h1, .int states, .ref h2, .int ln, .ref h3, .int thr, .ref h4, .int rd, .int num, .int due, .long hash])), (h1, .inl (cI, 163, .inl z)), (h2, .inl (cI, 978, .inl hi)), (h3, .inl (cI, 60, .inl tx)), (h4, .inl (cI, 42, .inl pa))] cI cB) (vp_Si (fun r9 : Int32 => r9 = vm_bi (f_X6_areWithin z p1 p2 p3))) 0 0 (fun _ => False) := by
  refine Met.ofW (cc := cX6_areWithin) (maxL := 4) (ret := (some .boolean)) (by decide) rfl ?_
  intro p e s m args below meth c s₁ B hml hv
  obtain ⟨rfl, hP, hK, hN⟩ := hv
  have hx := B.exec
  have hb := B.bytes
  have hr := B.returns
  have hts := atoms_spec (ws := wsX6_areWithin) B.pre
  have hown : s.vm.findClass RX6 = some m.cls := findClass_of_methodNamed B.named
  have hlocks := B.notSynchronized
  generalize hrr : f_X6_areWithin z p1 p2 p3 = rr
  have eF := hrr.symm
  have hl := lv_entry ([.ref h0, .int p1, .int p2, .int p3]) (n := 4) (Nat.le_of_ble_eq_true rfl)
  rw [lg_entry_eq]
  generalize (lg_sl ([.ref h0, .int p1, .int p2, .int p3]) ++ List.replicate (4 - (lg_sl ([.ref h0, .int p1, .int p2, .int p3])).length) Slot.unset).toArray = ls at hl ⊢
  have hl : lv_has ls 4 [(0, .ref h0), (1, .int p1), (2, .int p2), (3, .int p3)] := hl
  have hJ25 : rr = f_X6_areWithin_j25 → o_X6_areWithin_j25 → ∀ (ls : Array Slot), lv_has ls 4 [] → W p l e (headSpec wsX6_areWithin ({ frames := 1, cells := 0, slots := 0, locals := 22 })).room s m ([.ref h0, .int p1, .int p2, .int p3] : List Value).toArray below meth c s.heap [] 0 0 (MQ below (vp_Si (fun r9 : Int32 => r9 = vm_bi rr)) ([.ref h0, .int p1, .int p2, .int p3] : List Value).toArray s 0 0 (fun _ => False)) (F0 m 25 ls []) := by
    intro eF eO ls hl
    rw [o_X6_areWithin_j25] at eO
    refine lv_iconst (v := 1) hx hb dX6_areWithin_25 (by decide) ?_
    refine lv_goto (tgt := 30) hx hb dX6_areWithin_26 (by decide) ?_
    have e9 : rr = true := eF.trans (by rw [f_X6_areWithin_j25])
    exact W.zret (v := 1) hx hb hr rfl (fun t ht hW => ⟨_, rfl, by rw [e9] <;> rfl, ht⟩) (fun _ hq => by cases hq) dX6_areWithin_30
  rw [o_X6_areWithin] at eO
  refine lv_iload_n hx hb dX6_areWithin_0 rfl (lv_at hl 3 rfl) ?_
  refine lv_iconst (v := (-1)) hx hb dX6_areWithin_1 (by decide) ?_
  refine lv_icmp_eq (tgt := 25) hx hb dX6_areWithin_2 (by decide) (fun c_1 => ?_) (fun c_1 => ?_)
  · rw [if_pos c_1] at eO
    exact hJ25 (eF.trans (by rw [f_X6_areWithin, if_pos c_1])) eO ls (lv_sub hl [] rfl)
  · rw [if_neg c_1] at eO
    refine lv_iload_n hx hb dX6_areWithin_5 rfl (lv_at hl 1 rfl) ?_
    refine lv_aload_n hx hb dX6_areWithin_6 rfl (lv_at hl 0 rfl) ?_
    refine lv_iload_n hx hb dX6_areWithin_7 rfl (lv_at hl 3 rfl) ?_
    refine lv_iconst (v := 2) hx hb dX6_areWithin_8 (by decide) ?_
    obtain ⟨hv_2, eO⟩ := eO
    refine vm_roVx (v := (f_X6_of z p3 2)) (As := [.int p3, .int 2]) (rest := [.int p1]) (T := TX6) (N := 11) (wc := [(h0, .inr (6, [.ref h1, .int states, .ref h2, .int ln, .ref h3, .int thr, .ref h4, .int rd, .int num, .int due, .long hash])), (h1, .inl (cI, 163, .inl z)), (h2, .inl (cI, 978, .inl hi)), (h3, .inl (cI, 60, .inl tx)), (h4, .inl (cI, 42, .inl pa))]) ⟨hx, hb, hml, hown, hts⟩ hK hN hP hl.1 ⟨Nat.le_of_ble_eq_true rfl, Nat.le_of_ble_eq_true rfl⟩ (c_X6_of l dC dI cI cB h0 h1 h2 h3 h4 states ln thr rd num due hash z hi tx pa p3 2 hv_2) (cwV 2 hts gX6_areWithin_X6_of rfl rfl rfl yd_X6_of ⟨Nat.le_of_ble_eq_true rfl, Nat.le_of_ble_eq_true rfl⟩) [0, 1, 2, 3, 4] rfl 6 rfl rfl rfl rfl (Nat.le_of_ble_eq_true rfl) dX6_areWithin_9 ?_
    refine lv_icmp_gt (tgt := 29) hx hb dX6_areWithin_12 (by decide) (fun c_3 => ?_) (fun c_3 => ?_)
    · rw [if_pos c_3] at eO
      refine lv_iconst (v := 0) hx hb dX6_areWithin_29 (by decide) ?_
      have e9 : rr = false := eF.trans (by rw [f_X6_areWithin, if_neg c_1, if_pos c_3])
      exact W.zret (v := 0) hx hb hr rfl (fun t ht hW => ⟨_, rfl, by rw [e9] <;> rfl, ht⟩) (fun _ hq => by cases hq) dX6_areWithin_30
    · rw [if_neg c_3] at eO
      refine lv_iload_n hx hb dX6_areWithin_15 rfl (lv_at hl 2 rfl) ?_
      refine lv_aload_n hx hb dX6_areWithin_16 rfl (lv_at hl 0 rfl) ?_
      refine lv_iload_n hx hb dX6_areWithin_17 rfl (lv_at hl 3 rfl) ?_
      refine lv_iconst (v := 3) hx hb dX6_areWithin_18 (by decide) ?_
      obtain ⟨hv_4, eO⟩ := eO
      refine vm_roVx (v := (f_X6_of z p3 3)) (As := [.int p3, .int 3]) (rest := [.int p2]) (T := TX6) (N := 11) (wc := [(h0, .inr (6, [.ref h1, .int states, .ref h2, .int ln, .ref h3, .int thr, .ref h4, .int rd, .int num, .int due, .long hash])), (h1, .inl (cI, 163, .inl z)), (h2, .inl (cI, 978, .inl hi)), (h3, .inl (cI, 60, .inl tx)), (h4, .inl (cI, 42, .inl pa))]) ⟨hx, hb, hml, hown, hts⟩ hK hN hP hl.1 ⟨Nat.le_of_ble_eq_true rfl, Nat.le_of_ble_eq_true rfl⟩ (c_X6_of l dC dI cI cB h0 h1 h2 h3 h4 states ln thr rd num due hash z hi tx pa p3 3 hv_4) (cwV 2 hts gX6_areWithin_X6_of rfl rfl rfl yd_X6_of ⟨Nat.le_of_ble_eq_true rfl, Nat.le_of_ble_eq_true rfl⟩) [0, 1, 2, 3, 4] rfl 6 rfl rfl rfl rfl (Nat.le_of_ble_eq_true rfl) dX6_areWithin_19 ?_
      refine lv_icmp_gt (tgt := 29) hx hb dX6_areWithin_22 (by decide) (fun c_5 => ?_) (fun c_5 => ?_)
      · rw [if_pos c_5] at eO
        refine lv_iconst (v := 0) hx hb dX6_areWithin_29 (by decide) ?_
        have e9 : rr = false := eF.trans (by rw [f_X6_areWithin, if_neg c_1, if_neg c_3, if_pos c_5])
        exact W.zret (v := 0) hx hb hr rfl (fun t ht hW => ⟨_, rfl, by rw [e9] <;> rfl, ht⟩) (fun _ hq => by cases hq) dX6_areWithin_30
      · rw [if_neg c_5] at eO
        exact hJ25 (eF.trans (by rw [f_X6_areWithin, if_neg c_1, if_neg c_3, if_neg c_5])) eO ls (lv_sub hl [] rfl)

def f_X6_canGive_j60 (z : Nat → Int32) : Bool :=
  if (z (Int32.toNatClampNeg 1)) ≤ 0 then
    false
  else
    true
def f_X6_canGive_j29 (z : Nat → Int32) (p1 : Int32) (p2 : Int32) (p3 : Int32) (s0_29 : Bool) : Bool :=
  if (vm_bi s0_29) = 0 then
    false
  else
    if (vm_bi (f_X6_areWithin z p2 p3 p1)) = 0 then
      false
    else
      if p1 = (-1) then
        f_X6_canGive_j60 z
      else
        if (z (Int32.toNatClampNeg 1)) ≤ (f_X6_chainOf z p1) then
          false
        else
          true
def f_X6_canGive_j24 (z : Nat → Int32) (p1 : Int32) (p2 : Int32) (p3 : Int32) : Bool :=
  f_X6_canGive_j29 z p1 p2 p3 true
def f_X6_canGive_j28 (z : Nat → Int32) (p1 : Int32) (p2 : Int32) (p3 : Int32) : Bool :=
  f_X6_canGive_j29 z p1 p2 p3 false
def f_X6_canGive (z : Nat → Int32) (p1 : Int32) (p2 : Int32) (p3 : Int32) : Bool :=
  if 12 ≤ (z (Int32.toNatClampNeg 3)) then
    f_X6_canGive_j28 z p1 p2 p3
  else
    if p1 = (-1) then
      f_X6_canGive_j24 z p1 p2 p3
    else
      if (vm_bi (f_X6_stands z p1)) = 0 then
        f_X6_canGive_j28 z p1 p2 p3
      else
        f_X6_canGive_j24 z p1 p2 p3
def o_X6_canGive_j60 (z : Nat → Int32) : Prop :=
  if (z (Int32.toNatClampNeg 1)) ≤ 0 then
    True
  else
    True
def o_X6_canGive_j29 (z : Nat → Int32) (p1 : Int32) (p2 : Int32) (p3 : Int32) (s0_29 : Bool) : Prop :=
  if (vm_bi s0_29) = 0 then
    True
  else
    o_X6_areWithin z p2 p3 p1 ∧
    (if (vm_bi (f_X6_areWithin z p2 p3 p1)) = 0 then
      True
    else
      if p1 = (-1) then
        o_X6_canGive_j60 z
      else
        o_X6_chainOf z p1 ∧
        (if (z (Int32.toNatClampNeg 1)) ≤ (f_X6_chainOf z p1) then
          True
        else
          True))
def o_X6_canGive_j24 (z : Nat → Int32) (p1 : Int32) (p2 : Int32) (p3 : Int32) : Prop :=
  o_X6_canGive_j29 z p1 p2 p3 true
def o_X6_canGive_j28 (z : Nat → Int32) (p1 : Int32) (p2 : Int32) (p3 : Int32) : Prop :=
  o_X6_canGive_j29 z p1 p2 p3 false
def o_X6_canGive (z : Nat → Int32) (p1 : Int32) (p2 : Int32) (p3 : Int32) : Prop :=
  if 12 ≤ (z (Int32.toNatClampNeg 3)) then
    o_X6_canGive_j28 z p1 p2 p3
  else
    if p1 = (-1) then
      o_X6_canGive_j24 z p1 p2 p3
    else
      o_X6_stands z p1 ∧
      (if (vm_bi (f_X6_stands z p1)) = 0 then
        o_X6_canGive_j28 z p1 p2 p3
      else
        o_X6_canGive_j24 z p1 p2 p3)
theorem yd_X6_canGive : yX6_canGive.cls = RX6 ∧ yX6_canGive.cls ≠ "java/lang/invoke/MethodHandle" ∧ yX6_canGive.cls ≠ "java/lang/invoke/VarHandle" ∧ (parseMethodDescriptor yX6_canGive.desc).map (fun d => d.parameters.length) = some 3 := by decide +kernel
set_option maxHeartbeats 4000000 in
set_option maxRecDepth 100000 in
theorem c_X6_canGive (l : Launch) (dC : Nat → ClassId) (dI : Nat → Nat → Nat) (cI cB : ClassId) (h0 h1 h2 h3 h4 : Nat) (states : Int32) (ln : Int32) (thr : Int32) (rd : Int32) (num : Int32) (due : Int32) (hash : Int64) (z : Nat → Int32) (hi : Nat → Int32) (tx : Nat → Int32) (pa : Nat → Int32) (p1 : Int32) (p2 : Int32) (p3 : Int32) (eO : o_X6_canGive z p1 p2 p3) : Met l yX6_canGive wsX6_canGive ({ frames := 2, cells := 0, slots := 0, locals := 45 }) (vm_pre [.ref h0, .int p1, .int p2, .int p3] (dC, dI) [(h0, .inr (6, [.ref h1, .int states, .ref h2, .int ln, .ref h3, .int thr, .ref h4, .int rd, .int num, .int due, .long hash])), (h1, .inl (cI, 163, .inl z)), (h2, .inl (cI, 978, .inl hi)), (h3, .inl (cI, 60, .inl tx)), (h4, .inl (cI, 42, .inl pa))] cI cB) (vp_Si (fun r9 : Int32 => r9 = vm_bi (f_X6_canGive z p1 p2 p3))) 0 0 (fun _ => False) := by
  refine Met.ofW (cc := cX6_canGive) (maxL := 5) (ret := (some .boolean)) (by decide) rfl ?_
  intro p e s m args below meth c s₁ B hml hv
  obtain ⟨rfl, hP, hK, hN⟩ := hv
  have hx := B.exec
  have hb := B.bytes
  have hr := B.returns
  have hts := atoms_spec (ws := wsX6_canGive) B.pre
  have hown : s.vm.findClass RX6 = some m.cls := findClass_of_methodNamed B.named
  have hlocks := B.notSynchronized
  have kw1 := hts (.fieldLink RX6 7 "LapseMandatesModel" "z" "[I") (List.mem_of_getElem? (i := 1) rfl)
  have iwsX60 : ∀ w ∈ wsX60, w ∈ wsX6_canGive := fun w h => List.mem_cons_of_mem _ (List.mem_append_right _ h)
  generalize hrr : f_X6_canGive z p1 p2 p3 = rr
  have eF := hrr.symm
  have hl := lv_entry ([.ref h0, .int p1, .int p2, .int p3]) (n := 5) (Nat.le_of_ble_eq_true rfl)
  rw [lg_entry_eq]
  generalize (lg_sl ([.ref h0, .int p1, .int p2, .int p3]) ++ List.replicate (5 - (lg_sl ([.ref h0, .int p1, .int p2, .int p3])).length) Slot.unset).toArray = ls at hl ⊢
  have hl : lv_has ls 5 [(0, .ref h0), (1, .int p1), (2, .int p2), (3, .int p3)] := hl
  have hJ60 : rr = f_X6_canGive_j60 z → o_X6_canGive_j60 z → ∀ (ls : Array Slot), lv_has ls 5 [(0, .ref h0)] → W p l e (headSpec wsX6_canGive ({ frames := 2, cells := 0, slots := 0, locals := 45 })).room s m ([.ref h0, .int p1, .int p2, .int p3] : List Value).toArray below meth c s.heap [] 0 0 (MQ below (vp_Si (fun r9 : Int32 => r9 = vm_bi rr)) ([.ref h0, .int p1, .int p2, .int p3] : List Value).toArray s 0 0 (fun _ => False)) (F0 m 60 ls [.int 0]) := by
    intro eF eO ls hl
    rw [o_X6_canGive_j60] at eO
    refine lv_aload_n hx hb dX6_canGive_60 rfl (lv_at hl 0 rfl) ?_
    refine va_get (D := (dC, dI)) (ci := 6) (v := .ref h1) (C := RX6) (T := TX6) (N := 11) hx hb hts iwsX60 hown hK hP 0 rfl rfl 0 (by decide) kw1 (fun _ h9 => h9) rfl dX6_canGive_61 ?_
    refine lv_iconst (v := 1) hx hb dX6_canGive_64 (by decide) ?_
    refine va_iald hx hb hK hP 1 0 rfl rfl (by unfold vp_in; decide) dX6_canGive_65 ?_
    refine lv_icmp_ge (tgt := 73) hx hb dX6_canGive_66 (by decide) (fun c_1 => ?_) (fun c_1 => ?_)
    · rw [if_pos c_1] at eO
      refine lv_iconst (v := 0) hx hb dX6_canGive_73 (by decide) ?_
      have e9 : rr = false := eF.trans (by rw [f_X6_canGive_j60, if_pos c_1])
      exact W.zret (v := 0) hx hb hr rfl (fun t ht hW => ⟨_, rfl, by rw [e9] <;> rfl, ht⟩) (fun _ hq => by cases hq) dX6_canGive_74
    · rw [if_neg c_1] at eO
      refine lv_iconst (v := 1) hx hb dX6_canGive_69 (by decide) ?_
      refine lv_goto (tgt := 74) hx hb dX6_canGive_70 (by decide) ?_
      have e9 : rr = true := eF.trans (by rw [f_X6_canGive_j60, if_neg c_1])
      exact W.zret (v := 1) hx hb hr rfl (fun t ht hW => ⟨_, rfl, by rw [e9] <;> rfl, ht⟩) (fun _ hq => by cases hq) dX6_canGive_74
  have hJ29 : ∀ (s0_29 : Bool), rr = f_X6_canGive_j29 z p1 p2 p3 s0_29 → o_X6_canGive_j29 z p1 p2 p3 s0_29 → ∀ (ls : Array Slot), lv_has ls 5 [(0, .ref h0), (1, .int p1), (2, .int p2), (3, .int p3)] → W p l e (headSpec wsX6_canGive ({ frames := 2, cells := 0, slots := 0, locals := 45 })).room s m ([.ref h0, .int p1, .int p2, .int p3] : List Value).toArray below meth c s.heap [] 0 0 (MQ below (vp_Si (fun r9 : Int32 => r9 = vm_bi rr)) ([.ref h0, .int p1, .int p2, .int p3] : List Value).toArray s 0 0 (fun _ => False)) (F0 m 29 ls [.int (vm_bi s0_29)]) := by
    intro s0_29 eF eO ls hl
    rw [o_X6_canGive_j29] at eO
    refine lv_istore (lv' := [(4, .int (vm_bi s0_29)), (0, .ref h0), (1, .int p1), (2, .int p2), (3, .int p3)]) hx hb dX6_canGive_29 hl (by decide) rfl (fun ls hl => ?_)
    refine lv_iload hx hb dX6_canGive_31 (lv_at hl 0 rfl) ?_
    refine lv_if_eq (tgt := 73) hx hb dX6_canGive_33 (by decide) (fun c_2 => ?_) (fun c_2 => ?_)
    · rw [if_pos c_2] at eO
      refine lv_iconst (v := 0) hx hb dX6_canGive_73 (by decide) ?_
      have e9 : rr = false := eF.trans (by rw [f_X6_canGive_j29, if_pos c_2])
      exact W.zret (v := 0) hx hb hr rfl (fun t ht hW => ⟨_, rfl, by rw [e9] <;> rfl, ht⟩) (fun _ hq => by cases hq) dX6_canGive_74
    · rw [if_neg c_2] at eO
      refine lv_aload_n hx hb dX6_canGive_36 rfl (lv_at hl 1 rfl) ?_
      refine lv_iload_n hx hb dX6_canGive_37 rfl (lv_at hl 3 rfl) ?_
      refine lv_iload_n hx hb dX6_canGive_38 rfl (lv_at hl 4 rfl) ?_
      refine lv_iload_n hx hb dX6_canGive_39 rfl (lv_at hl 2 rfl) ?_
      obtain ⟨hv_3, eO⟩ := eO
      refine vm_roVx (v := vm_bi (f_X6_areWithin z p2 p3 p1)) (As := [.int p2, .int p3, .int p1]) (rest := []) (T := TX6) (N := 11) (wc := [(h0, .inr (6, [.ref h1, .int states, .ref h2, .int ln, .ref h3, .int thr, .ref h4, .int rd, .int num, .int due, .long hash])), (h1, .inl (cI, 163, .inl z)), (h2, .inl (cI, 978, .inl hi)), (h3, .inl (cI, 60, .inl tx)), (h4, .inl (cI, 42, .inl pa))]) ⟨hx, hb, hml, hown, hts⟩ hK hN hP hl.1 ⟨Nat.le_of_ble_eq_true rfl, Nat.le_of_ble_eq_true rfl⟩ (c_X6_areWithin l dC dI cI cB h0 h1 h2 h3 h4 states ln thr rd num due hash z hi tx pa p2 p3 p1 hv_3) (cwV 3 hts gX6_canGive_X6_areWithin rfl rfl rfl yd_X6_areWithin ⟨Nat.le_of_ble_eq_true rfl, Nat.le_of_ble_eq_true rfl⟩) [0, 1, 2, 3, 4] rfl 6 rfl rfl rfl rfl (Nat.le_of_ble_eq_true rfl) dX6_canGive_40 ?_
      refine lv_if_eq (tgt := 73) hx hb dX6_canGive_43 (by decide) (fun c_4 => ?_) (fun c_4 => ?_)
      · rw [if_pos c_4] at eO
        refine lv_iconst (v := 0) hx hb dX6_canGive_73 (by decide) ?_
        have e9 : rr = false := eF.trans (by rw [f_X6_canGive_j29, if_neg c_2, if_pos c_4])
        exact W.zret (v := 0) hx hb hr rfl (fun t ht hW => ⟨_, rfl, by rw [e9] <;> rfl, ht⟩) (fun _ hq => by cases hq) dX6_canGive_74
      · rw [if_neg c_4] at eO
        refine lv_iload_n hx hb dX6_canGive_46 rfl (lv_at hl 2 rfl) ?_
        refine lv_iconst (v := (-1)) hx hb dX6_canGive_47 (by decide) ?_
        refine lv_icmp_ne (tgt := 55) hx hb dX6_canGive_48 (by decide) (fun c_5 => ?_) (fun c_5 => ?_)
        · rw [if_neg c_5] at eO
          refine lv_aload_n hx hb dX6_canGive_55 rfl (lv_at hl 1 rfl) ?_
          refine lv_iload_n hx hb dX6_canGive_56 rfl (lv_at hl 2 rfl) ?_
          obtain ⟨hv_6, eO⟩ := eO
          refine vm_roVx (v := (f_X6_chainOf z p1)) (As := [.int p1]) (rest := []) (T := TX6) (N := 11) (wc := [(h0, .inr (6, [.ref h1, .int states, .ref h2, .int ln, .ref h3, .int thr, .ref h4, .int rd, .int num, .int due, .long hash])), (h1, .inl (cI, 163, .inl z)), (h2, .inl (cI, 978, .inl hi)), (h3, .inl (cI, 60, .inl tx)), (h4, .inl (cI, 42, .inl pa))]) ⟨hx, hb, hml, hown, hts⟩ hK hN hP hl.1 ⟨Nat.le_of_ble_eq_true rfl, Nat.le_of_ble_eq_true rfl⟩ (c_X6_chainOf l dC dI cI cB h0 h1 h2 h3 h4 states ln thr rd num due hash z hi tx pa p1 hv_6) (cwV 1 hts gX6_canGive_X6_chainOf rfl rfl rfl yd_X6_chainOf ⟨Nat.le_of_ble_eq_true rfl, Nat.le_of_ble_eq_true rfl⟩) [0, 1, 2, 3, 4] rfl 6 rfl rfl rfl rfl (Nat.le_of_ble_eq_true rfl) dX6_canGive_57 ?_
          refine lv_aload_n hx hb dX6_canGive_60 rfl (lv_at hl 1 rfl) ?_
          refine va_get (D := (dC, dI)) (ci := 6) (v := .ref h1) (C := RX6) (T := TX6) (N := 11) hx hb hts iwsX60 hown hK hP 0 rfl rfl 0 (by decide) kw1 (fun _ h9 => h9) rfl dX6_canGive_61 ?_
          refine lv_iconst (v := 1) hx hb dX6_canGive_64 (by decide) ?_
          refine va_iald hx hb hK hP 1 0 rfl rfl (by unfold vp_in; decide) dX6_canGive_65 ?_
          refine lv_icmp_ge (tgt := 73) hx hb dX6_canGive_66 (by decide) (fun c_7 => ?_) (fun c_7 => ?_)
          · rw [if_pos c_7] at eO
            refine lv_iconst (v := 0) hx hb dX6_canGive_73 (by decide) ?_
            have e9 : rr = false := eF.trans (by rw [f_X6_canGive_j29, if_neg c_2, if_neg c_4, if_neg c_5, if_pos c_7])
            exact W.zret (v := 0) hx hb hr rfl (fun t ht hW => ⟨_, rfl, by rw [e9] <;> rfl, ht⟩) (fun _ hq => by cases hq) dX6_canGive_74
          · rw [if_neg c_7] at eO
            refine lv_iconst (v := 1) hx hb dX6_canGive_69 (by decide) ?_
            refine lv_goto (tgt := 74) hx hb dX6_canGive_70 (by decide) ?_
            have e9 : rr = true := eF.trans (by rw [f_X6_canGive_j29, if_neg c_2, if_neg c_4, if_neg c_5, if_neg c_7])
            exact W.zret (v := 1) hx hb hr rfl (fun t ht hW => ⟨_, rfl, by rw [e9] <;> rfl, ht⟩) (fun _ hq => by cases hq) dX6_canGive_74
        · rw [if_pos c_5] at eO
          refine lv_iconst (v := 0) hx hb dX6_canGive_51 (by decide) ?_
          refine lv_goto (tgt := 60) hx hb dX6_canGive_52 (by decide) ?_
          exact hJ60 (eF.trans (by rw [f_X6_canGive_j29, if_neg c_2, if_neg c_4, if_pos c_5])) eO ls (lv_sub hl [1] rfl)
  have hJ28 : rr = f_X6_canGive_j28 z p1 p2 p3 → o_X6_canGive_j28 z p1 p2 p3 → ∀ (ls : Array Slot), lv_has ls 5 [(0, .ref h0), (1, .int p1), (2, .int p2), (3, .int p3)] → W p l e (headSpec wsX6_canGive ({ frames := 2, cells := 0, slots := 0, locals := 45 })).room s m ([.ref h0, .int p1, .int p2, .int p3] : List Value).toArray below meth c s.heap [] 0 0 (MQ below (vp_Si (fun r9 : Int32 => r9 = vm_bi rr)) ([.ref h0, .int p1, .int p2, .int p3] : List Value).toArray s 0 0 (fun _ => False)) (F0 m 28 ls []) := by
    intro eF eO ls hl
    rw [o_X6_canGive_j28] at eO
    refine lv_iconst (v := 0) hx hb dX6_canGive_28 (by decide) ?_
    exact hJ29 false (eF.trans (by rw [f_X6_canGive_j28])) eO ls (lv_sub hl [0, 1, 2, 3] rfl)
  have hJ24 : rr = f_X6_canGive_j24 z p1 p2 p3 → o_X6_canGive_j24 z p1 p2 p3 → ∀ (ls : Array Slot), lv_has ls 5 [(0, .ref h0), (1, .int p1), (2, .int p2), (3, .int p3)] → W p l e (headSpec wsX6_canGive ({ frames := 2, cells := 0, slots := 0, locals := 45 })).room s m ([.ref h0, .int p1, .int p2, .int p3] : List Value).toArray below meth c s.heap [] 0 0 (MQ below (vp_Si (fun r9 : Int32 => r9 = vm_bi rr)) ([.ref h0, .int p1, .int p2, .int p3] : List Value).toArray s 0 0 (fun _ => False)) (F0 m 24 ls []) := by
    intro eF eO ls hl
    rw [o_X6_canGive_j24] at eO
    refine lv_iconst (v := 1) hx hb dX6_canGive_24 (by decide) ?_
    refine lv_goto (tgt := 29) hx hb dX6_canGive_25 (by decide) ?_
    exact hJ29 true (eF.trans (by rw [f_X6_canGive_j24])) eO ls (lv_sub hl [0, 1, 2, 3] rfl)
  rw [o_X6_canGive] at eO
  refine lv_aload_n hx hb dX6_canGive_0 rfl (lv_at hl 0 rfl) ?_
  refine va_get (D := (dC, dI)) (ci := 6) (v := .ref h1) (C := RX6) (T := TX6) (N := 11) hx hb hts iwsX60 hown hK hP 0 rfl rfl 0 (by decide) kw1 (fun _ h9 => h9) rfl dX6_canGive_1 ?_
  refine lv_iconst (v := 3) hx hb dX6_canGive_4 (by decide) ?_
  refine va_iald hx hb hK hP 1 0 rfl rfl (by unfold vp_in; decide) dX6_canGive_5 ?_
  refine lv_bipush (v := 12) hx hb dX6_canGive_6 (by decide) ?_
  refine lv_icmp_ge (tgt := 28) hx hb dX6_canGive_8 (by decide) (fun c_8 => ?_) (fun c_8 => ?_)
  · rw [if_pos c_8] at eO
    exact hJ28 (eF.trans (by rw [f_X6_canGive, if_pos c_8])) eO ls (lv_sub hl [0, 1, 2, 3] rfl)
  · rw [if_neg c_8] at eO
    refine lv_iload_n hx hb dX6_canGive_11 rfl (lv_at hl 1 rfl) ?_
    refine lv_iconst (v := (-1)) hx hb dX6_canGive_12 (by decide) ?_
    refine lv_icmp_eq (tgt := 24) hx hb dX6_canGive_13 (by decide) (fun c_9 => ?_) (fun c_9 => ?_)
    · rw [if_pos c_9] at eO
      exact hJ24 (eF.trans (by rw [f_X6_canGive, if_neg c_8, if_pos c_9])) eO ls (lv_sub hl [0, 1, 2, 3] rfl)
    · rw [if_neg c_9] at eO
      refine lv_aload_n hx hb dX6_canGive_16 rfl (lv_at hl 0 rfl) ?_
      refine lv_iload_n hx hb dX6_canGive_17 rfl (lv_at hl 1 rfl) ?_
      obtain ⟨hv_10, eO⟩ := eO
      refine vm_roVx (v := vm_bi (f_X6_stands z p1)) (As := [.int p1]) (rest := []) (T := TX6) (N := 11) (wc := [(h0, .inr (6, [.ref h1, .int states, .ref h2, .int ln, .ref h3, .int thr, .ref h4, .int rd, .int num, .int due, .long hash])), (h1, .inl (cI, 163, .inl z)), (h2, .inl (cI, 978, .inl hi)), (h3, .inl (cI, 60, .inl tx)), (h4, .inl (cI, 42, .inl pa))]) ⟨hx, hb, hml, hown, hts⟩ hK hN hP hl.1 ⟨Nat.le_of_ble_eq_true rfl, Nat.le_of_ble_eq_true rfl⟩ (c_X6_stands l dC dI cI cB h0 h1 h2 h3 h4 states ln thr rd num due hash z hi tx pa p1 hv_10) (cwV 1 hts gX6_canGive_X6_stands rfl rfl rfl yd_X6_stands ⟨Nat.le_of_ble_eq_true rfl, Nat.le_of_ble_eq_true rfl⟩) [0, 1, 2, 3, 4] rfl 6 rfl rfl rfl rfl (Nat.le_of_ble_eq_true rfl) dX6_canGive_18 ?_
      refine lv_if_eq (tgt := 28) hx hb dX6_canGive_21 (by decide) (fun c_11 => ?_) (fun c_11 => ?_)
      · rw [if_pos c_11] at eO
        exact hJ28 (eF.trans (by rw [f_X6_canGive, if_neg c_8, if_neg c_9, if_pos c_11])) eO ls (lv_sub hl [0, 1, 2, 3] rfl)
      · rw [if_neg c_11] at eO
        exact hJ24 (eF.trans (by rw [f_X6_canGive, if_neg c_8, if_neg c_9, if_neg c_11])) eO ls (lv_sub hl [0, 1, 2, 3] rfl)
