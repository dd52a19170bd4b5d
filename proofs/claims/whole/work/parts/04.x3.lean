def f_X3_isFull (mr : Int32) (r : Int32) : Bool :=
  if r < mr then
    false
  else
    true
theorem yd_X3_isFull : yX3_isFull.cls = RX3 ∧ yX3_isFull.cls ≠ "java/lang/invoke/MethodHandle" ∧ yX3_isFull.cls ≠ "java/lang/invoke/VarHandle" ∧ (parseMethodDescriptor yX3_isFull.desc).map (fun d => d.parameters.length) = some 0 := by decide +kernel
set_option maxHeartbeats 4000000 in
set_option maxRecDepth 100000 in
theorem c_X3_isFull (l : Launch) (dC : Nat → ClassId) (dI : Nat → Nat → Nat) (cI cB : ClassId) (h0 h1 : Nat) (mr : Int32) (wd : Int32) (r : Int32) (nn : Nat) (f : Nat → Int32) (hnn : (nn : Int) ≤ 2147483647) : Met l yX3_isFull wsX3_isFull ({ frames := 0, cells := 0, slots := 0, locals := 0 }) (vm_pre [.ref h0] (dC, dI) [(h0, .inr (3, [.ref h1, .int mr, .int wd, .int r])), (h1, .inl (cI, nn, .inl f))] cI cB) (vp_Si (fun r9 : Int32 => r9 = vm_bi (f_X3_isFull mr r))) 0 0 (fun _ => False) := by
  refine Met.ofW (cc := cX3_isFull) (maxL := 1) (ret := (some .boolean)) (by decide) rfl ?_
  intro p e s m args below meth c s₁ B hml hv
  obtain ⟨rfl, hP, hK, hN⟩ := hv
  have hx := B.exec
  have hb := B.bytes
  have hr := B.returns
  have hts := atoms_spec (ws := wsX3_isFull) B.pre
  have hown : s.vm.findClass RX3 = some m.cls := findClass_of_methodNamed B.named
  have hlocks := B.notSynchronized
  have kw1 := hts (.fieldLink RX3 28 "LapseMandates$Table" "rows" "I") (List.mem_of_getElem? (i := 1) rfl)
  have kw2 := hts (.fieldLink RX3 15 "LapseMandates$Table" "mostRows" "I") (List.mem_of_getElem? (i := 2) rfl)
  have iwsX30 : ∀ w ∈ wsX30, w ∈ wsX3_isFull := fun w h => List.mem_cons_of_mem _ (List.mem_append_right _ h)
  generalize hrr : f_X3_isFull mr r = rr
  have eF := hrr.symm
  have hl := lv_entry ([.ref h0]) (n := 1) (Nat.le_of_ble_eq_true rfl)
  rw [lg_entry_eq]
  generalize (lg_sl ([.ref h0]) ++ List.replicate (1 - (lg_sl ([.ref h0])).length) Slot.unset).toArray = ls at hl ⊢
  have hl : lv_has ls 1 [(0, .ref h0)] := hl
  refine lv_aload_n hx hb dX3_isFull_0 rfl (lv_at hl 0 rfl) ?_
  refine va_get (D := (dC, dI)) (ci := 3) (v := .int r) (C := RX3) (T := TX3) (N := 4) hx hb hts iwsX30 hown hK hP 0 rfl rfl 3 (by decide) kw1 (fun _ h9 => h9) rfl dX3_isFull_1 ?_
  refine lv_aload_n hx hb dX3_isFull_4 rfl (lv_at hl 0 rfl) ?_
  refine va_get (D := (dC, dI)) (ci := 3) (v := .int mr) (C := RX3) (T := TX3) (N := 4) hx hb hts iwsX30 hown hK hP 0 rfl rfl 1 (by decide) kw2 (fun _ h9 => h9) rfl dX3_isFull_5 ?_
  refine lv_icmp_lt (tgt := 15) hx hb dX3_isFull_8 (by decide) (fun c_1 => ?_) (fun c_1 => ?_)
  · refine lv_iconst (v := 0) hx hb dX3_isFull_15 (by decide) ?_
    have e9 : rr = false := eF.trans (by rw [f_X3_isFull, if_pos c_1])
    exact W.zret (v := 0) hx hb hr rfl (fun t ht hW => ⟨_, rfl, by rw [e9] <;> rfl, ht⟩) (fun _ hq => by cases hq) dX3_isFull_16
  · refine lv_iconst (v := 1) hx hb dX3_isFull_11 (by decide) ?_
    refine lv_goto (tgt := 16) hx hb dX3_isFull_12 (by decide) ?_
    have e9 : rr = true := eF.trans (by rw [f_X3_isFull, if_neg c_1])
    exact W.zret (v := 1) hx hb hr rfl (fun t ht hW => ⟨_, rfl, by rw [e9] <;> rfl, ht⟩) (fun _ hq => by cases hq) dX3_isFull_16

def f_X3_get (wd : Int32) (r : Int32) (nn : Nat) (f : Nat → Int32) (p1 : Int32) (p2 : Int32) : Int32 :=
  if p1 < 0 then
    0
  else
    if r ≤ p1 then
      0
    else
      if p2 < 0 then
        0
      else
        if p2 < wd then
          if ((p1 * wd) + p2) < 0 then
            0
          else
            if (Int32.ofNat nn) ≤ ((p1 * wd) + p2) then
              0
            else
              (f (Int32.toNatClampNeg ((p1 * wd) + p2)))
        else
          0
theorem yd_X3_get : yX3_get.cls = RX3 ∧ yX3_get.cls ≠ "java/lang/invoke/MethodHandle" ∧ yX3_get.cls ≠ "java/lang/invoke/VarHandle" ∧ (parseMethodDescriptor yX3_get.desc).map (fun d => d.parameters.length) = some 2 := by decide +kernel
set_option maxHeartbeats 4000000 in
set_option maxRecDepth 100000 in
theorem c_X3_get (l : Launch) (dC : Nat → ClassId) (dI : Nat → Nat → Nat) (cI cB : ClassId) (h0 h1 : Nat) (mr : Int32) (wd : Int32) (r : Int32) (nn : Nat) (f : Nat → Int32) (p1 : Int32) (p2 : Int32) (hnn : (nn : Int) ≤ 2147483647) : Met l yX3_get wsX3_get ({ frames := 0, cells := 0, slots := 0, locals := 0 }) (vm_pre [.ref h0, .int p1, .int p2] (dC, dI) [(h0, .inr (3, [.ref h1, .int mr, .int wd, .int r])), (h1, .inl (cI, nn, .inl f))] cI cB) (vp_Si (fun r9 : Int32 => r9 = (f_X3_get wd r nn f p1 p2))) 0 0 (fun _ => False) := by
  refine Met.ofW (cc := cX3_get) (maxL := 4) (ret := (some .int)) (by decide) rfl ?_
  intro p e s m args below meth c s₁ B hml hv
  obtain ⟨rfl, hP, hK, hN⟩ := hv
  have hx := B.exec
  have hb := B.bytes
  have hr := B.returns
  have hts := atoms_spec (ws := wsX3_get) B.pre
  have hown : s.vm.findClass RX3 = some m.cls := findClass_of_methodNamed B.named
  have hlocks := B.notSynchronized
  have kw1 := hts (.fieldLink RX3 28 "LapseMandates$Table" "rows" "I") (List.mem_of_getElem? (i := 1) rfl)
  have kw2 := hts (.fieldLink RX3 21 "LapseMandates$Table" "width" "I") (List.mem_of_getElem? (i := 2) rfl)
  have kw3 := hts (.fieldLink RX3 24 "LapseMandates$Table" "cells" "[I") (List.mem_of_getElem? (i := 3) rfl)
  have iwsX30 : ∀ w ∈ wsX30, w ∈ wsX3_get := fun w h => List.mem_cons_of_mem _ (List.mem_append_right _ h)
  generalize hrr : f_X3_get wd r nn f p1 p2 = rr
  have eF := hrr.symm
  have hl := lv_entry ([.ref h0, .int p1, .int p2]) (n := 4) (Nat.le_of_ble_eq_true rfl)
  rw [lg_entry_eq]
  generalize (lg_sl ([.ref h0, .int p1, .int p2]) ++ List.replicate (4 - (lg_sl ([.ref h0, .int p1, .int p2])).length) Slot.unset).toArray = ls at hl ⊢
  have hl : lv_has ls 4 [(0, .ref h0), (1, .int p1), (2, .int p2)] := hl
  refine lv_iload_n hx hb dX3_get_0 rfl (lv_at hl 1 rfl) ?_
  refine lv_if_lt (tgt := 24) hx hb dX3_get_1 (by decide) (fun c_1 => ?_) (fun c_1 => ?_)
  · refine lv_iconst (v := 0) hx hb dX3_get_24 (by decide) ?_
    have e9 : rr = 0 := eF.trans (by rw [f_X3_get, if_pos c_1])
    exact W.iret (v := 0) hx hb hr (fun t ht hW => ⟨_, rfl, e9.symm, ht⟩) (fun _ hq => by cases hq) dX3_get_25
  · refine lv_iload_n hx hb dX3_get_4 rfl (lv_at hl 1 rfl) ?_
    refine lv_aload_n hx hb dX3_get_5 rfl (lv_at hl 0 rfl) ?_
    refine va_get (D := (dC, dI)) (ci := 3) (v := .int r) (C := RX3) (T := TX3) (N := 4) hx hb hts iwsX30 hown hK hP 0 rfl rfl 3 (by decide) kw1 (fun _ h9 => h9) rfl dX3_get_6 ?_
    refine lv_icmp_ge (tgt := 24) hx hb dX3_get_9 (by decide) (fun c_2 => ?_) (fun c_2 => ?_)
    · refine lv_iconst (v := 0) hx hb dX3_get_24 (by decide) ?_
      have e9 : rr = 0 := eF.trans (by rw [f_X3_get, if_neg c_1, if_pos c_2])
      exact W.iret (v := 0) hx hb hr (fun t ht hW => ⟨_, rfl, e9.symm, ht⟩) (fun _ hq => by cases hq) dX3_get_25
    · refine lv_iload_n hx hb dX3_get_12 rfl (lv_at hl 2 rfl) ?_
      refine lv_if_lt (tgt := 24) hx hb dX3_get_13 (by decide) (fun c_3 => ?_) (fun c_3 => ?_)
      · refine lv_iconst (v := 0) hx hb dX3_get_24 (by decide) ?_
        have e9 : rr = 0 := eF.trans (by rw [f_X3_get, if_neg c_1, if_neg c_2, if_pos c_3])
        exact W.iret (v := 0) hx hb hr (fun t ht hW => ⟨_, rfl, e9.symm, ht⟩) (fun _ hq => by cases hq) dX3_get_25
      · refine lv_iload_n hx hb dX3_get_16 rfl (lv_at hl 2 rfl) ?_
        refine lv_aload_n hx hb dX3_get_17 rfl (lv_at hl 0 rfl) ?_
        refine va_get (D := (dC, dI)) (ci := 3) (v := .int wd) (C := RX3) (T := TX3) (N := 4) hx hb hts iwsX30 hown hK hP 0 rfl rfl 2 (by decide) kw2 (fun _ h9 => h9) rfl dX3_get_18 ?_
        refine lv_icmp_lt (tgt := 26) hx hb dX3_get_21 (by decide) (fun c_4 => ?_) (fun c_4 => ?_)
        · refine lv_iload_n hx hb dX3_get_26 rfl (lv_at hl 1 rfl) ?_
          refine lv_aload_n hx hb dX3_get_27 rfl (lv_at hl 0 rfl) ?_
          refine va_get (D := (dC, dI)) (ci := 3) (v := .int wd) (C := RX3) (T := TX3) (N := 4) hx hb hts iwsX30 hown hK hP 0 rfl rfl 2 (by decide) kw2 (fun _ h9 => h9) rfl dX3_get_28 ?_
          refine lv_imul hx hb dX3_get_31 ?_
          refine lv_iload_n hx hb dX3_get_32 rfl (lv_at hl 2 rfl) ?_
          refine lv_iadd hx hb dX3_get_33 ?_
          refine lv_istore_n (lv' := [(3, .int ((p1 * wd) + p2)), (0, .ref h0), (1, .int p1), (2, .int p2)]) hx hb dX3_get_34 rfl hl (by decide) rfl (fun ls hl => ?_)
          refine lv_iload_n hx hb dX3_get_35 rfl (lv_at hl 0 rfl) ?_
          refine lv_if_lt (tgt := 57) hx hb dX3_get_36 (by decide) (fun c_5 => ?_) (fun c_5 => ?_)
          · refine lv_iconst (v := 0) hx hb dX3_get_57 (by decide) ?_
            have e9 : rr = 0 := eF.trans (by rw [f_X3_get, if_neg c_1, if_neg c_2, if_neg c_3, if_pos c_4, if_pos c_5])
            exact W.iret (v := 0) hx hb hr (fun t ht hW => ⟨_, rfl, e9.symm, ht⟩) (fun _ hq => by cases hq) dX3_get_58
          · refine lv_iload_n hx hb dX3_get_39 rfl (lv_at hl 0 rfl) ?_
            refine lv_aload_n hx hb dX3_get_40 rfl (lv_at hl 1 rfl) ?_
            refine va_get (D := (dC, dI)) (ci := 3) (v := .ref h1) (C := RX3) (T := TX3) (N := 4) hx hb hts iwsX30 hown hK hP 0 rfl rfl 0 (by decide) kw3 (fun _ h9 => h9) rfl dX3_get_41 ?_
            refine va_alen hx hb hK hP 1 0 rfl rfl (v := (Int32.ofNat nn)) rfl dX3_get_44 ?_
            refine lv_icmp_ge (tgt := 57) hx hb dX3_get_45 (by decide) (fun c_6 => ?_) (fun c_6 => ?_)
            · refine lv_iconst (v := 0) hx hb dX3_get_57 (by decide) ?_
              have e9 : rr = 0 := eF.trans (by rw [f_X3_get, if_neg c_1, if_neg c_2, if_neg c_3, if_pos c_4, if_neg c_5, if_pos c_6])
              exact W.iret (v := 0) hx hb hr (fun t ht hW => ⟨_, rfl, e9.symm, ht⟩) (fun _ hq => by cases hq) dX3_get_58
            · refine lv_aload_n hx hb dX3_get_48 rfl (lv_at hl 1 rfl) ?_
              refine va_get (D := (dC, dI)) (ci := 3) (v := .ref h1) (C := RX3) (T := TX3) (N := 4) hx hb hts iwsX30 hown hK hP 0 rfl rfl 0 (by decide) kw3 (fun _ h9 => h9) rfl dX3_get_49 ?_
              refine lv_iload_n hx hb dX3_get_52 rfl (lv_at hl 0 rfl) ?_
              refine va_iald hx hb hK hP 1 0 rfl rfl (vm_in (vm_nlt c_5) (vm_nle c_6) (vm_len hnn)) dX3_get_53 ?_
              refine lv_goto (tgt := 58) hx hb dX3_get_54 (by decide) ?_
              have e9 : rr = (f (Int32.toNatClampNeg ((p1 * wd) + p2))) := eF.trans (by rw [f_X3_get, if_neg c_1, if_neg c_2, if_neg c_3, if_pos c_4, if_neg c_5, if_neg c_6])
              exact W.iret (v := (f (Int32.toNatClampNeg ((p1 * wd) + p2)))) hx hb hr (fun t ht hW => ⟨_, rfl, e9.symm, ht⟩) (fun _ hq => by cases hq) dX3_get_58
        · refine lv_iconst (v := 0) hx hb dX3_get_24 (by decide) ?_
          have e9 : rr = 0 := eF.trans (by rw [f_X3_get, if_neg c_1, if_neg c_2, if_neg c_3, if_neg c_4])
          exact W.iret (v := 0) hx hb hr (fun t ht hW => ⟨_, rfl, e9.symm, ht⟩) (fun _ hq => by cases hq) dX3_get_25

def f_X3_put (wd : Int32) (r : Int32) (nn : Nat) (f : Nat → Int32) (p1 : Int32) (p2 : Int32) (p3 : Int32) : (Nat → Int32) :=
  if p1 < 0 then
    f
  else
    if r ≤ p1 then
      f
    else
      if p2 < 0 then
        f
      else
        if p2 < wd then
          if ((p1 * wd) + p2) < 0 then
            f
          else
            if (Int32.ofNat nn) ≤ ((p1 * wd) + p2) then
              f
            else
              (upd f (Int32.toNatClampNeg ((p1 * wd) + p2)) p3)
        else
          f
theorem yd_X3_put : yX3_put.cls = RX3 ∧ yX3_put.cls ≠ "java/lang/invoke/MethodHandle" ∧ yX3_put.cls ≠ "java/lang/invoke/VarHandle" ∧ (parseMethodDescriptor yX3_put.desc).map (fun d => d.parameters.length) = some 3 := by decide +kernel
set_option maxHeartbeats 4000000 in
set_option maxRecDepth 100000 in
theorem c_X3_put (l : Launch) (dC : Nat → ClassId) (dI : Nat → Nat → Nat) (cI cB : ClassId) (h0 h1 : Nat) (sz : Nat) (mr : Int32) (wd : Int32) (r : Int32) (nn : Nat) (f : Nat → Int32) (p1 : Int32) (p2 : Int32) (p3 : Int32) (hnn : (nn : Int) ≤ 2147483647) : Met l yX3_put wsX3_put ({ frames := 0, cells := 0, slots := 0, locals := 0 }) (vm_prw [.ref h0, .int p1, .int p2, .int p3] (dC, dI) [(h0, .inr (3, [.ref h1, .int mr, .int wd, .int r])), (h1, .inl (cI, nn, .inl f))] cI cB sz) (va_Qv (fun _ : Unit => True) (fun _ t => va_P (dC, dI) vwCl [(h0, .inr (3, [.ref h1, .int mr, .int wd, .int r])), (h1, .inl (cI, nn, .inl (f_X3_put wd r nn f p1 p2 p3)))] t.heap) (va_A [(h0, .inr (3, [.ref h1, .int mr, .int wd, .int r])), (h1, .inl (cI, nn, .inl f))] sz)) 0 0 (va_A [(h0, .inr (3, [.ref h1, .int mr, .int wd, .int r])), (h1, .inl (cI, nn, .inl f))] sz) := by
  refine Met.ofW (cc := cX3_put) (maxL := 5) (ret := none) (by decide) rfl ?_
  intro p e s m args below meth c s₁ B hml hv
  obtain ⟨rfl, hsz, hP, hK, hN, hD0⟩ := hv
  have hx := B.exec
  have hb := B.bytes
  have hr := B.returns
  have hts := atoms_spec (ws := wsX3_put) B.pre
  have hown : s.vm.findClass RX3 = some m.cls := findClass_of_methodNamed B.named
  have hlocks := B.notSynchronized
  subst hsz
  have hD := hD0.self (sz := s.heap.size)
  generalize hAe : va_A [(h0, .inr (3, [.ref h1, .int mr, .int wd, .int r])), (h1, .inl (cI, nn, .inl f))] s.heap.size = A at hD ⊢
  have hA : ∀ q : Nat, s.heap.size ≤ q → A q := fun q h => by rw [← hAe]; exact Or.inr h
  have hS : va_S A s.heap s.heap [] := va_S.rf
  have hP : va_P (dC, dI) vwCl [(h0, .inr (3, [.ref h1, .int mr, .int wd, .int r])), (h1, .inl (cI, nn, .inl f))] s.heap := hP
  have kw1 := hts (.fieldLink RX3 28 "LapseMandates$Table" "rows" "I") (List.mem_of_getElem? (i := 1) rfl)
  have kw2 := hts (.fieldLink RX3 21 "LapseMandates$Table" "width" "I") (List.mem_of_getElem? (i := 2) rfl)
  have kw3 := hts (.fieldLink RX3 24 "LapseMandates$Table" "cells" "[I") (List.mem_of_getElem? (i := 3) rfl)
  have iwsX30 : ∀ w ∈ wsX30, w ∈ wsX3_put := fun w h => List.mem_cons_of_mem _ (List.mem_append_right _ h)
  generalize hrr : f_X3_put wd r nn f p1 p2 p3 = rr
  have eF := hrr.symm
  have hl := lv_entry ([.ref h0, .int p1, .int p2, .int p3]) (n := 5) (Nat.le_of_ble_eq_true rfl)
  rw [lg_entry_eq]
  generalize (lg_sl ([.ref h0, .int p1, .int p2, .int p3]) ++ List.replicate (5 - (lg_sl ([.ref h0, .int p1, .int p2, .int p3])).length) Slot.unset).toArray = ls at hl ⊢
  have hl : lv_has ls 5 [(0, .ref h0), (1, .int p1), (2, .int p2), (3, .int p3)] := hl
  refine lv_iload_n hx hb dX3_put_0 rfl (lv_at hl 1 rfl) ?_
  refine lv_if_lt (tgt := 24) hx hb dX3_put_1 (by decide) (fun c_1 => ?_) (fun c_1 => ?_)
  · have e9 : rr = f := eF.trans (by rw [f_X3_put, if_pos c_1])
    exact W.vret hx hb hr (fun t ht hW => ⟨⟨(), rfl, trivial, (by rw [e9]; show va_P _ _ _ t.heap; rw [ht]; exact hP)⟩, hS.F ht⟩) hS.2.2 dX3_put_24
  · refine lv_iload_n hx hb dX3_put_4 rfl (lv_at hl 1 rfl) ?_
    refine lv_aload_n hx hb dX3_put_5 rfl (lv_at hl 0 rfl) ?_
    refine va_get (D := (dC, dI)) (ci := 3) (v := .int r) (C := RX3) (T := TX3) (N := 4) hx hb hts iwsX30 hown hK hP 0 rfl rfl 3 (by decide) kw1 (fun _ h9 => h9) rfl dX3_put_6 ?_
    refine lv_icmp_ge (tgt := 24) hx hb dX3_put_9 (by decide) (fun c_2 => ?_) (fun c_2 => ?_)
    · have e9 : rr = f := eF.trans (by rw [f_X3_put, if_neg c_1, if_pos c_2])
      exact W.vret hx hb hr (fun t ht hW => ⟨⟨(), rfl, trivial, (by rw [e9]; show va_P _ _ _ t.heap; rw [ht]; exact hP)⟩, hS.F ht⟩) hS.2.2 dX3_put_24
    · refine lv_iload_n hx hb dX3_put_12 rfl (lv_at hl 2 rfl) ?_
      refine lv_if_lt (tgt := 24) hx hb dX3_put_13 (by decide) (fun c_3 => ?_) (fun c_3 => ?_)
      · have e9 : rr = f := eF.trans (by rw [f_X3_put, if_neg c_1, if_neg c_2, if_pos c_3])
        exact W.vret hx hb hr (fun t ht hW => ⟨⟨(), rfl, trivial, (by rw [e9]; show va_P _ _ _ t.heap; rw [ht]; exact hP)⟩, hS.F ht⟩) hS.2.2 dX3_put_24
      · refine lv_iload_n hx hb dX3_put_16 rfl (lv_at hl 2 rfl) ?_
        refine lv_aload_n hx hb dX3_put_17 rfl (lv_at hl 0 rfl) ?_
        refine va_get (D := (dC, dI)) (ci := 3) (v := .int wd) (C := RX3) (T := TX3) (N := 4) hx hb hts iwsX30 hown hK hP 0 rfl rfl 2 (by decide) kw2 (fun _ h9 => h9) rfl dX3_put_18 ?_
        refine lv_icmp_lt (tgt := 25) hx hb dX3_put_21 (by decide) (fun c_4 => ?_) (fun c_4 => ?_)
        · refine lv_iload_n hx hb dX3_put_25 rfl (lv_at hl 1 rfl) ?_
          refine lv_aload_n hx hb dX3_put_26 rfl (lv_at hl 0 rfl) ?_
          refine va_get (D := (dC, dI)) (ci := 3) (v := .int wd) (C := RX3) (T := TX3) (N := 4) hx hb hts iwsX30 hown hK hP 0 rfl rfl 2 (by decide) kw2 (fun _ h9 => h9) rfl dX3_put_27 ?_
          refine lv_imul hx hb dX3_put_30 ?_
          refine lv_iload_n hx hb dX3_put_31 rfl (lv_at hl 2 rfl) ?_
          refine lv_iadd hx hb dX3_put_32 ?_
          refine lv_istore (lv' := [(4, .int ((p1 * wd) + p2)), (0, .ref h0), (1, .int p1), (2, .int p2), (3, .int p3)]) hx hb dX3_put_33 hl (by decide) rfl (fun ls hl => ?_)
          refine lv_iload hx hb dX3_put_35 (lv_at hl 0 rfl) ?_
          refine lv_if_lt (tgt := 58) hx hb dX3_put_37 (by decide) (fun c_5 => ?_) (fun c_5 => ?_)
          · have e9 : rr = f := eF.trans (by rw [f_X3_put, if_neg c_1, if_neg c_2, if_neg c_3, if_pos c_4, if_pos c_5])
            exact W.vret hx hb hr (fun t ht hW => ⟨⟨(), rfl, trivial, (by rw [e9]; show va_P _ _ _ t.heap; rw [ht]; exact hP)⟩, hS.F ht⟩) hS.2.2 dX3_put_58
          · refine lv_iload hx hb dX3_put_40 (lv_at hl 0 rfl) ?_
            refine lv_aload_n hx hb dX3_put_42 rfl (lv_at hl 1 rfl) ?_
            refine va_get (D := (dC, dI)) (ci := 3) (v := .ref h1) (C := RX3) (T := TX3) (N := 4) hx hb hts iwsX30 hown hK hP 0 rfl rfl 0 (by decide) kw3 (fun _ h9 => h9) rfl dX3_put_43 ?_
            refine va_alen hx hb hK hP 1 0 rfl rfl (v := (Int32.ofNat nn)) rfl dX3_put_46 ?_
            refine lv_icmp_ge (tgt := 58) hx hb dX3_put_47 (by decide) (fun c_6 => ?_) (fun c_6 => ?_)
            · have e9 : rr = f := eF.trans (by rw [f_X3_put, if_neg c_1, if_neg c_2, if_neg c_3, if_pos c_4, if_neg c_5, if_pos c_6])
              exact W.vret hx hb hr (fun t ht hW => ⟨⟨(), rfl, trivial, (by rw [e9]; show va_P _ _ _ t.heap; rw [ht]; exact hP)⟩, hS.F ht⟩) hS.2.2 dX3_put_58
            · refine lv_aload_n hx hb dX3_put_50 rfl (lv_at hl 1 rfl) ?_
              refine va_get (D := (dC, dI)) (ci := 3) (v := .ref h1) (C := RX3) (T := TX3) (N := 4) hx hb hts iwsX30 hown hK hP 0 rfl rfl 0 (by decide) kw3 (fun _ h9 => h9) rfl dX3_put_51 ?_
              refine lv_iload hx hb dX3_put_54 (lv_at hl 0 rfl) ?_
              refine lv_iload_n hx hb dX3_put_56 rfl (lv_at hl 4 rfl) ?_
              refine va_iast hx hb hK hP hD hS 1 0 rfl rfl (vm_in (vm_nlt c_5) (vm_nle c_6) (vm_len hnn)) dX3_put_57 (fun H locs hP hD hS => ?_)
              have hP : va_P (dC, dI) vwCl [(h0, .inr (3, [.ref h1, .int mr, .int wd, .int r])), (h1, .inl (cI, nn, .inl (upd f (Int32.toNatClampNeg ((p1 * wd) + p2)) p3)))] H := hP
              have hD : va_D A [(h0, .inr (3, [.ref h1, .int mr, .int wd, .int r])), (h1, .inl (cI, nn, .inl (upd f (Int32.toNatClampNeg ((p1 * wd) + p2)) p3)))] := hD
              have e9 : rr = (upd f (Int32.toNatClampNeg ((p1 * wd) + p2)) p3) := eF.trans (by rw [f_X3_put, if_neg c_1, if_neg c_2, if_neg c_3, if_pos c_4, if_neg c_5, if_neg c_6])
              exact W.vret hx hb hr (fun t ht hW => ⟨⟨(), rfl, trivial, (by rw [e9]; show va_P _ _ _ t.heap; rw [ht]; exact hP)⟩, hS.F ht⟩) hS.2.2 dX3_put_58
        · have e9 : rr = f := eF.trans (by rw [f_X3_put, if_neg c_1, if_neg c_2, if_neg c_3, if_neg c_4])
          exact W.vret hx hb hr (fun t ht hW => ⟨⟨(), rfl, trivial, (by rw [e9]; show va_P _ _ _ t.heap; rw [ht]; exact hP)⟩, hS.F ht⟩) hS.2.2 dX3_put_24

def f_X3_addRow_c41 (x2_26 : Int32) (kj26 : Int32 → (Nat → Int32) → (Int32 × Int32 × (Nat → Int32))) (f_c41 : Nat → Int32) : Int32 × Int32 × (Nat → Int32) :=
  kj26 (x2_26 + 1) f_c41
def f_X3_addRow_j26 (wd : Int32) (r : Int32) (nn : Nat) : Nat → Int32 → (Nat → Int32) → Int32 × Int32 × (Nat → Int32)
  | 0, _, _ => (0, 0, (fun _ => 0))
  | n26 + 1, x2_26, f_26 => if wd ≤ x2_26 then
      (r, (r + 1), f_26)
    else
      f_X3_addRow_c41 x2_26 (f_X3_addRow_j26 wd r nn n26) (f_X3_put wd (r + 1) nn f_26 r x2_26 0)
def f_X3_addRow (mr : Int32) (wd : Int32) (r : Int32) (nn : Nat) (f : Nat → Int32) : Int32 × Int32 × (Nat → Int32) :=
  if (vm_bi (f_X3_isFull mr r)) = 0 then
    f_X3_addRow_j26 wd r nn (((wd).toInt - ((0 : Int32)).toInt).toNat + 1) 0 f
  else
    ((-1), r, f)
theorem yd_X3_addRow : yX3_addRow.cls = RX3 ∧ yX3_addRow.cls ≠ "java/lang/invoke/MethodHandle" ∧ yX3_addRow.cls ≠ "java/lang/invoke/VarHandle" ∧ (parseMethodDescriptor yX3_addRow.desc).map (fun d => d.parameters.length) = some 0 := by decide +kernel
set_option maxHeartbeats 4000000 in
set_option maxRecDepth 100000 in
theorem c_X3_addRow (l : Launch) (dC : Nat → ClassId) (dI : Nat → Nat → Nat) (cI cB : ClassId) (h0 h1 : Nat) (sz : Nat) (mr : Int32) (wd : Int32) (r : Int32) (nn : Nat) (f : Nat → Int32) (hnn : (nn : Int) ≤ 2147483647) : Met l yX3_addRow wsX3_addRow ({ frames := 1, cells := 0, slots := 0, locals := 24 }) (vm_prw [.ref h0] (dC, dI) [(h0, .inr (3, [.ref h1, .int mr, .int wd, .int r])), (h1, .inl (cI, nn, .inl f))] cI cB sz) (va_Qi (fun (r9 : Int32) (_ : Unit) => r9 = (f_X3_addRow mr wd r nn f).1) (fun _ t => va_P (dC, dI) vwCl [(h0, .inr (3, [.ref h1, .int mr, .int wd, .int ((f_X3_addRow mr wd r nn f).2.1)])), (h1, .inl (cI, nn, .inl ((f_X3_addRow mr wd r nn f).2.2)))] t.heap) (va_A [(h0, .inr (3, [.ref h1, .int mr, .int wd, .int r])), (h1, .inl (cI, nn, .inl f))] sz)) 0 0 (va_A [(h0, .inr (3, [.ref h1, .int mr, .int wd, .int r])), (h1, .inl (cI, nn, .inl f))] sz) := by
  refine Met.ofW (cc := cX3_addRow) (maxL := 3) (ret := (some .int)) (by decide) rfl ?_
  intro p e s m args below meth c s₁ B hml hv
  obtain ⟨rfl, hsz, hP, hK, hN, hD0⟩ := hv
  have hx := B.exec
  have hb := B.bytes
  have hr := B.returns
  have hts := atoms_spec (ws := wsX3_addRow) B.pre
  have hown : s.vm.findClass RX3 = some m.cls := findClass_of_methodNamed B.named
  have hlocks := B.notSynchronized
  subst hsz
  have hD := hD0.self (sz := s.heap.size)
  generalize hAe : va_A [(h0, .inr (3, [.ref h1, .int mr, .int wd, .int r])), (h1, .inl (cI, nn, .inl f))] s.heap.size = A at hD ⊢
  have hA : ∀ q : Nat, s.heap.size ≤ q → A q := fun q h => by rw [← hAe]; exact Or.inr h
  have hS : va_S A s.heap s.heap [] := va_S.rf
  have hP : va_P (dC, dI) vwCl [(h0, .inr (3, [.ref h1, .int mr, .int wd, .int r])), (h1, .inl (cI, nn, .inl f))] s.heap := hP
  have kw1 := hts (.fieldLink RX3 28 "LapseMandates$Table" "rows" "I") (List.mem_of_getElem? (i := 1) rfl)
  have kw2 := hts (.fieldLink RX3 21 "LapseMandates$Table" "width" "I") (List.mem_of_getElem? (i := 2) rfl)
  have iwsX30 : ∀ w ∈ wsX30, w ∈ wsX3_addRow := fun w h => List.mem_cons_of_mem _ (List.mem_append_right _ h)
  generalize hrr : f_X3_addRow mr wd r nn f = rr
  have eF := hrr.symm
  have hl := lv_entry ([.ref h0]) (n := 3) (Nat.le_of_ble_eq_true rfl)
  rw [lg_entry_eq]
  generalize (lg_sl ([.ref h0]) ++ List.replicate (3 - (lg_sl ([.ref h0])).length) Slot.unset).toArray = ls at hl ⊢
  have hl : lv_has ls 3 [(0, .ref h0)] := hl
  have hJ26 : ∀ (n26 : Nat) (x2_26 : Int32) (f_26 : Nat → Int32), ((wd).toInt - (x2_26).toInt).toNat < n26 → 0 ≤ x2_26 → rr = f_X3_addRow_j26 wd r nn n26 x2_26 f_26 → ∀ (H : Heap) (locs : List Loc), va_P (dC, dI) vwCl [(h0, .inr (3, [.ref h1, .int mr, .int wd, .int (r + 1)])), (h1, .inl (cI, nn, .inl f_26))] H → va_D A [(h0, .inr (3, [.ref h1, .int mr, .int wd, .int (r + 1)])), (h1, .inl (cI, nn, .inl f_26))] → va_S A s.heap H locs → ∀ (ls : Array Slot), lv_has ls 3 [(0, .ref h0), (1, .int r), (2, .int x2_26)] → W p l e (headSpec wsX3_addRow ({ frames := 1, cells := 0, slots := 0, locals := 24 })).room s m ([.ref h0] : List Value).toArray below meth c H locs 0 0 (MQ below (va_Qi (fun (r9 : Int32) (_ : Unit) => r9 = rr.1) (fun _ t => va_P (dC, dI) vwCl [(h0, .inr (3, [.ref h1, .int mr, .int wd, .int rr.2.1])), (h1, .inl (cI, nn, .inl rr.2.2))] t.heap) A) ([.ref h0] : List Value).toArray s 0 0 A) (F0 m 26 ls []) := by
    intro n26
    induction n26 with
    | zero =>
      intro x2_26 f_26 hm26
      exact absurd hm26 (Nat.not_lt_zero _)
    | succ n26 ih26 =>
      intro x2_26 f_26 hm26 hi26 eF H locs hP hD hS ls hl
      refine lv_iload_n hx hb dX3_addRow_26 rfl (lv_at hl 2 rfl) ?_
      refine lv_aload_n hx hb dX3_addRow_27 rfl (lv_at hl 0 rfl) ?_
      refine va_get (D := (dC, dI)) (ci := 3) (v := .int wd) (C := RX3) (T := TX3) (N := 4) hx hb hts iwsX30 hown hK hP 0 rfl rfl 2 (by decide) kw2 (fun _ h9 => h9) rfl dX3_addRow_28 ?_
      refine lv_icmp_ge (tgt := 47) hx hb dX3_addRow_31 (by decide) (fun cL26 => ?_) (fun cL26 => ?_)
      · refine lv_iload_n hx hb dX3_addRow_47 rfl (lv_at hl 1 rfl) ?_
        have e9 : rr = (r, (r + 1), f_26) := eF.trans (by rw [f_X3_addRow_j26, if_pos cL26])
        exact W.iret (v := r) hx hb hr (fun t ht hW => ⟨⟨_, (), rfl, by rw [e9], (by rw [e9]; show va_P _ _ _ t.heap; rw [ht]; exact hP)⟩, hS.F ht⟩) hS.2.2 dX3_addRow_48
      · refine lv_aload_n hx hb dX3_addRow_34 rfl (lv_at hl 0 rfl) ?_
        refine lv_iload_n hx hb dX3_addRow_35 rfl (lv_at hl 1 rfl) ?_
        refine lv_iload_n hx hb dX3_addRow_36 rfl (lv_at hl 2 rfl) ?_
        refine lv_iconst (v := 0) hx hb dX3_addRow_37 (by decide) ?_
        refine vm_rwVv (As := [.int r, .int x2_26, .int 0]) (rest := []) (T := TX3) (N := 4) (wc := [(h0, .inr (3, [.ref h1, .int mr, .int wd, .int (r + 1)])), (h1, .inl (cI, nn, .inl f_26))]) (w1 := [(h0, .inr (3, [.ref h1, .int mr, .int wd, .int (r + 1)])), (h1, .inl (cI, nn, .inl (f_X3_put wd (r + 1) nn f_26 r x2_26 0)))]) ⟨hx, hb, hml, hown, hts⟩ hK hN hP hD hS hA hl.1 ⟨Nat.le_of_ble_eq_true rfl, Nat.le_of_ble_eq_true rfl⟩ (c_X3_put l dC dI cI cB h0 h1 _ mr wd (r + 1) nn f_26 r x2_26 0 hnn) (cwV 3 hts gX3_addRow_X3_put rfl rfl rfl yd_X3_put ⟨Nat.le_of_ble_eq_true rfl, Nat.le_of_ble_eq_true rfl⟩) [0, 1] rfl rfl rfl 3 rfl rfl rfl rfl (Nat.le_of_ble_eq_true rfl) dX3_addRow_38 (fun H locs hP hD hS => ?_)
        have hP : va_P (dC, dI) vwCl [(h0, .inr (3, [.ref h1, .int mr, .int wd, .int (r + 1)])), (h1, .inl (cI, nn, .inl (f_X3_put wd (r + 1) nn f_26 r x2_26 0)))] H := hP
        have hD : va_D A [(h0, .inr (3, [.ref h1, .int mr, .int wd, .int (r + 1)])), (h1, .inl (cI, nn, .inl (f_X3_put wd (r + 1) nn f_26 r x2_26 0)))] := hD
        obtain ⟨f_c41, ef_c41⟩ : ∃ z, z = (f_X3_put wd (r + 1) nn f_26 r x2_26 0) := ⟨_, rfl⟩
        rw [← ef_c41] at hP hD
        have eF : rr = f_X3_addRow_c41 x2_26 (f_X3_addRow_j26 wd r nn n26) f_c41 := eF.trans (by rw [f_X3_addRow_j26, if_neg cL26, ef_c41])
        refine lv_iinc (v := (x2_26 + 1)) (lv' := [(2, .int (x2_26 + 1)), (0, .ref h0), (1, .int r)]) hx hb dX3_addRow_41 hl (k := 2) rfl rfl (by decide) rfl (fun ls hl => ?_)
        refine lv_goto (tgt := 26) hx hb dX3_addRow_44 (by decide) ?_
        exact ih26 (x2_26 + 1) f_c41 (vm_up (vm_nle cL26) hm26) (vm_nn hi26 (vm_nle cL26)) (eF.trans (by rw [f_X3_addRow_c41])) _ _ hP hD hS ls (lv_sub hl [1, 2, 0] rfl)
  refine lv_aload_n hx hb dX3_addRow_0 rfl (lv_at hl 0 rfl) ?_
  refine vm_roVx (v := vm_bi (f_X3_isFull mr r)) (As := []) (rest := []) (T := TX3) (N := 4) (wc := [(h0, .inr (3, [.ref h1, .int mr, .int wd, .int r])), (h1, .inl (cI, nn, .inl f))]) ⟨hx, hb, hml, hown, hts⟩ hK hN hP hl.1 ⟨Nat.le_of_ble_eq_true rfl, Nat.le_of_ble_eq_true rfl⟩ (c_X3_isFull l dC dI cI cB h0 h1 mr wd r nn f hnn) (cwV 0 hts gX3_addRow_X3_isFull rfl rfl rfl yd_X3_isFull ⟨Nat.le_of_ble_eq_true rfl, Nat.le_of_ble_eq_true rfl⟩) [0, 1] rfl 3 rfl rfl rfl rfl (Nat.le_of_ble_eq_true rfl) dX3_addRow_1 ?_
  refine lv_if_eq (tgt := 9) hx hb dX3_addRow_4 (by decide) (fun c_2 => ?_) (fun c_2 => ?_)
  · refine lv_aload_n hx hb dX3_addRow_9 rfl (lv_at hl 0 rfl) ?_
    refine va_get (D := (dC, dI)) (ci := 3) (v := .int r) (C := RX3) (T := TX3) (N := 4) hx hb hts iwsX30 hown hK hP 0 rfl rfl 3 (by decide) kw1 (fun _ h9 => h9) rfl dX3_addRow_10 ?_
    refine lv_istore_n (lv' := [(1, .int r), (0, .ref h0)]) hx hb dX3_addRow_13 rfl hl (by decide) rfl (fun ls hl => ?_)
    refine lv_aload_n hx hb dX3_addRow_14 rfl (lv_at hl 1 rfl) ?_
    refine lv_dup hx hb dX3_addRow_15 rfl ?_
    refine va_get (D := (dC, dI)) (ci := 3) (v := .int r) (C := RX3) (T := TX3) (N := 4) hx hb hts iwsX30 hown hK hP 0 rfl rfl 3 (by decide) kw1 (fun _ h9 => h9) rfl dX3_addRow_16 ?_
    refine lv_iconst (v := 1) hx hb dX3_addRow_19 (by decide) ?_
    refine lv_iadd hx hb dX3_addRow_20 ?_
    refine va_put (D := (dC, dI)) (ci := 3) (v := .int (r + 1)) (ty := .int) (C := RX3) (T := TX3) (N := 4) hx hb hts iwsX30 tyX3 tyX3_ok nmX3 hown hK hP hD hS 0 rfl rfl 3 (by decide) kw1 (fun _ h9 => h9) rfl (by decide +kernel) rfl rfl (Nat.le_of_ble_eq_true rfl) dX3_addRow_21 (fun H locs hP hD hS => ?_)
    have hP : va_P (dC, dI) vwCl [(h0, .inr (3, [.ref h1, .int mr, .int wd, .int (r + 1)])), (h1, .inl (cI, nn, .inl f))] H := hP
    have hD : va_D A [(h0, .inr (3, [.ref h1, .int mr, .int wd, .int (r + 1)])), (h1, .inl (cI, nn, .inl f))] := hD
    refine lv_iconst (v := 0) hx hb dX3_addRow_24 (by decide) ?_
    refine lv_istore_n (lv' := [(2, .int 0), (1, .int r), (0, .ref h0)]) hx hb dX3_addRow_25 rfl hl (by decide) rfl (fun ls hl => ?_)
    exact hJ26 (((wd).toInt - ((0 : Int32)).toInt).toNat + 1) 0 f (Nat.lt_succ_self _) (by decide) (eF.trans (by rw [f_X3_addRow, if_pos c_2])) _ _ hP hD hS ls (lv_sub hl [2, 1, 0] rfl)
  · refine lv_iconst (v := (-1)) hx hb dX3_addRow_7 (by decide) ?_
    have e9 : rr = ((-1), r, f) := eF.trans (by rw [f_X3_addRow, if_neg c_2])
    exact W.iret (v := (-1)) hx hb hr (fun t ht hW => ⟨⟨_, (), rfl, by rw [e9], (by rw [e9]; show va_P _ _ _ t.heap; rw [ht]; exact hP)⟩, hS.F ht⟩) hS.2.2 dX3_addRow_8

def f_X3_removeRow_c49 (x3_27 : Int32) (kj27 : Int32 → (Nat → Int32) → (Int32 × (Nat → Int32))) (f_c49 : Nat → Int32) : Int32 × (Nat → Int32) :=
  kj27 (x3_27 + 1) f_c49
def f_X3_removeRow_j27 (wd : Int32) (r : Int32) (nn : Nat) (x2_17 : Int32) (kj17 : Int32 → (Nat → Int32) → (Int32 × (Nat → Int32))) : Nat → Int32 → (Nat → Int32) → Int32 × (Nat → Int32)
  | 0, _, _ => (0, (fun _ => 0))
  | n27 + 1, x3_27, f_27 => if wd ≤ x3_27 then
      kj17 (x2_17 + 1) f_27
    else
      f_X3_removeRow_c49 x3_27 (f_X3_removeRow_j27 wd r nn x2_17 kj17 n27) (f_X3_put wd r nn f_27 (x2_17 - 1) x3_27 (f_X3_get wd r nn f_27 x2_17 x3_27))
def f_X3_removeRow_j17 (wd : Int32) (r : Int32) (nn : Nat) : Nat → Int32 → (Nat → Int32) → Int32 × (Nat → Int32)
  | 0, _, _ => (0, (fun _ => 0))
  | n17 + 1, x2_17, f_17 => if r ≤ x2_17 then
      ((r - 1), f_17)
    else
      f_X3_removeRow_j27 wd r nn x2_17 (f_X3_removeRow_j17 wd r nn n17) (((wd).toInt - ((0 : Int32)).toInt).toNat + 1) 0 f_17
def f_X3_removeRow (wd : Int32) (r : Int32) (nn : Nat) (f : Nat → Int32) (p1 : Int32) : Int32 × (Nat → Int32) :=
  if p1 < 0 then
    (r, f)
  else
    if p1 < r then
      f_X3_removeRow_j17 wd r nn (((r).toInt - ((p1 + 1)).toInt).toNat + 1) (p1 + 1) f
    else
      (r, f)
theorem yd_X3_removeRow : yX3_removeRow.cls = RX3 ∧ yX3_removeRow.cls ≠ "java/lang/invoke/MethodHandle" ∧ yX3_removeRow.cls ≠ "java/lang/invoke/VarHandle" ∧ (parseMethodDescriptor yX3_removeRow.desc).map (fun d => d.parameters.length) = some 1 := by decide +kernel
set_option maxHeartbeats 4000000 in
set_option maxRecDepth 100000 in
theorem c_X3_removeRow (l : Launch) (dC : Nat → ClassId) (dI : Nat → Nat → Nat) (cI cB : ClassId) (h0 h1 : Nat) (sz : Nat) (mr : Int32) (wd : Int32) (r : Int32) (nn : Nat) (f : Nat → Int32) (p1 : Int32) (hnn : (nn : Int) ≤ 2147483647) : Met l yX3_removeRow wsX3_removeRow ({ frames := 1, cells := 0, slots := 0, locals := 24 }) (vm_prw [.ref h0, .int p1] (dC, dI) [(h0, .inr (3, [.ref h1, .int mr, .int wd, .int r])), (h1, .inl (cI, nn, .inl f))] cI cB sz) (va_Qv (fun _ : Unit => True) (fun _ t => va_P (dC, dI) vwCl [(h0, .inr (3, [.ref h1, .int mr, .int wd, .int ((f_X3_removeRow wd r nn f p1).1)])), (h1, .inl (cI, nn, .inl ((f_X3_removeRow wd r nn f p1).2)))] t.heap) (va_A [(h0, .inr (3, [.ref h1, .int mr, .int wd, .int r])), (h1, .inl (cI, nn, .inl f))] sz)) 0 0 (va_A [(h0, .inr (3, [.ref h1, .int mr, .int wd, .int r])), (h1, .inl (cI, nn, .inl f))] sz) := by
  refine Met.ofW (cc := cX3_removeRow) (maxL := 4) (ret := none) (by decide) rfl ?_
  intro p e s m args below meth c s₁ B hml hv
  obtain ⟨rfl, hsz, hP, hK, hN, hD0⟩ := hv
  have hx := B.exec
  have hb := B.bytes
  have hr := B.returns
  have hts := atoms_spec (ws := wsX3_removeRow) B.pre
  have hown : s.vm.findClass RX3 = some m.cls := findClass_of_methodNamed B.named
  have hlocks := B.notSynchronized
  subst hsz
  have hD := hD0.self (sz := s.heap.size)
  generalize hAe : va_A [(h0, .inr (3, [.ref h1, .int mr, .int wd, .int r])), (h1, .inl (cI, nn, .inl f))] s.heap.size = A at hD ⊢
  have hA : ∀ q : Nat, s.heap.size ≤ q → A q := fun q h => by rw [← hAe]; exact Or.inr h
  have hS : va_S A s.heap s.heap [] := va_S.rf
  have hP : va_P (dC, dI) vwCl [(h0, .inr (3, [.ref h1, .int mr, .int wd, .int r])), (h1, .inl (cI, nn, .inl f))] s.heap := hP
  have kw1 := hts (.fieldLink RX3 28 "LapseMandates$Table" "rows" "I") (List.mem_of_getElem? (i := 1) rfl)
  have kw2 := hts (.fieldLink RX3 21 "LapseMandates$Table" "width" "I") (List.mem_of_getElem? (i := 2) rfl)
  have iwsX30 : ∀ w ∈ wsX30, w ∈ wsX3_removeRow := fun w h => List.mem_cons_of_mem _ (List.mem_append_right _ h)
  generalize hrr : f_X3_removeRow wd r nn f p1 = rr
  have eF := hrr.symm
  have hl := lv_entry ([.ref h0, .int p1]) (n := 4) (Nat.le_of_ble_eq_true rfl)
  rw [lg_entry_eq]
  generalize (lg_sl ([.ref h0, .int p1]) ++ List.replicate (4 - (lg_sl ([.ref h0, .int p1])).length) Slot.unset).toArray = ls at hl ⊢
  have hl : lv_has ls 4 [(0, .ref h0), (1, .int p1)] := hl
  have hJ17 : ∀ (n17 : Nat) (x2_17 : Int32) (f_17 : Nat → Int32), ((r).toInt - (x2_17).toInt).toNat < n17 → rr = f_X3_removeRow_j17 wd r nn n17 x2_17 f_17 → ∀ (H : Heap) (locs : List Loc), va_P (dC, dI) vwCl [(h0, .inr (3, [.ref h1, .int mr, .int wd, .int r])), (h1, .inl (cI, nn, .inl f_17))] H → va_D A [(h0, .inr (3, [.ref h1, .int mr, .int wd, .int r])), (h1, .inl (cI, nn, .inl f_17))] → va_S A s.heap H locs → ∀ (ls : Array Slot), lv_has ls 4 [(0, .ref h0), (2, .int x2_17)] → W p l e (headSpec wsX3_removeRow ({ frames := 1, cells := 0, slots := 0, locals := 24 })).room s m ([.ref h0, .int p1] : List Value).toArray below meth c H locs 0 0 (MQ below (va_Qv (fun _ : Unit => True) (fun _ t => va_P (dC, dI) vwCl [(h0, .inr (3, [.ref h1, .int mr, .int wd, .int rr.1])), (h1, .inl (cI, nn, .inl rr.2))] t.heap) A) ([.ref h0, .int p1] : List Value).toArray s 0 0 A) (F0 m 17 ls []) := by
    intro n17
    induction n17 with
    | zero =>
      intro x2_17 f_17 hm17
      exact absurd hm17 (Nat.not_lt_zero _)
    | succ n17 ih17 =>
      intro x2_17 f_17 hm17 eF H locs hP hD hS ls hl
      have hJ27 : ∀ (n27 : Nat) (x3_27 : Int32) (f_27 : Nat → Int32), ((wd).toInt - (x3_27).toInt).toNat < n27 → 0 ≤ x3_27 → ¬ r ≤ x2_17 → rr = f_X3_removeRow_j27 wd r nn x2_17 (f_X3_removeRow_j17 wd r nn n17) n27 x3_27 f_27 → ∀ (H : Heap) (locs : List Loc), va_P (dC, dI) vwCl [(h0, .inr (3, [.ref h1, .int mr, .int wd, .int r])), (h1, .inl (cI, nn, .inl f_27))] H → va_D A [(h0, .inr (3, [.ref h1, .int mr, .int wd, .int r])), (h1, .inl (cI, nn, .inl f_27))] → va_S A s.heap H locs → ∀ (ls : Array Slot), lv_has ls 4 [(0, .ref h0), (2, .int x2_17), (3, .int x3_27)] → W p l e (headSpec wsX3_removeRow ({ frames := 1, cells := 0, slots := 0, locals := 24 })).room s m ([.ref h0, .int p1] : List Value).toArray below meth c H locs 0 0 (MQ below (va_Qv (fun _ : Unit => True) (fun _ t => va_P (dC, dI) vwCl [(h0, .inr (3, [.ref h1, .int mr, .int wd, .int rr.1])), (h1, .inl (cI, nn, .inl rr.2))] t.heap) A) ([.ref h0, .int p1] : List Value).toArray s 0 0 A) (F0 m 27 ls []) := by
        intro n27
        induction n27 with
        | zero =>
          intro x3_27 f_27 hm27
          exact absurd hm27 (Nat.not_lt_zero _)
        | succ n27 ih27 =>
          intro x3_27 f_27 hm27 hi27 cL17 eF H locs hP hD hS ls hl
          refine lv_iload_n hx hb dX3_removeRow_27 rfl (lv_at hl 2 rfl) ?_
          refine lv_aload_n hx hb dX3_removeRow_28 rfl (lv_at hl 0 rfl) ?_
          refine va_get (D := (dC, dI)) (ci := 3) (v := .int wd) (C := RX3) (T := TX3) (N := 4) hx hb hts iwsX30 hown hK hP 0 rfl rfl 2 (by decide) kw2 (fun _ h9 => h9) rfl dX3_removeRow_29 ?_
          refine lv_icmp_ge (tgt := 55) hx hb dX3_removeRow_32 (by decide) (fun cL27 => ?_) (fun cL27 => ?_)
          · refine lv_iinc (v := (x2_17 + 1)) (lv' := [(2, .int (x2_17 + 1)), (0, .ref h0), (3, .int x3_27)]) hx hb dX3_removeRow_55 hl (k := 1) rfl rfl (by decide) rfl (fun ls hl => ?_)
            refine lv_goto (tgt := 17) hx hb dX3_removeRow_58 (by decide) ?_
            exact ih17 (x2_17 + 1) f_27 (vm_up (vm_nle cL17) hm17) (eF.trans (by rw [f_X3_removeRow_j27, if_pos cL27])) _ _ hP hD hS ls (lv_sub hl [1, 0] rfl)
          · refine lv_aload_n hx hb dX3_removeRow_35 rfl (lv_at hl 0 rfl) ?_
            refine lv_iload_n hx hb dX3_removeRow_36 rfl (lv_at hl 1 rfl) ?_
            refine lv_iconst (v := 1) hx hb dX3_removeRow_37 (by decide) ?_
            refine lv_isub hx hb dX3_removeRow_38 ?_
            refine lv_iload_n hx hb dX3_removeRow_39 rfl (lv_at hl 2 rfl) ?_
            refine lv_aload_n hx hb dX3_removeRow_40 rfl (lv_at hl 0 rfl) ?_
            refine lv_iload_n hx hb dX3_removeRow_41 rfl (lv_at hl 1 rfl) ?_
            refine lv_iload_n hx hb dX3_removeRow_42 rfl (lv_at hl 2 rfl) ?_
            refine vm_roVx (v := (f_X3_get wd r nn f_27 x2_17 x3_27)) (As := [.int x2_17, .int x3_27]) (rest := [.int x3_27, .int (x2_17 - 1), .ref h0]) (T := TX3) (N := 4) (wc := [(h0, .inr (3, [.ref h1, .int mr, .int wd, .int r])), (h1, .inl (cI, nn, .inl f_27))]) ⟨hx, hb, hml, hown, hts⟩ hK hN hP hl.1 ⟨Nat.le_of_ble_eq_true rfl, Nat.le_of_ble_eq_true rfl⟩ (c_X3_get l dC dI cI cB h0 h1 mr wd r nn f_27 x2_17 x3_27 hnn) (cwV 2 hts gX3_removeRow_X3_get rfl rfl rfl yd_X3_get ⟨Nat.le_of_ble_eq_true rfl, Nat.le_of_ble_eq_true rfl⟩) [0, 1] rfl 3 rfl rfl rfl rfl (Nat.le_of_ble_eq_true rfl) dX3_removeRow_43 ?_
            refine vm_rwVv (As := [.int (x2_17 - 1), .int x3_27, .int (f_X3_get wd r nn f_27 x2_17 x3_27)]) (rest := []) (T := TX3) (N := 4) (wc := [(h0, .inr (3, [.ref h1, .int mr, .int wd, .int r])), (h1, .inl (cI, nn, .inl f_27))]) (w1 := [(h0, .inr (3, [.ref h1, .int mr, .int wd, .int r])), (h1, .inl (cI, nn, .inl (f_X3_put wd r nn f_27 (x2_17 - 1) x3_27 (f_X3_get wd r nn f_27 x2_17 x3_27))))]) ⟨hx, hb, hml, hown, hts⟩ hK hN hP hD hS hA hl.1 ⟨Nat.le_of_ble_eq_true rfl, Nat.le_of_ble_eq_true rfl⟩ (c_X3_put l dC dI cI cB h0 h1 _ mr wd r nn f_27 (x2_17 - 1) x3_27 (f_X3_get wd r nn f_27 x2_17 x3_27) hnn) (cwV 3 hts gX3_removeRow_X3_put rfl rfl rfl yd_X3_put ⟨Nat.le_of_ble_eq_true rfl, Nat.le_of_ble_eq_true rfl⟩) [0, 1] rfl rfl rfl 3 rfl rfl rfl rfl (Nat.le_of_ble_eq_true rfl) dX3_removeRow_46 (fun H locs hP hD hS => ?_)
            have hP : va_P (dC, dI) vwCl [(h0, .inr (3, [.ref h1, .int mr, .int wd, .int r])), (h1, .inl (cI, nn, .inl (f_X3_put wd r nn f_27 (x2_17 - 1) x3_27 (f_X3_get wd r nn f_27 x2_17 x3_27))))] H := hP
            have hD : va_D A [(h0, .inr (3, [.ref h1, .int mr, .int wd, .int r])), (h1, .inl (cI, nn, .inl (f_X3_put wd r nn f_27 (x2_17 - 1) x3_27 (f_X3_get wd r nn f_27 x2_17 x3_27))))] := hD
            obtain ⟨f_c49, ef_c49⟩ : ∃ z, z = (f_X3_put wd r nn f_27 (x2_17 - 1) x3_27 (f_X3_get wd r nn f_27 x2_17 x3_27)) := ⟨_, rfl⟩
            rw [← ef_c49] at hP hD
            have eF : rr = f_X3_removeRow_c49 x3_27 (f_X3_removeRow_j27 wd r nn x2_17 (f_X3_removeRow_j17 wd r nn n17) n27) f_c49 := eF.trans (by rw [f_X3_removeRow_j27, if_neg cL27, ef_c49])
            refine lv_iinc (v := (x3_27 + 1)) (lv' := [(3, .int (x3_27 + 1)), (0, .ref h0), (2, .int x2_17)]) hx hb dX3_removeRow_49 hl (k := 2) rfl rfl (by decide) rfl (fun ls hl => ?_)
            refine lv_goto (tgt := 27) hx hb dX3_removeRow_52 (by decide) ?_
            exact ih27 (x3_27 + 1) f_c49 (vm_up (vm_nle cL27) hm27) (vm_nn hi27 (vm_nle cL27)) cL17 (eF.trans (by rw [f_X3_removeRow_c49])) _ _ hP hD hS ls (lv_sub hl [1, 2, 0] rfl)
      refine lv_iload_n hx hb dX3_removeRow_17 rfl (lv_at hl 1 rfl) ?_
      refine lv_aload_n hx hb dX3_removeRow_18 rfl (lv_at hl 0 rfl) ?_
      refine va_get (D := (dC, dI)) (ci := 3) (v := .int r) (C := RX3) (T := TX3) (N := 4) hx hb hts iwsX30 hown hK hP 0 rfl rfl 3 (by decide) kw1 (fun _ h9 => h9) rfl dX3_removeRow_19 ?_
      refine lv_icmp_ge (tgt := 61) hx hb dX3_removeRow_22 (by decide) (fun cL17 => ?_) (fun cL17 => ?_)
      · refine lv_aload_n hx hb dX3_removeRow_61 rfl (lv_at hl 0 rfl) ?_
        refine lv_dup hx hb dX3_removeRow_62 rfl ?_
        refine va_get (D := (dC, dI)) (ci := 3) (v := .int r) (C := RX3) (T := TX3) (N := 4) hx hb hts iwsX30 hown hK hP 0 rfl rfl 3 (by decide) kw1 (fun _ h9 => h9) rfl dX3_removeRow_63 ?_
        refine lv_iconst (v := 1) hx hb dX3_removeRow_66 (by decide) ?_
        refine lv_isub hx hb dX3_removeRow_67 ?_
        refine va_put (D := (dC, dI)) (ci := 3) (v := .int (r - 1)) (ty := .int) (C := RX3) (T := TX3) (N := 4) hx hb hts iwsX30 tyX3 tyX3_ok nmX3 hown hK hP hD hS 0 rfl rfl 3 (by decide) kw1 (fun _ h9 => h9) rfl (by decide +kernel) rfl rfl (Nat.le_of_ble_eq_true rfl) dX3_removeRow_68 (fun H locs hP hD hS => ?_)
        have hP : va_P (dC, dI) vwCl [(h0, .inr (3, [.ref h1, .int mr, .int wd, .int (r - 1)])), (h1, .inl (cI, nn, .inl f_17))] H := hP
        have hD : va_D A [(h0, .inr (3, [.ref h1, .int mr, .int wd, .int (r - 1)])), (h1, .inl (cI, nn, .inl f_17))] := hD
        have e9 : rr = ((r - 1), f_17) := eF.trans (by rw [f_X3_removeRow_j17, if_pos cL17])
        exact W.vret hx hb hr (fun t ht hW => ⟨⟨(), rfl, trivial, (by rw [e9]; show va_P _ _ _ t.heap; rw [ht]; exact hP)⟩, hS.F ht⟩) hS.2.2 dX3_removeRow_71
      · refine lv_iconst (v := 0) hx hb dX3_removeRow_25 (by decide) ?_
        refine lv_istore_n (lv' := [(3, .int 0), (0, .ref h0), (2, .int x2_17)]) hx hb dX3_removeRow_26 rfl hl (by decide) rfl (fun ls hl => ?_)
        exact hJ27 (((wd).toInt - ((0 : Int32)).toInt).toNat + 1) 0 f_17 (Nat.lt_succ_self _) (by decide) cL17 (eF.trans (by rw [f_X3_removeRow_j17, if_neg cL17])) _ _ hP hD hS ls (lv_sub hl [1, 2, 0] rfl)
  refine lv_iload_n hx hb dX3_removeRow_0 rfl (lv_at hl 1 rfl) ?_
  refine lv_if_lt (tgt := 12) hx hb dX3_removeRow_1 (by decide) (fun c_3 => ?_) (fun c_3 => ?_)
  · have e9 : rr = (r, f) := eF.trans (by rw [f_X3_removeRow, if_pos c_3])
    exact W.vret hx hb hr (fun t ht hW => ⟨⟨(), rfl, trivial, (by rw [e9]; show va_P _ _ _ t.heap; rw [ht]; exact hP)⟩, hS.F ht⟩) hS.2.2 dX3_removeRow_12
  · refine lv_iload_n hx hb dX3_removeRow_4 rfl (lv_at hl 1 rfl) ?_
    refine lv_aload_n hx hb dX3_removeRow_5 rfl (lv_at hl 0 rfl) ?_
    refine va_get (D := (dC, dI)) (ci := 3) (v := .int r) (C := RX3) (T := TX3) (N := 4) hx hb hts iwsX30 hown hK hP 0 rfl rfl 3 (by decide) kw1 (fun _ h9 => h9) rfl dX3_removeRow_6 ?_
    refine lv_icmp_lt (tgt := 13) hx hb dX3_removeRow_9 (by decide) (fun c_4 => ?_) (fun c_4 => ?_)
    · refine lv_iload_n hx hb dX3_removeRow_13 rfl (lv_at hl 1 rfl) ?_
      refine lv_iconst (v := 1) hx hb dX3_removeRow_14 (by decide) ?_
      refine lv_iadd hx hb dX3_removeRow_15 ?_
      refine lv_istore_n (lv' := [(2, .int (p1 + 1)), (0, .ref h0), (1, .int p1)]) hx hb dX3_removeRow_16 rfl hl (by decide) rfl (fun ls hl => ?_)
      exact hJ17 (((r).toInt - ((p1 + 1)).toInt).toNat + 1) (p1 + 1) f (Nat.lt_succ_self _) (eF.trans (by rw [f_X3_removeRow, if_neg c_3, if_pos c_4])) _ _ hP hD hS ls (lv_sub hl [1, 0] rfl)
    · have e9 : rr = (r, f) := eF.trans (by rw [f_X3_removeRow, if_neg c_3, if_neg c_4])
      exact W.vret hx hb hr (fun t ht hW => ⟨⟨(), rfl, trivial, (by rw [e9]; show va_P _ _ _ t.heap; rw [ht]; exact hP)⟩, hS.F ht⟩) hS.2.2 dX3_removeRow_12
