def f_X4_isFull (ln : Int32) : Bool :=
  if ln < 60 then
    false
  else
    true
theorem yd_X4_isFull : yX4_isFull.cls = RX4 ∧ yX4_isFull.cls ≠ "java/lang/invoke/MethodHandle" ∧ yX4_isFull.cls ≠ "java/lang/invoke/VarHandle" ∧ (parseMethodDescriptor yX4_isFull.desc).map (fun d => d.parameters.length) = some 0 := by decide +kernel
set_option maxHeartbeats 4000000 in
set_option maxRecDepth 100000 in
theorem c_X4_isFull (l : Launch) (dC : Nat → ClassId) (dI : Nat → Nat → Nat) (cI cB : ClassId) (h0 h1 : Nat) (ln : Int32) (tx : Nat → Int32) : Met l yX4_isFull wsX4_isFull ({ frames := 0, cells := 0, slots := 0, locals := 0 }) (vm_pre [.ref h0] (dC, dI) [(h0, .inr (4, [.ref h1, .int ln])), (h1, .inl (cI, 60, .inl tx))] cI cB) (vp_Si (fun r9 : Int32 => r9 = vm_bi (f_X4_isFull ln))) 0 0 (fun _ => False) := by
  refine Met.ofW (cc := cX4_isFull) (maxL := 1) (ret := (some .boolean)) (by decide) rfl ?_
  intro p e s m args below meth c s₁ B hml hv
  obtain ⟨rfl, hP, hK, hN⟩ := hv
  have hx := B.exec
  have hb := B.bytes
  have hr := B.returns
  have hts := atoms_spec (ws := wsX4_isFull) B.pre
  have hown : s.vm.findClass RX4 = some m.cls := findClass_of_methodNamed B.named
  have hlocks := B.notSynchronized
  have kw1 := hts (.fieldLink RX4 15 "LapseMandates$Text" "length" "I") (List.mem_of_getElem? (i := 1) rfl)
  have kw2 := hts (.fieldLink RX4 9 "LapseMandates$Text" "codes" "[I") (List.mem_of_getElem? (i := 2) rfl)
  have iwsX40 : ∀ w ∈ wsX40, w ∈ wsX4_isFull := fun w h => List.mem_cons_of_mem _ (List.mem_append_right _ h)
  generalize hrr : f_X4_isFull ln = rr
  have eF := hrr.symm
  have hl := lv_entry ([.ref h0]) (n := 1) (Nat.le_of_ble_eq_true rfl)
  rw [lg_entry_eq]
  generalize (lg_sl ([.ref h0]) ++ List.replicate (1 - (lg_sl ([.ref h0])).length) Slot.unset).toArray = ls at hl ⊢
  have hl : lv_has ls 1 [(0, .ref h0)] := hl
  refine lv_aload_n hx hb dX4_isFull_0 rfl (lv_at hl 0 rfl) ?_
  refine va_get (D := (dC, dI)) (ci := 4) (v := .int ln) (C := RX4) (T := TX4) (N := 2) hx hb hts iwsX40 hown hK hP 0 rfl rfl 1 (by decide) kw1 (fun _ h9 => h9) rfl dX4_isFull_1 ?_
  refine lv_aload_n hx hb dX4_isFull_4 rfl (lv_at hl 0 rfl) ?_
  refine va_get (D := (dC, dI)) (ci := 4) (v := .ref h1) (C := RX4) (T := TX4) (N := 2) hx hb hts iwsX40 hown hK hP 0 rfl rfl 0 (by decide) kw2 (fun _ h9 => h9) rfl dX4_isFull_5 ?_
  refine va_alen hx hb hK hP 1 0 rfl rfl (v := 60) rfl dX4_isFull_8 ?_
  refine lv_icmp_lt (tgt := 16) hx hb dX4_isFull_9 (by decide) (fun c_1 => ?_) (fun c_1 => ?_)
  · refine lv_iconst (v := 0) hx hb dX4_isFull_16 (by decide) ?_
    have e9 : rr = false := eF.trans (by rw [f_X4_isFull, if_pos c_1])
    exact W.zret (v := 0) hx hb hr rfl (fun t ht hW => ⟨_, rfl, by rw [e9] <;> rfl, ht⟩) (fun _ hq => by cases hq) dX4_isFull_17
  · refine lv_iconst (v := 1) hx hb dX4_isFull_12 (by decide) ?_
    refine lv_goto (tgt := 17) hx hb dX4_isFull_13 (by decide) ?_
    have e9 : rr = true := eF.trans (by rw [f_X4_isFull, if_neg c_1])
    exact W.zret (v := 1) hx hb hr rfl (fun t ht hW => ⟨_, rfl, by rw [e9] <;> rfl, ht⟩) (fun _ hq => by cases hq) dX4_isFull_17

def f_X4_add_j39 (ln_39 : Int32) (tx_39 : Nat → Int32) : Int32 × Int32 × (Nat → Int32) :=
  (ln_39, ln_39, tx_39)
def f_X4_add (ln : Int32) (tx : Nat → Int32) (p1 : Int32) : Int32 × Int32 × (Nat → Int32) :=
  if ln < 0 then
    f_X4_add_j39 ln tx
  else
    if 60 ≤ ln then
      f_X4_add_j39 ln tx
    else
      f_X4_add_j39 (ln + 1) (upd tx (Int32.toNatClampNeg ln) p1)
theorem yd_X4_add : yX4_add.cls = RX4 ∧ yX4_add.cls ≠ "java/lang/invoke/MethodHandle" ∧ yX4_add.cls ≠ "java/lang/invoke/VarHandle" ∧ (parseMethodDescriptor yX4_add.desc).map (fun d => d.parameters.length) = some 1 := by decide +kernel
set_option maxHeartbeats 4000000 in
set_option maxRecDepth 100000 in
theorem c_X4_add (l : Launch) (dC : Nat → ClassId) (dI : Nat → Nat → Nat) (cI cB : ClassId) (h0 h1 : Nat) (sz : Nat) (ln : Int32) (tx : Nat → Int32) (p1 : Int32) : Met l yX4_add wsX4_add ({ frames := 0, cells := 0, slots := 0, locals := 0 }) (vm_prw [.ref h0, .int p1] (dC, dI) [(h0, .inr (4, [.ref h1, .int ln])), (h1, .inl (cI, 60, .inl tx))] cI cB sz) (va_Qi (fun (r9 : Int32) (_ : Unit) => r9 = (f_X4_add ln tx p1).1) (fun _ t => va_P (dC, dI) vwCl [(h0, .inr (4, [.ref h1, .int ((f_X4_add ln tx p1).2.1)])), (h1, .inl (cI, 60, .inl ((f_X4_add ln tx p1).2.2)))] t.heap) (va_A [(h0, .inr (4, [.ref h1, .int ln])), (h1, .inl (cI, 60, .inl tx))] sz)) 0 0 (va_A [(h0, .inr (4, [.ref h1, .int ln])), (h1, .inl (cI, 60, .inl tx))] sz) := by
  refine Met.ofW (cc := cX4_add) (maxL := 2) (ret := (some .int)) (by decide) rfl ?_
  intro p e s m args below meth c s₁ B hml hv
  obtain ⟨rfl, hsz, hP, hK, hN, hD0⟩ := hv
  have hx := B.exec
  have hb := B.bytes
  have hr := B.returns
  have hts := atoms_spec (ws := wsX4_add) B.pre
  have hown : s.vm.findClass RX4 = some m.cls := findClass_of_methodNamed B.named
  have hlocks := B.notSynchronized
  subst hsz
  have hD := hD0.self (sz := s.heap.size)
  generalize hAe : va_A [(h0, .inr (4, [.ref h1, .int ln])), (h1, .inl (cI, 60, .inl tx))] s.heap.size = A at hD ⊢
  have hA : ∀ q : Nat, s.heap.size ≤ q → A q := fun q h => by rw [← hAe]; exact Or.inr h
  have hS : va_S A s.heap s.heap [] := va_S.rf
  have hP : va_P (dC, dI) vwCl [(h0, .inr (4, [.ref h1, .int ln])), (h1, .inl (cI, 60, .inl tx))] s.heap := hP
  have kw1 := hts (.fieldLink RX4 15 "LapseMandates$Text" "length" "I") (List.mem_of_getElem? (i := 1) rfl)
  have kw2 := hts (.fieldLink RX4 9 "LapseMandates$Text" "codes" "[I") (List.mem_of_getElem? (i := 2) rfl)
  have iwsX40 : ∀ w ∈ wsX40, w ∈ wsX4_add := fun w h => List.mem_cons_of_mem _ (List.mem_append_right _ h)
  generalize hrr : f_X4_add ln tx p1 = rr
  have eF := hrr.symm
  have hl := lv_entry ([.ref h0, .int p1]) (n := 2) (Nat.le_of_ble_eq_true rfl)
  rw [lg_entry_eq]
  generalize (lg_sl ([.ref h0, .int p1]) ++ List.replicate (2 - (lg_sl ([.ref h0, .int p1])).length) Slot.unset).toArray = ls at hl ⊢
  have hl : lv_has ls 2 [(0, .ref h0), (1, .int p1)] := hl
  have hJ39 : ∀ (ln_39 : Int32) (tx_39 : Nat → Int32), rr = f_X4_add_j39 ln_39 tx_39 → ∀ (H : Heap) (locs : List Loc), va_P (dC, dI) vwCl [(h0, .inr (4, [.ref h1, .int ln_39])), (h1, .inl (cI, 60, .inl tx_39))] H → va_D A [(h0, .inr (4, [.ref h1, .int ln_39])), (h1, .inl (cI, 60, .inl tx_39))] → va_S A s.heap H locs → ∀ (ls : Array Slot), lv_has ls 2 [(0, .ref h0)] → W p l e (headSpec wsX4_add ({ frames := 0, cells := 0, slots := 0, locals := 0 })).room s m ([.ref h0, .int p1] : List Value).toArray below meth c H locs 0 0 (MQ below (va_Qi (fun (r9 : Int32) (_ : Unit) => r9 = rr.1) (fun _ t => va_P (dC, dI) vwCl [(h0, .inr (4, [.ref h1, .int rr.2.1])), (h1, .inl (cI, 60, .inl rr.2.2))] t.heap) A) ([.ref h0, .int p1] : List Value).toArray s 0 0 A) (F0 m 39 ls []) := by
    intro ln_39 tx_39 eF H locs hP hD hS ls hl
    refine lv_aload_n hx hb dX4_add_39 rfl (lv_at hl 0 rfl) ?_
    refine va_get (D := (dC, dI)) (ci := 4) (v := .int ln_39) (C := RX4) (T := TX4) (N := 2) hx hb hts iwsX40 hown hK hP 0 rfl rfl 1 (by decide) kw1 (fun _ h9 => h9) rfl dX4_add_40 ?_
    have e9 : rr = (ln_39, ln_39, tx_39) := eF.trans (by rw [f_X4_add_j39])
    exact W.iret (v := ln_39) hx hb hr (fun t ht hW => ⟨⟨_, (), rfl, by rw [e9], (by rw [e9]; show va_P _ _ _ t.heap; rw [ht]; exact hP)⟩, hS.F ht⟩) hS.2.2 dX4_add_43
  refine lv_aload_n hx hb dX4_add_0 rfl (lv_at hl 0 rfl) ?_
  refine va_get (D := (dC, dI)) (ci := 4) (v := .int ln) (C := RX4) (T := TX4) (N := 2) hx hb hts iwsX40 hown hK hP 0 rfl rfl 1 (by decide) kw1 (fun _ h9 => h9) rfl dX4_add_1 ?_
  refine lv_if_lt (tgt := 39) hx hb dX4_add_4 (by decide) (fun c_1 => ?_) (fun c_1 => ?_)
  · exact hJ39 ln tx (eF.trans (by rw [f_X4_add, if_pos c_1])) _ _ hP hD hS ls (lv_sub hl [0] rfl)
  · refine lv_aload_n hx hb dX4_add_7 rfl (lv_at hl 0 rfl) ?_
    refine va_get (D := (dC, dI)) (ci := 4) (v := .int ln) (C := RX4) (T := TX4) (N := 2) hx hb hts iwsX40 hown hK hP 0 rfl rfl 1 (by decide) kw1 (fun _ h9 => h9) rfl dX4_add_8 ?_
    refine lv_aload_n hx hb dX4_add_11 rfl (lv_at hl 0 rfl) ?_
    refine va_get (D := (dC, dI)) (ci := 4) (v := .ref h1) (C := RX4) (T := TX4) (N := 2) hx hb hts iwsX40 hown hK hP 0 rfl rfl 0 (by decide) kw2 (fun _ h9 => h9) rfl dX4_add_12 ?_
    refine va_alen hx hb hK hP 1 0 rfl rfl (v := 60) rfl dX4_add_15 ?_
    refine lv_icmp_ge (tgt := 39) hx hb dX4_add_16 (by decide) (fun c_2 => ?_) (fun c_2 => ?_)
    · exact hJ39 ln tx (eF.trans (by rw [f_X4_add, if_neg c_1, if_pos c_2])) _ _ hP hD hS ls (lv_sub hl [0] rfl)
    · refine lv_aload_n hx hb dX4_add_19 rfl (lv_at hl 0 rfl) ?_
      refine va_get (D := (dC, dI)) (ci := 4) (v := .ref h1) (C := RX4) (T := TX4) (N := 2) hx hb hts iwsX40 hown hK hP 0 rfl rfl 0 (by decide) kw2 (fun _ h9 => h9) rfl dX4_add_20 ?_
      refine lv_aload_n hx hb dX4_add_23 rfl (lv_at hl 0 rfl) ?_
      refine va_get (D := (dC, dI)) (ci := 4) (v := .int ln) (C := RX4) (T := TX4) (N := 2) hx hb hts iwsX40 hown hK hP 0 rfl rfl 1 (by decide) kw1 (fun _ h9 => h9) rfl dX4_add_24 ?_
      refine lv_iload_n hx hb dX4_add_27 rfl (lv_at hl 1 rfl) ?_
      refine va_iast hx hb hK hP hD hS 1 0 rfl rfl (vm_in (vm_nlt c_1) (vm_nle c_2) (by decide)) dX4_add_28 (fun H locs hP hD hS => ?_)
      have hP : va_P (dC, dI) vwCl [(h0, .inr (4, [.ref h1, .int ln])), (h1, .inl (cI, 60, .inl (upd tx (Int32.toNatClampNeg ln) p1)))] H := hP
      have hD : va_D A [(h0, .inr (4, [.ref h1, .int ln])), (h1, .inl (cI, 60, .inl (upd tx (Int32.toNatClampNeg ln) p1)))] := hD
      refine lv_aload_n hx hb dX4_add_29 rfl (lv_at hl 0 rfl) ?_
      refine lv_dup hx hb dX4_add_30 rfl ?_
      refine va_get (D := (dC, dI)) (ci := 4) (v := .int ln) (C := RX4) (T := TX4) (N := 2) hx hb hts iwsX40 hown hK hP 0 rfl rfl 1 (by decide) kw1 (fun _ h9 => h9) rfl dX4_add_31 ?_
      refine lv_iconst (v := 1) hx hb dX4_add_34 (by decide) ?_
      refine lv_iadd hx hb dX4_add_35 ?_
      refine va_put (D := (dC, dI)) (ci := 4) (v := .int (ln + 1)) (ty := .int) (C := RX4) (T := TX4) (N := 2) hx hb hts iwsX40 tyX4 tyX4_ok nmX4 hown hK hP hD hS 0 rfl rfl 1 (by decide) kw1 (fun _ h9 => h9) rfl (by decide +kernel) rfl rfl (Nat.le_of_ble_eq_true rfl) dX4_add_36 (fun H locs hP hD hS => ?_)
      have hP : va_P (dC, dI) vwCl [(h0, .inr (4, [.ref h1, .int (ln + 1)])), (h1, .inl (cI, 60, .inl (upd tx (Int32.toNatClampNeg ln) p1)))] H := hP
      have hD : va_D A [(h0, .inr (4, [.ref h1, .int (ln + 1)])), (h1, .inl (cI, 60, .inl (upd tx (Int32.toNatClampNeg ln) p1)))] := hD
      exact hJ39 (ln + 1) (upd tx (Int32.toNatClampNeg ln) p1) (eF.trans (by rw [f_X4_add, if_neg c_1, if_neg c_2])) _ _ hP hD hS ls (lv_sub hl [0] rfl)

def f_X4_empty (ln : Int32) : Int32 × Int32 :=
  (ln, 0)
theorem yd_X4_empty : yX4_empty.cls = RX4 ∧ yX4_empty.cls ≠ "java/lang/invoke/MethodHandle" ∧ yX4_empty.cls ≠ "java/lang/invoke/VarHandle" ∧ (parseMethodDescriptor yX4_empty.desc).map (fun d => d.parameters.length) = some 0 := by decide +kernel
set_option maxHeartbeats 4000000 in
set_option maxRecDepth 100000 in
theorem c_X4_empty (l : Launch) (dC : Nat → ClassId) (dI : Nat → Nat → Nat) (cI cB : ClassId) (h0 h1 : Nat) (sz : Nat) (ln : Int32) (tx : Nat → Int32) : Met l yX4_empty wsX4_empty ({ frames := 0, cells := 0, slots := 0, locals := 0 }) (vm_prw [.ref h0] (dC, dI) [(h0, .inr (4, [.ref h1, .int ln])), (h1, .inl (cI, 60, .inl tx))] cI cB sz) (va_Qi (fun (r9 : Int32) (_ : Unit) => r9 = (f_X4_empty ln).1) (fun _ t => va_P (dC, dI) vwCl [(h0, .inr (4, [.ref h1, .int ((f_X4_empty ln).2)])), (h1, .inl (cI, 60, .inl tx))] t.heap) (va_A [(h0, .inr (4, [.ref h1, .int ln])), (h1, .inl (cI, 60, .inl tx))] sz)) 0 0 (va_A [(h0, .inr (4, [.ref h1, .int ln])), (h1, .inl (cI, 60, .inl tx))] sz) := by
  refine Met.ofW (cc := cX4_empty) (maxL := 2) (ret := (some .int)) (by decide) rfl ?_
  intro p e s m args below meth c s₁ B hml hv
  obtain ⟨rfl, hsz, hP, hK, hN, hD0⟩ := hv
  have hx := B.exec
  have hb := B.bytes
  have hr := B.returns
  have hts := atoms_spec (ws := wsX4_empty) B.pre
  have hown : s.vm.findClass RX4 = some m.cls := findClass_of_methodNamed B.named
  have hlocks := B.notSynchronized
  subst hsz
  have hD := hD0.self (sz := s.heap.size)
  generalize hAe : va_A [(h0, .inr (4, [.ref h1, .int ln])), (h1, .inl (cI, 60, .inl tx))] s.heap.size = A at hD ⊢
  have hA : ∀ q : Nat, s.heap.size ≤ q → A q := fun q h => by rw [← hAe]; exact Or.inr h
  have hS : va_S A s.heap s.heap [] := va_S.rf
  have hP : va_P (dC, dI) vwCl [(h0, .inr (4, [.ref h1, .int ln])), (h1, .inl (cI, 60, .inl tx))] s.heap := hP
  have kw1 := hts (.fieldLink RX4 15 "LapseMandates$Text" "length" "I") (List.mem_of_getElem? (i := 1) rfl)
  have iwsX40 : ∀ w ∈ wsX40, w ∈ wsX4_empty := fun w h => List.mem_cons_of_mem _ (List.mem_append_right _ h)
  generalize hrr : f_X4_empty ln = rr
  have eF := hrr.symm
  have hl := lv_entry ([.ref h0]) (n := 2) (Nat.le_of_ble_eq_true rfl)
  rw [lg_entry_eq]
  generalize (lg_sl ([.ref h0]) ++ List.replicate (2 - (lg_sl ([.ref h0])).length) Slot.unset).toArray = ls at hl ⊢
  have hl : lv_has ls 2 [(0, .ref h0)] := hl
  refine lv_aload_n hx hb dX4_empty_0 rfl (lv_at hl 0 rfl) ?_
  refine va_get (D := (dC, dI)) (ci := 4) (v := .int ln) (C := RX4) (T := TX4) (N := 2) hx hb hts iwsX40 hown hK hP 0 rfl rfl 1 (by decide) kw1 (fun _ h9 => h9) rfl dX4_empty_1 ?_
  refine lv_istore_n (lv' := [(1, .int ln), (0, .ref h0)]) hx hb dX4_empty_4 rfl hl (by decide) rfl (fun ls hl => ?_)
  refine lv_aload_n hx hb dX4_empty_5 rfl (lv_at hl 1 rfl) ?_
  refine lv_iconst (v := 0) hx hb dX4_empty_6 (by decide) ?_
  refine va_put (D := (dC, dI)) (ci := 4) (v := .int 0) (ty := .int) (C := RX4) (T := TX4) (N := 2) hx hb hts iwsX40 tyX4 tyX4_ok nmX4 hown hK hP hD hS 0 rfl rfl 1 (by decide) kw1 (fun _ h9 => h9) rfl (by decide +kernel) rfl rfl (Nat.le_of_ble_eq_true rfl) dX4_empty_7 (fun H locs hP hD hS => ?_)
  have hP : va_P (dC, dI) vwCl [(h0, .inr (4, [.ref h1, .int 0])), (h1, .inl (cI, 60, .inl tx))] H := hP
  have hD : va_D A [(h0, .inr (4, [.ref h1, .int 0])), (h1, .inl (cI, 60, .inl tx))] := hD
  refine lv_iload_n hx hb dX4_empty_10 rfl (lv_at hl 0 rfl) ?_
  have e9 : rr = (ln, 0) := eF.trans (by rw [f_X4_empty])
  exact W.iret (v := ln) hx hb hr (fun t ht hW => ⟨⟨_, (), rfl, by rw [e9], (by rw [e9]; show va_P _ _ _ t.heap; rw [ht]; exact hP)⟩, hS.F ht⟩) hS.2.2 dX4_empty_11

def f_X4_codeAt (ln : Int32) (tx : Nat → Int32) (p1 : Int32) : Int32 :=
  if p1 < 0 then
    0
  else
    if ln ≤ p1 then
      0
    else
      if 60 ≤ p1 then
        0
      else
        (tx (Int32.toNatClampNeg p1))
theorem yd_X4_codeAt : yX4_codeAt.cls = RX4 ∧ yX4_codeAt.cls ≠ "java/lang/invoke/MethodHandle" ∧ yX4_codeAt.cls ≠ "java/lang/invoke/VarHandle" ∧ (parseMethodDescriptor yX4_codeAt.desc).map (fun d => d.parameters.length) = some 1 := by decide +kernel
set_option maxHeartbeats 4000000 in
set_option maxRecDepth 100000 in
theorem c_X4_codeAt (l : Launch) (dC : Nat → ClassId) (dI : Nat → Nat → Nat) (cI cB : ClassId) (h0 h1 : Nat) (ln : Int32) (tx : Nat → Int32) (p1 : Int32) : Met l yX4_codeAt wsX4_codeAt ({ frames := 0, cells := 0, slots := 0, locals := 0 }) (vm_pre [.ref h0, .int p1] (dC, dI) [(h0, .inr (4, [.ref h1, .int ln])), (h1, .inl (cI, 60, .inl tx))] cI cB) (vp_Si (fun r9 : Int32 => r9 = (f_X4_codeAt ln tx p1))) 0 0 (fun _ => False) := by
  refine Met.ofW (cc := cX4_codeAt) (maxL := 2) (ret := (some .int)) (by decide) rfl ?_
  intro p e s m args below meth c s₁ B hml hv
  obtain ⟨rfl, hP, hK, hN⟩ := hv
  have hx := B.exec
  have hb := B.bytes
  have hr := B.returns
  have hts := atoms_spec (ws := wsX4_codeAt) B.pre
  have hown : s.vm.findClass RX4 = some m.cls := findClass_of_methodNamed B.named
  have hlocks := B.notSynchronized
  have kw1 := hts (.fieldLink RX4 15 "LapseMandates$Text" "length" "I") (List.mem_of_getElem? (i := 1) rfl)
  have kw2 := hts (.fieldLink RX4 9 "LapseMandates$Text" "codes" "[I") (List.mem_of_getElem? (i := 2) rfl)
  have iwsX40 : ∀ w ∈ wsX40, w ∈ wsX4_codeAt := fun w h => List.mem_cons_of_mem _ (List.mem_append_right _ h)
  generalize hrr : f_X4_codeAt ln tx p1 = rr
  have eF := hrr.symm
  have hl := lv_entry ([.ref h0, .int p1]) (n := 2) (Nat.le_of_ble_eq_true rfl)
  rw [lg_entry_eq]
  generalize (lg_sl ([.ref h0, .int p1]) ++ List.replicate (2 - (lg_sl ([.ref h0, .int p1])).length) Slot.unset).toArray = ls at hl ⊢
  have hl : lv_has ls 2 [(0, .ref h0), (1, .int p1)] := hl
  refine lv_iload_n hx hb dX4_codeAt_0 rfl (lv_at hl 1 rfl) ?_
  refine lv_if_lt (tgt := 30) hx hb dX4_codeAt_1 (by decide) (fun c_1 => ?_) (fun c_1 => ?_)
  · refine lv_iconst (v := 0) hx hb dX4_codeAt_30 (by decide) ?_
    have e9 : rr = 0 := eF.trans (by rw [f_X4_codeAt, if_pos c_1])
    exact W.iret (v := 0) hx hb hr (fun t ht hW => ⟨_, rfl, e9.symm, ht⟩) (fun _ hq => by cases hq) dX4_codeAt_31
  · refine lv_iload_n hx hb dX4_codeAt_4 rfl (lv_at hl 1 rfl) ?_
    refine lv_aload_n hx hb dX4_codeAt_5 rfl (lv_at hl 0 rfl) ?_
    refine va_get (D := (dC, dI)) (ci := 4) (v := .int ln) (C := RX4) (T := TX4) (N := 2) hx hb hts iwsX40 hown hK hP 0 rfl rfl 1 (by decide) kw1 (fun _ h9 => h9) rfl dX4_codeAt_6 ?_
    refine lv_icmp_ge (tgt := 30) hx hb dX4_codeAt_9 (by decide) (fun c_2 => ?_) (fun c_2 => ?_)
    · refine lv_iconst (v := 0) hx hb dX4_codeAt_30 (by decide) ?_
      have e9 : rr = 0 := eF.trans (by rw [f_X4_codeAt, if_neg c_1, if_pos c_2])
      exact W.iret (v := 0) hx hb hr (fun t ht hW => ⟨_, rfl, e9.symm, ht⟩) (fun _ hq => by cases hq) dX4_codeAt_31
    · refine lv_iload_n hx hb dX4_codeAt_12 rfl (lv_at hl 1 rfl) ?_
      refine lv_aload_n hx hb dX4_codeAt_13 rfl (lv_at hl 0 rfl) ?_
      refine va_get (D := (dC, dI)) (ci := 4) (v := .ref h1) (C := RX4) (T := TX4) (N := 2) hx hb hts iwsX40 hown hK hP 0 rfl rfl 0 (by decide) kw2 (fun _ h9 => h9) rfl dX4_codeAt_14 ?_
      refine va_alen hx hb hK hP 1 0 rfl rfl (v := 60) rfl dX4_codeAt_17 ?_
      refine lv_icmp_ge (tgt := 30) hx hb dX4_codeAt_18 (by decide) (fun c_3 => ?_) (fun c_3 => ?_)
      · refine lv_iconst (v := 0) hx hb dX4_codeAt_30 (by decide) ?_
        have e9 : rr = 0 := eF.trans (by rw [f_X4_codeAt, if_neg c_1, if_neg c_2, if_pos c_3])
        exact W.iret (v := 0) hx hb hr (fun t ht hW => ⟨_, rfl, e9.symm, ht⟩) (fun _ hq => by cases hq) dX4_codeAt_31
      · refine lv_aload_n hx hb dX4_codeAt_21 rfl (lv_at hl 0 rfl) ?_
        refine va_get (D := (dC, dI)) (ci := 4) (v := .ref h1) (C := RX4) (T := TX4) (N := 2) hx hb hts iwsX40 hown hK hP 0 rfl rfl 0 (by decide) kw2 (fun _ h9 => h9) rfl dX4_codeAt_22 ?_
        refine lv_iload_n hx hb dX4_codeAt_25 rfl (lv_at hl 1 rfl) ?_
        refine va_iald hx hb hK hP 1 0 rfl rfl (vm_in (vm_nlt c_1) (vm_nle c_3) (by decide)) dX4_codeAt_26 ?_
        refine lv_goto (tgt := 31) hx hb dX4_codeAt_27 (by decide) ?_
        have e9 : rr = (tx (Int32.toNatClampNeg p1)) := eF.trans (by rw [f_X4_codeAt, if_neg c_1, if_neg c_2, if_neg c_3])
        exact W.iret (v := (tx (Int32.toNatClampNeg p1))) hx hb hr (fun t ht hW => ⟨_, rfl, e9.symm, ht⟩) (fun _ hq => by cases hq) dX4_codeAt_31

def f_X4_isDigit (p1 : Int32) : Bool :=
  if p1 < 48 then
    false
  else
    if 57 < p1 then
      false
    else
      true
theorem yd_X4_isDigit : yX4_isDigit.cls ≠ "java/lang/invoke/MethodHandle" ∧ yX4_isDigit.cls ≠ "java/lang/invoke/VarHandle" ∧ (parseMethodDescriptor yX4_isDigit.desc).map (fun d => d.parameters.length) = some 1 := by decide +kernel
set_option maxHeartbeats 4000000 in
set_option maxRecDepth 100000 in
theorem c_X4_isDigit (l : Launch) (dC : Nat → ClassId) (dI : Nat → Nat → Nat) (cI cB : ClassId) (p1 : Int32) : Met l yX4_isDigit wsX4_isDigit ({ frames := 0, cells := 0, slots := 0, locals := 0 }) (vm_pre [.int p1] (dC, dI) [] cI cB) (vp_Si (fun r9 : Int32 => r9 = vm_bi (f_X4_isDigit p1))) 0 0 (fun _ => False) := by
  refine Met.ofW (cc := cX4_isDigit) (maxL := 1) (ret := (some .boolean)) (by decide) rfl ?_
  intro p e s m args below meth c s₁ B hml hv
  obtain ⟨rfl, hP, hK, hN⟩ := hv
  have hx := B.exec
  have hb := B.bytes
  have hr := B.returns
  have hts := atoms_spec (ws := wsX4_isDigit) B.pre
  have hown : s.vm.findClass RX4 = some m.cls := findClass_of_methodNamed B.named
  have hlocks := B.notSynchronized
  generalize hrr : f_X4_isDigit p1 = rr
  have eF := hrr.symm
  have hl := lv_entry ([.int p1]) (n := 1) (Nat.le_of_ble_eq_true rfl)
  rw [lg_entry_eq]
  generalize (lg_sl ([.int p1]) ++ List.replicate (1 - (lg_sl ([.int p1])).length) Slot.unset).toArray = ls at hl ⊢
  have hl : lv_has ls 1 [(0, .int p1)] := hl
  refine lv_iload_n hx hb dX4_isDigit_0 rfl (lv_at hl 0 rfl) ?_
  refine lv_bipush (v := 48) hx hb dX4_isDigit_1 (by decide) ?_
  refine lv_icmp_lt (tgt := 16) hx hb dX4_isDigit_3 (by decide) (fun c_1 => ?_) (fun c_1 => ?_)
  · refine lv_iconst (v := 0) hx hb dX4_isDigit_16 (by decide) ?_
    have e9 : rr = false := eF.trans (by rw [f_X4_isDigit, if_pos c_1])
    exact W.zret (v := 0) hx hb hr rfl (fun t ht hW => ⟨_, rfl, by rw [e9] <;> rfl, ht⟩) (fun _ hq => by cases hq) dX4_isDigit_17
  · refine lv_iload_n hx hb dX4_isDigit_6 rfl (lv_at hl 0 rfl) ?_
    refine lv_bipush (v := 57) hx hb dX4_isDigit_7 (by decide) ?_
    refine lv_icmp_gt (tgt := 16) hx hb dX4_isDigit_9 (by decide) (fun c_2 => ?_) (fun c_2 => ?_)
    · refine lv_iconst (v := 0) hx hb dX4_isDigit_16 (by decide) ?_
      have e9 : rr = false := eF.trans (by rw [f_X4_isDigit, if_neg c_1, if_pos c_2])
      exact W.zret (v := 0) hx hb hr rfl (fun t ht hW => ⟨_, rfl, by rw [e9] <;> rfl, ht⟩) (fun _ hq => by cases hq) dX4_isDigit_17
    · refine lv_iconst (v := 1) hx hb dX4_isDigit_12 (by decide) ?_
      refine lv_goto (tgt := 17) hx hb dX4_isDigit_13 (by decide) ?_
      have e9 : rr = true := eF.trans (by rw [f_X4_isDigit, if_neg c_1, if_neg c_2])
      exact W.zret (v := 1) hx hb hr rfl (fun t ht hW => ⟨_, rfl, by rw [e9] <;> rfl, ht⟩) (fun _ hq => by cases hq) dX4_isDigit_17

def f_X4_stateAfterMandate (p1 : Int32) : Int32 :=
  if p1 = 58 then
    4
  else
    (-1)
theorem yd_X4_stateAfterMandate : yX4_stateAfterMandate.cls ≠ "java/lang/invoke/MethodHandle" ∧ yX4_stateAfterMandate.cls ≠ "java/lang/invoke/VarHandle" ∧ (parseMethodDescriptor yX4_stateAfterMandate.desc).map (fun d => d.parameters.length) = some 1 := by decide +kernel
set_option maxHeartbeats 4000000 in
set_option maxRecDepth 100000 in
theorem c_X4_stateAfterMandate (l : Launch) (dC : Nat → ClassId) (dI : Nat → Nat → Nat) (cI cB : ClassId) (p1 : Int32) : Met l yX4_stateAfterMandate wsX4_stateAfterMandate ({ frames := 0, cells := 0, slots := 0, locals := 0 }) (vm_pre [.int p1] (dC, dI) [] cI cB) (vp_Si (fun r9 : Int32 => r9 = (f_X4_stateAfterMandate p1))) 0 0 (fun _ => False) := by
  refine Met.ofW (cc := cX4_stateAfterMandate) (maxL := 1) (ret := (some .int)) (by decide) rfl ?_
  intro p e s m args below meth c s₁ B hml hv
  obtain ⟨rfl, hP, hK, hN⟩ := hv
  have hx := B.exec
  have hb := B.bytes
  have hr := B.returns
  have hts := atoms_spec (ws := wsX4_stateAfterMandate) B.pre
  have hown : s.vm.findClass RX4 = some m.cls := findClass_of_methodNamed B.named
  have hlocks := B.notSynchronized
  generalize hrr : f_X4_stateAfterMandate p1 = rr
  have eF := hrr.symm
  have hl := lv_entry ([.int p1]) (n := 1) (Nat.le_of_ble_eq_true rfl)
  rw [lg_entry_eq]
  generalize (lg_sl ([.int p1]) ++ List.replicate (1 - (lg_sl ([.int p1])).length) Slot.unset).toArray = ls at hl ⊢
  have hl : lv_has ls 1 [(0, .int p1)] := hl
  refine lv_iload_n hx hb dX4_stateAfterMandate_0 rfl (lv_at hl 0 rfl) ?_
  refine lv_bipush (v := 58) hx hb dX4_stateAfterMandate_1 (by decide) ?_
  refine lv_icmp_ne (tgt := 10) hx hb dX4_stateAfterMandate_3 (by decide) (fun c_1 => ?_) (fun c_1 => ?_)
  · refine lv_iconst (v := (-1)) hx hb dX4_stateAfterMandate_10 (by decide) ?_
    have e9 : rr = (-1) := eF.trans (by rw [f_X4_stateAfterMandate, if_neg c_1])
    exact W.iret (v := (-1)) hx hb hr (fun t ht hW => ⟨_, rfl, e9.symm, ht⟩) (fun _ hq => by cases hq) dX4_stateAfterMandate_11
  · refine lv_iconst (v := 4) hx hb dX4_stateAfterMandate_6 (by decide) ?_
    refine lv_goto (tgt := 11) hx hb dX4_stateAfterMandate_7 (by decide) ?_
    have e9 : rr = 4 := eF.trans (by rw [f_X4_stateAfterMandate, if_pos c_1])
    exact W.iret (v := 4) hx hb hr (fun t ht hW => ⟨_, rfl, e9.symm, ht⟩) (fun _ hq => by cases hq) dX4_stateAfterMandate_11

def f_X4_stateAfterMandateDigit (p1 : Int32) : Int32 :=
  if p1 = 49 then
    2
  else
    if (vm_bi (f_X4_isDigit p1)) = 0 then
      (-1)
    else
      3
theorem yd_X4_stateAfterMandateDigit : yX4_stateAfterMandateDigit.cls ≠ "java/lang/invoke/MethodHandle" ∧ yX4_stateAfterMandateDigit.cls ≠ "java/lang/invoke/VarHandle" ∧ (parseMethodDescriptor yX4_stateAfterMandateDigit.desc).map (fun d => d.parameters.length) = some 1 := by decide +kernel
set_option maxHeartbeats 4000000 in
set_option maxRecDepth 100000 in
theorem c_X4_stateAfterMandateDigit (l : Launch) (dC : Nat → ClassId) (dI : Nat → Nat → Nat) (cI cB : ClassId) (p1 : Int32) : Met l yX4_stateAfterMandateDigit wsX4_stateAfterMandateDigit ({ frames := 1, cells := 0, slots := 0, locals := 20 }) (vm_pre [.int p1] (dC, dI) [] cI cB) (vp_Si (fun r9 : Int32 => r9 = (f_X4_stateAfterMandateDigit p1))) 0 0 (fun _ => False) := by
  refine Met.ofW (cc := cX4_stateAfterMandateDigit) (maxL := 1) (ret := (some .int)) (by decide) rfl ?_
  intro p e s m args below meth c s₁ B hml hv
  obtain ⟨rfl, hP, hK, hN⟩ := hv
  have hx := B.exec
  have hb := B.bytes
  have hr := B.returns
  have hts := atoms_spec (ws := wsX4_stateAfterMandateDigit) B.pre
  have hown : s.vm.findClass RX4 = some m.cls := findClass_of_methodNamed B.named
  have hlocks := B.notSynchronized
  generalize hrr : f_X4_stateAfterMandateDigit p1 = rr
  have eF := hrr.symm
  have hl := lv_entry ([.int p1]) (n := 1) (Nat.le_of_ble_eq_true rfl)
  rw [lg_entry_eq]
  generalize (lg_sl ([.int p1]) ++ List.replicate (1 - (lg_sl ([.int p1])).length) Slot.unset).toArray = ls at hl ⊢
  have hl : lv_has ls 1 [(0, .int p1)] := hl
  refine lv_iload_n hx hb dX4_stateAfterMandateDigit_0 rfl (lv_at hl 0 rfl) ?_
  refine lv_bipush (v := 49) hx hb dX4_stateAfterMandateDigit_1 (by decide) ?_
  refine lv_icmp_ne (tgt := 8) hx hb dX4_stateAfterMandateDigit_3 (by decide) (fun c_1 => ?_) (fun c_1 => ?_)
  · refine lv_iload_n hx hb dX4_stateAfterMandateDigit_8 rfl (lv_at hl 0 rfl) ?_
    refine vm_roSx (v := vm_bi (f_X4_isDigit p1)) (As := [.int p1]) (rest := []) ⟨hx, hb, hml, hown, hts⟩ hK hN hP hl.1 ⟨Nat.le_of_ble_eq_true rfl, Nat.le_of_ble_eq_true rfl⟩ (c_X4_isDigit l dC dI cI cB p1) (va_cwS 1 hts gX4_stateAfterMandateDigit_X4_isDigit rfl rfl rfl yd_X4_isDigit ⟨Nat.le_of_ble_eq_true rfl, Nat.le_of_ble_eq_true rfl⟩) rfl rfl (Nat.le_of_ble_eq_true rfl) dX4_stateAfterMandateDigit_9 ?_
    refine lv_if_eq (tgt := 19) hx hb dX4_stateAfterMandateDigit_12 (by decide) (fun c_2 => ?_) (fun c_2 => ?_)
    · refine lv_iconst (v := (-1)) hx hb dX4_stateAfterMandateDigit_19 (by decide) ?_
      have e9 : rr = (-1) := eF.trans (by rw [f_X4_stateAfterMandateDigit, if_neg c_1, if_pos c_2])
      exact W.iret (v := (-1)) hx hb hr (fun t ht hW => ⟨_, rfl, e9.symm, ht⟩) (fun _ hq => by cases hq) dX4_stateAfterMandateDigit_20
    · refine lv_iconst (v := 3) hx hb dX4_stateAfterMandateDigit_15 (by decide) ?_
      refine lv_goto (tgt := 20) hx hb dX4_stateAfterMandateDigit_16 (by decide) ?_
      have e9 : rr = 3 := eF.trans (by rw [f_X4_stateAfterMandateDigit, if_neg c_1, if_neg c_2])
      exact W.iret (v := 3) hx hb hr (fun t ht hW => ⟨_, rfl, e9.symm, ht⟩) (fun _ hq => by cases hq) dX4_stateAfterMandateDigit_20
  · refine lv_iconst (v := 2) hx hb dX4_stateAfterMandateDigit_6 (by decide) ?_
    have e9 : rr = 2 := eF.trans (by rw [f_X4_stateAfterMandateDigit, if_pos c_1])
    exact W.iret (v := 2) hx hb hr (fun t ht hW => ⟨_, rfl, e9.symm, ht⟩) (fun _ hq => by cases hq) dX4_stateAfterMandateDigit_7

def f_X4_stateAfterAmountDigit (p1 : Int32) (p2 : Int32) : Int32 :=
  if p2 = 59 then
    0
  else
    if (vm_bi (f_X4_isDigit p2)) = 0 then
      (-1)
    else
      if 8 ≤ p1 then
        (-1)
      else
        (p1 + 1)
theorem yd_X4_stateAfterAmountDigit : yX4_stateAfterAmountDigit.cls ≠ "java/lang/invoke/MethodHandle" ∧ yX4_stateAfterAmountDigit.cls ≠ "java/lang/invoke/VarHandle" ∧ (parseMethodDescriptor yX4_stateAfterAmountDigit.desc).map (fun d => d.parameters.length) = some 2 := by decide +kernel
set_option maxHeartbeats 4000000 in
set_option maxRecDepth 100000 in
theorem c_X4_stateAfterAmountDigit (l : Launch) (dC : Nat → ClassId) (dI : Nat → Nat → Nat) (cI cB : ClassId) (p1 : Int32) (p2 : Int32) : Met l yX4_stateAfterAmountDigit wsX4_stateAfterAmountDigit ({ frames := 1, cells := 0, slots := 0, locals := 20 }) (vm_pre [.int p1, .int p2] (dC, dI) [] cI cB) (vp_Si (fun r9 : Int32 => r9 = (f_X4_stateAfterAmountDigit p1 p2))) 0 0 (fun _ => False) := by
  refine Met.ofW (cc := cX4_stateAfterAmountDigit) (maxL := 2) (ret := (some .int)) (by decide) rfl ?_
  intro p e s m args below meth c s₁ B hml hv
  obtain ⟨rfl, hP, hK, hN⟩ := hv
  have hx := B.exec
  have hb := B.bytes
  have hr := B.returns
  have hts := atoms_spec (ws := wsX4_stateAfterAmountDigit) B.pre
  have hown : s.vm.findClass RX4 = some m.cls := findClass_of_methodNamed B.named
  have hlocks := B.notSynchronized
  generalize hrr : f_X4_stateAfterAmountDigit p1 p2 = rr
  have eF := hrr.symm
  have hl := lv_entry ([.int p1, .int p2]) (n := 2) (Nat.le_of_ble_eq_true rfl)
  rw [lg_entry_eq]
  generalize (lg_sl ([.int p1, .int p2]) ++ List.replicate (2 - (lg_sl ([.int p1, .int p2])).length) Slot.unset).toArray = ls at hl ⊢
  have hl : lv_has ls 2 [(0, .int p1), (1, .int p2)] := hl
  refine lv_iload_n hx hb dX4_stateAfterAmountDigit_0 rfl (lv_at hl 1 rfl) ?_
  refine lv_bipush (v := 59) hx hb dX4_stateAfterAmountDigit_1 (by decide) ?_
  refine lv_icmp_ne (tgt := 8) hx hb dX4_stateAfterAmountDigit_3 (by decide) (fun c_1 => ?_) (fun c_1 => ?_)
  · refine lv_iload_n hx hb dX4_stateAfterAmountDigit_8 rfl (lv_at hl 1 rfl) ?_
    refine vm_roSx (v := vm_bi (f_X4_isDigit p2)) (As := [.int p2]) (rest := []) ⟨hx, hb, hml, hown, hts⟩ hK hN hP hl.1 ⟨Nat.le_of_ble_eq_true rfl, Nat.le_of_ble_eq_true rfl⟩ (c_X4_isDigit l dC dI cI cB p2) (va_cwS 1 hts gX4_stateAfterAmountDigit_X4_isDigit rfl rfl rfl yd_X4_isDigit ⟨Nat.le_of_ble_eq_true rfl, Nat.le_of_ble_eq_true rfl⟩) rfl rfl (Nat.le_of_ble_eq_true rfl) dX4_stateAfterAmountDigit_9 ?_
    refine lv_if_eq (tgt := 27) hx hb dX4_stateAfterAmountDigit_12 (by decide) (fun c_2 => ?_) (fun c_2 => ?_)
    · refine lv_iconst (v := (-1)) hx hb dX4_stateAfterAmountDigit_27 (by decide) ?_
      have e9 : rr = (-1) := eF.trans (by rw [f_X4_stateAfterAmountDigit, if_neg c_1, if_pos c_2])
      exact W.iret (v := (-1)) hx hb hr (fun t ht hW => ⟨_, rfl, e9.symm, ht⟩) (fun _ hq => by cases hq) dX4_stateAfterAmountDigit_28
    · refine lv_iload_n hx hb dX4_stateAfterAmountDigit_15 rfl (lv_at hl 0 rfl) ?_
      refine lv_bipush (v := 8) hx hb dX4_stateAfterAmountDigit_16 (by decide) ?_
      refine lv_icmp_ge (tgt := 27) hx hb dX4_stateAfterAmountDigit_18 (by decide) (fun c_3 => ?_) (fun c_3 => ?_)
      · refine lv_iconst (v := (-1)) hx hb dX4_stateAfterAmountDigit_27 (by decide) ?_
        have e9 : rr = (-1) := eF.trans (by rw [f_X4_stateAfterAmountDigit, if_neg c_1, if_neg c_2, if_pos c_3])
        exact W.iret (v := (-1)) hx hb hr (fun t ht hW => ⟨_, rfl, e9.symm, ht⟩) (fun _ hq => by cases hq) dX4_stateAfterAmountDigit_28
      · refine lv_iload_n hx hb dX4_stateAfterAmountDigit_21 rfl (lv_at hl 0 rfl) ?_
        refine lv_iconst (v := 1) hx hb dX4_stateAfterAmountDigit_22 (by decide) ?_
        refine lv_iadd hx hb dX4_stateAfterAmountDigit_23 ?_
        refine lv_goto (tgt := 28) hx hb dX4_stateAfterAmountDigit_24 (by decide) ?_
        have e9 : rr = (p1 + 1) := eF.trans (by rw [f_X4_stateAfterAmountDigit, if_neg c_1, if_neg c_2, if_neg c_3])
        exact W.iret (v := (p1 + 1)) hx hb hr (fun t ht hW => ⟨_, rfl, e9.symm, ht⟩) (fun _ hq => by cases hq) dX4_stateAfterAmountDigit_28
  · refine lv_iconst (v := 0) hx hb dX4_stateAfterAmountDigit_6 (by decide) ?_
    have e9 : rr = 0 := eF.trans (by rw [f_X4_stateAfterAmountDigit, if_pos c_1])
    exact W.iret (v := 0) hx hb hr (fun t ht hW => ⟨_, rfl, e9.symm, ht⟩) (fun _ hq => by cases hq) dX4_stateAfterAmountDigit_7

def f_X4_stateAfter_j52 : Int32 :=
  1
def f_X4_stateAfter_j75 : Int32 :=
  3
def f_X4_stateAfter (p1 : Int32) (p2 : Int32) : Int32 :=
  if p1.toInt < -1 ∨ 4 < p1.toInt then
    (f_X4_stateAfterAmountDigit p1 p2)
  else
    if p1.toInt = -1 then
      (-1)
    else
      if p1.toInt = 0 then
        if p2 = 115 then
          f_X4_stateAfter_j52
        else
          if p2 = 117 then
            f_X4_stateAfter_j52
          else
            (-1)
      else
        if p1.toInt = 1 then
          (f_X4_stateAfterMandateDigit p2)
        else
          if p1.toInt = 2 then
            if p2 = 48 then
              f_X4_stateAfter_j75
            else
              if p2 = 49 then
                f_X4_stateAfter_j75
              else
                (f_X4_stateAfterMandate p2)
          else
            if p1.toInt = 3 then
              (f_X4_stateAfterMandate p2)
            else
              if (vm_bi (f_X4_isDigit p2)) = 0 then
                (-1)
              else
                if p2 = 48 then
                  (-1)
                else
                  5
theorem yd_X4_stateAfter : yX4_stateAfter.cls ≠ "java/lang/invoke/MethodHandle" ∧ yX4_stateAfter.cls ≠ "java/lang/invoke/VarHandle" ∧ (parseMethodDescriptor yX4_stateAfter.desc).map (fun d => d.parameters.length) = some 2 := by decide +kernel
set_option maxHeartbeats 4000000 in
set_option maxRecDepth 100000 in
theorem c_X4_stateAfter (l : Launch) (dC : Nat → ClassId) (dI : Nat → Nat → Nat) (cI cB : ClassId) (p1 : Int32) (p2 : Int32) : Met l yX4_stateAfter wsX4_stateAfter ({ frames := 2, cells := 0, slots := 0, locals := 41 }) (vm_pre [.int p1, .int p2] (dC, dI) [] cI cB) (vp_Si (fun r9 : Int32 => r9 = (f_X4_stateAfter p1 p2))) 0 0 (fun _ => False) := by
  refine Met.ofW (cc := cX4_stateAfter) (maxL := 2) (ret := (some .int)) (by decide) rfl ?_
  intro p e s m args below meth c s₁ B hml hv
  obtain ⟨rfl, hP, hK, hN⟩ := hv
  have hx := B.exec
  have hb := B.bytes
  have hr := B.returns
  have hts := atoms_spec (ws := wsX4_stateAfter) B.pre
  have hown : s.vm.findClass RX4 = some m.cls := findClass_of_methodNamed B.named
  have hlocks := B.notSynchronized
  generalize hrr : f_X4_stateAfter p1 p2 = rr
  have eF := hrr.symm
  have hl := lv_entry ([.int p1, .int p2]) (n := 2) (Nat.le_of_ble_eq_true rfl)
  rw [lg_entry_eq]
  generalize (lg_sl ([.int p1, .int p2]) ++ List.replicate (2 - (lg_sl ([.int p1, .int p2])).length) Slot.unset).toArray = ls at hl ⊢
  have hl : lv_has ls 2 [(0, .int p1), (1, .int p2)] := hl
  have hJ75 : rr = f_X4_stateAfter_j75 → ∀ (ls : Array Slot), lv_has ls 2 [] → W p l e (headSpec wsX4_stateAfter ({ frames := 2, cells := 0, slots := 0, locals := 41 })).room s m ([.int p1, .int p2] : List Value).toArray below meth c s.heap [] 0 0 (MQ below (vp_Si (fun r9 : Int32 => r9 = rr)) ([.int p1, .int p2] : List Value).toArray s 0 0 (fun _ => False)) (F0 m 75 ls []) := by
    intro eF ls hl
    refine lv_iconst (v := 3) hx hb dX4_stateAfter_75 (by decide) ?_
    refine lv_goto (tgt := 83) hx hb dX4_stateAfter_76 (by decide) ?_
    have e9 : rr = 3 := eF.trans (by rw [f_X4_stateAfter_j75])
    exact W.iret (v := 3) hx hb hr (fun t ht hW => ⟨_, rfl, e9.symm, ht⟩) (fun _ hq => by cases hq) dX4_stateAfter_83
  have hJ52 : rr = f_X4_stateAfter_j52 → ∀ (ls : Array Slot), lv_has ls 2 [] → W p l e (headSpec wsX4_stateAfter ({ frames := 2, cells := 0, slots := 0, locals := 41 })).room s m ([.int p1, .int p2] : List Value).toArray below meth c s.heap [] 0 0 (MQ below (vp_Si (fun r9 : Int32 => r9 = rr)) ([.int p1, .int p2] : List Value).toArray s 0 0 (fun _ => False)) (F0 m 52 ls []) := by
    intro eF ls hl
    refine lv_iconst (v := 1) hx hb dX4_stateAfter_52 (by decide) ?_
    refine lv_goto (tgt := 57) hx hb dX4_stateAfter_53 (by decide) ?_
    have e9 : rr = 1 := eF.trans (by rw [f_X4_stateAfter_j52])
    exact W.iret (v := 1) hx hb hr (fun t ht hW => ⟨_, rfl, e9.symm, ht⟩) (fun _ hq => by cases hq) dX4_stateAfter_57
  refine lv_iload_n hx hb dX4_stateAfter_0 rfl (lv_at hl 0 rfl) ?_
  by_cases c_1 : p1.toInt < -1 ∨ 4 < p1.toInt
  · refine lv_tableOut (tgt := 110) hx hb dX4_stateAfter_1 c_1 (by decide) ?_
    refine lv_iload_n hx hb dX4_stateAfter_110 rfl (lv_at hl 0 rfl) ?_
    refine lv_iload_n hx hb dX4_stateAfter_111 rfl (lv_at hl 1 rfl) ?_
    refine vm_roSx (v := (f_X4_stateAfterAmountDigit p1 p2)) (As := [.int p1, .int p2]) (rest := []) ⟨hx, hb, hml, hown, hts⟩ hK hN hP hl.1 ⟨Nat.le_of_ble_eq_true rfl, Nat.le_of_ble_eq_true rfl⟩ (c_X4_stateAfterAmountDigit l dC dI cI cB p1 p2) (va_cwS 2 hts gX4_stateAfter_X4_stateAfterAmountDigit rfl rfl rfl yd_X4_stateAfterAmountDigit ⟨Nat.le_of_ble_eq_true rfl, Nat.le_of_ble_eq_true rfl⟩) rfl rfl (Nat.le_of_ble_eq_true rfl) dX4_stateAfter_112 ?_
    have e9 : rr = (f_X4_stateAfterAmountDigit p1 p2) := eF.trans (by rw [f_X4_stateAfter, if_pos c_1])
    exact W.iret (v := (f_X4_stateAfterAmountDigit p1 p2)) hx hb hr (fun t ht hW => ⟨_, rfl, e9.symm, ht⟩) (fun _ hq => by cases hq) dX4_stateAfter_115
  · have c_1_a : ¬ p1.toInt < -1 := fun q => c_1 (Or.inl q)
    have c_1_b : ¬ 4 < p1.toInt := fun q => c_1 (Or.inr q)
    by_cases c_2 : p1.toInt = -1
    · refine lv_tableIn (off := 107) (tgt := 108) hx hb dX4_stateAfter_1 c_1_a c_1_b (by rw [c_2]; rfl) (by decide) ?_
      refine lv_iconst (v := (-1)) hx hb dX4_stateAfter_108 (by decide) ?_
      have e9 : rr = (-1) := eF.trans (by rw [f_X4_stateAfter, if_neg c_1, if_pos c_2])
      exact W.iret (v := (-1)) hx hb hr (fun t ht hW => ⟨_, rfl, e9.symm, ht⟩) (fun _ hq => by cases hq) dX4_stateAfter_109
    · skip
      by_cases c_3 : p1.toInt = 0
      · refine lv_tableIn (off := 39) (tgt := 40) hx hb dX4_stateAfter_1 c_1_a c_1_b (by rw [c_3]; rfl) (by decide) ?_
        refine lv_iload_n hx hb dX4_stateAfter_40 rfl (lv_at hl 1 rfl) ?_
        refine lv_bipush (v := 115) hx hb dX4_stateAfter_41 (by decide) ?_
        refine lv_icmp_eq (tgt := 52) hx hb dX4_stateAfter_43 (by decide) (fun c_4 => ?_) (fun c_4 => ?_)
        · exact hJ52 (eF.trans (by rw [f_X4_stateAfter, if_neg c_1, if_neg c_2, if_pos c_3, if_pos c_4])) ls (lv_sub hl [] rfl)
        · refine lv_iload_n hx hb dX4_stateAfter_46 rfl (lv_at hl 1 rfl) ?_
          refine lv_bipush (v := 117) hx hb dX4_stateAfter_47 (by decide) ?_
          refine lv_icmp_ne (tgt := 56) hx hb dX4_stateAfter_49 (by decide) (fun c_5 => ?_) (fun c_5 => ?_)
          · refine lv_iconst (v := (-1)) hx hb dX4_stateAfter_56 (by decide) ?_
            have e9 : rr = (-1) := eF.trans (by rw [f_X4_stateAfter, if_neg c_1, if_neg c_2, if_pos c_3, if_neg c_4, if_neg c_5])
            exact W.iret (v := (-1)) hx hb hr (fun t ht hW => ⟨_, rfl, e9.symm, ht⟩) (fun _ hq => by cases hq) dX4_stateAfter_57
          · exact hJ52 (eF.trans (by rw [f_X4_stateAfter, if_neg c_1, if_neg c_2, if_pos c_3, if_neg c_4, if_pos c_5])) ls (lv_sub hl [] rfl)
      · skip
        by_cases c_6 : p1.toInt = 1
        · refine lv_tableIn (off := 57) (tgt := 58) hx hb dX4_stateAfter_1 c_1_a c_1_b (by rw [c_6]; rfl) (by decide) ?_
          refine lv_iload_n hx hb dX4_stateAfter_58 rfl (lv_at hl 1 rfl) ?_
          refine vm_roSx (v := (f_X4_stateAfterMandateDigit p2)) (As := [.int p2]) (rest := []) ⟨hx, hb, hml, hown, hts⟩ hK hN hP hl.1 ⟨Nat.le_of_ble_eq_true rfl, Nat.le_of_ble_eq_true rfl⟩ (c_X4_stateAfterMandateDigit l dC dI cI cB p2) (va_cwS 1 hts gX4_stateAfter_X4_stateAfterMandateDigit rfl rfl rfl yd_X4_stateAfterMandateDigit ⟨Nat.le_of_ble_eq_true rfl, Nat.le_of_ble_eq_true rfl⟩) rfl rfl (Nat.le_of_ble_eq_true rfl) dX4_stateAfter_59 ?_
          have e9 : rr = (f_X4_stateAfterMandateDigit p2) := eF.trans (by rw [f_X4_stateAfter, if_neg c_1, if_neg c_2, if_neg c_3, if_pos c_6])
          exact W.iret (v := (f_X4_stateAfterMandateDigit p2)) hx hb hr (fun t ht hW => ⟨_, rfl, e9.symm, ht⟩) (fun _ hq => by cases hq) dX4_stateAfter_62
        · skip
          by_cases c_7 : p1.toInt = 2
          · refine lv_tableIn (off := 62) (tgt := 63) hx hb dX4_stateAfter_1 c_1_a c_1_b (by rw [c_7]; rfl) (by decide) ?_
            refine lv_iload_n hx hb dX4_stateAfter_63 rfl (lv_at hl 1 rfl) ?_
            refine lv_bipush (v := 48) hx hb dX4_stateAfter_64 (by decide) ?_
            refine lv_icmp_eq (tgt := 75) hx hb dX4_stateAfter_66 (by decide) (fun c_8 => ?_) (fun c_8 => ?_)
            · exact hJ75 (eF.trans (by rw [f_X4_stateAfter, if_neg c_1, if_neg c_2, if_neg c_3, if_neg c_6, if_pos c_7, if_pos c_8])) ls (lv_sub hl [] rfl)
            · refine lv_iload_n hx hb dX4_stateAfter_69 rfl (lv_at hl 1 rfl) ?_
              refine lv_bipush (v := 49) hx hb dX4_stateAfter_70 (by decide) ?_
              refine lv_icmp_ne (tgt := 79) hx hb dX4_stateAfter_72 (by decide) (fun c_9 => ?_) (fun c_9 => ?_)
              · refine lv_iload_n hx hb dX4_stateAfter_79 rfl (lv_at hl 1 rfl) ?_
                refine vm_roSx (v := (f_X4_stateAfterMandate p2)) (As := [.int p2]) (rest := []) ⟨hx, hb, hml, hown, hts⟩ hK hN hP hl.1 ⟨Nat.le_of_ble_eq_true rfl, Nat.le_of_ble_eq_true rfl⟩ (c_X4_stateAfterMandate l dC dI cI cB p2) (va_cwS 1 hts gX4_stateAfter_X4_stateAfterMandate rfl rfl rfl yd_X4_stateAfterMandate ⟨Nat.le_of_ble_eq_true rfl, Nat.le_of_ble_eq_true rfl⟩) rfl rfl (Nat.le_of_ble_eq_true rfl) dX4_stateAfter_80 ?_
                have e9 : rr = (f_X4_stateAfterMandate p2) := eF.trans (by rw [f_X4_stateAfter, if_neg c_1, if_neg c_2, if_neg c_3, if_neg c_6, if_pos c_7, if_neg c_8, if_neg c_9])
                exact W.iret (v := (f_X4_stateAfterMandate p2)) hx hb hr (fun t ht hW => ⟨_, rfl, e9.symm, ht⟩) (fun _ hq => by cases hq) dX4_stateAfter_83
              · exact hJ75 (eF.trans (by rw [f_X4_stateAfter, if_neg c_1, if_neg c_2, if_neg c_3, if_neg c_6, if_pos c_7, if_neg c_8, if_pos c_9])) ls (lv_sub hl [] rfl)
          · skip
            by_cases c_10 : p1.toInt = 3
            · refine lv_tableIn (off := 83) (tgt := 84) hx hb dX4_stateAfter_1 c_1_a c_1_b (by rw [c_10]; rfl) (by decide) ?_
              refine lv_iload_n hx hb dX4_stateAfter_84 rfl (lv_at hl 1 rfl) ?_
              refine vm_roSx (v := (f_X4_stateAfterMandate p2)) (As := [.int p2]) (rest := []) ⟨hx, hb, hml, hown, hts⟩ hK hN hP hl.1 ⟨Nat.le_of_ble_eq_true rfl, Nat.le_of_ble_eq_true rfl⟩ (c_X4_stateAfterMandate l dC dI cI cB p2) (va_cwS 1 hts gX4_stateAfter_X4_stateAfterMandate rfl rfl rfl yd_X4_stateAfterMandate ⟨Nat.le_of_ble_eq_true rfl, Nat.le_of_ble_eq_true rfl⟩) rfl rfl (Nat.le_of_ble_eq_true rfl) dX4_stateAfter_85 ?_
              have e9 : rr = (f_X4_stateAfterMandate p2) := eF.trans (by rw [f_X4_stateAfter, if_neg c_1, if_neg c_2, if_neg c_3, if_neg c_6, if_neg c_7, if_pos c_10])
              exact W.iret (v := (f_X4_stateAfterMandate p2)) hx hb hr (fun t ht hW => ⟨_, rfl, e9.symm, ht⟩) (fun _ hq => by cases hq) dX4_stateAfter_88
            · skip
              have c_11 : p1.toInt = 4 := by omega
              refine lv_tableIn (off := 88) (tgt := 89) hx hb dX4_stateAfter_1 c_1_a c_1_b (by rw [c_11]; rfl) (by decide) ?_
              refine lv_iload_n hx hb dX4_stateAfter_89 rfl (lv_at hl 1 rfl) ?_
              refine vm_roSx (v := vm_bi (f_X4_isDigit p2)) (As := [.int p2]) (rest := []) ⟨hx, hb, hml, hown, hts⟩ hK hN hP hl.1 ⟨Nat.le_of_ble_eq_true rfl, Nat.le_of_ble_eq_true rfl⟩ (c_X4_isDigit l dC dI cI cB p2) (va_cwS 1 hts gX4_stateAfter_X4_isDigit rfl rfl rfl yd_X4_isDigit ⟨Nat.le_of_ble_eq_true rfl, Nat.le_of_ble_eq_true rfl⟩) rfl rfl (Nat.le_of_ble_eq_true rfl) dX4_stateAfter_90 ?_
              refine lv_if_eq (tgt := 106) hx hb dX4_stateAfter_93 (by decide) (fun c_12 => ?_) (fun c_12 => ?_)
              · refine lv_iconst (v := (-1)) hx hb dX4_stateAfter_106 (by decide) ?_
                have e9 : rr = (-1) := eF.trans (by rw [f_X4_stateAfter, if_neg c_1, if_neg c_2, if_neg c_3, if_neg c_6, if_neg c_7, if_neg c_10, if_pos c_12])
                exact W.iret (v := (-1)) hx hb hr (fun t ht hW => ⟨_, rfl, e9.symm, ht⟩) (fun _ hq => by cases hq) dX4_stateAfter_107
              · refine lv_iload_n hx hb dX4_stateAfter_96 rfl (lv_at hl 1 rfl) ?_
                refine lv_bipush (v := 48) hx hb dX4_stateAfter_97 (by decide) ?_
                refine lv_icmp_eq (tgt := 106) hx hb dX4_stateAfter_99 (by decide) (fun c_13 => ?_) (fun c_13 => ?_)
                · refine lv_iconst (v := (-1)) hx hb dX4_stateAfter_106 (by decide) ?_
                  have e9 : rr = (-1) := eF.trans (by rw [f_X4_stateAfter, if_neg c_1, if_neg c_2, if_neg c_3, if_neg c_6, if_neg c_7, if_neg c_10, if_neg c_12, if_pos c_13])
                  exact W.iret (v := (-1)) hx hb hr (fun t ht hW => ⟨_, rfl, e9.symm, ht⟩) (fun _ hq => by cases hq) dX4_stateAfter_107
                · refine lv_iconst (v := 5) hx hb dX4_stateAfter_102 (by decide) ?_
                  refine lv_goto (tgt := 107) hx hb dX4_stateAfter_103 (by decide) ?_
                  have e9 : rr = 5 := eF.trans (by rw [f_X4_stateAfter, if_neg c_1, if_neg c_2, if_neg c_3, if_neg c_6, if_neg c_7, if_neg c_10, if_neg c_12, if_neg c_13])
                  exact W.iret (v := 5) hx hb hr (fun t ht hW => ⟨_, rfl, e9.symm, ht⟩) (fun _ hq => by cases hq) dX4_stateAfter_107

def f_X4_errorIndex_j4 (ln : Int32) (tx : Nat → Int32) : Nat → Int32 → Int32 → Int32
  | 0, _, _ => 0
  | n4 + 1, x1_4, x2_4 => if ln ≤ x2_4 then
      ln
    else
      if (f_X4_stateAfter x1_4 (f_X4_codeAt ln tx x2_4)) = (-1) then
        x2_4
      else
        f_X4_errorIndex_j4 ln tx n4 (f_X4_stateAfter x1_4 (f_X4_codeAt ln tx x2_4)) (x2_4 + 1)
def f_X4_errorIndex (ln : Int32) (tx : Nat → Int32) : Int32 :=
  f_X4_errorIndex_j4 ln tx (((ln).toInt - ((0 : Int32)).toInt).toNat + 1) 0 0
theorem yd_X4_errorIndex : yX4_errorIndex.cls = RX4 ∧ yX4_errorIndex.cls ≠ "java/lang/invoke/MethodHandle" ∧ yX4_errorIndex.cls ≠ "java/lang/invoke/VarHandle" ∧ (parseMethodDescriptor yX4_errorIndex.desc).map (fun d => d.parameters.length) = some 0 := by decide +kernel
set_option maxHeartbeats 4000000 in
set_option maxRecDepth 100000 in
theorem c_X4_errorIndex (l : Launch) (dC : Nat → ClassId) (dI : Nat → Nat → Nat) (cI cB : ClassId) (h0 h1 : Nat) (ln : Int32) (tx : Nat → Int32) : Met l yX4_errorIndex wsX4_errorIndex ({ frames := 3, cells := 0, slots := 0, locals := 62 }) (vm_pre [.ref h0] (dC, dI) [(h0, .inr (4, [.ref h1, .int ln])), (h1, .inl (cI, 60, .inl tx))] cI cB) (vp_Si (fun r9 : Int32 => r9 = (f_X4_errorIndex ln tx))) 0 0 (fun _ => False) := by
  refine Met.ofW (cc := cX4_errorIndex) (maxL := 3) (ret := (some .int)) (by decide) rfl ?_
  intro p e s m args below meth c s₁ B hml hv
  obtain ⟨rfl, hP, hK, hN⟩ := hv
  have hx := B.exec
  have hb := B.bytes
  have hr := B.returns
  have hts := atoms_spec (ws := wsX4_errorIndex) B.pre
  have hown : s.vm.findClass RX4 = some m.cls := findClass_of_methodNamed B.named
  have hlocks := B.notSynchronized
  have kw1 := hts (.fieldLink RX4 15 "LapseMandates$Text" "length" "I") (List.mem_of_getElem? (i := 1) rfl)
  have iwsX40 : ∀ w ∈ wsX40, w ∈ wsX4_errorIndex := fun w h => List.mem_cons_of_mem _ (List.mem_append_right _ h)
  generalize hrr : f_X4_errorIndex ln tx = rr
  have eF := hrr.symm
  have hl := lv_entry ([.ref h0]) (n := 3) (Nat.le_of_ble_eq_true rfl)
  rw [lg_entry_eq]
  generalize (lg_sl ([.ref h0]) ++ List.replicate (3 - (lg_sl ([.ref h0])).length) Slot.unset).toArray = ls at hl ⊢
  have hl : lv_has ls 3 [(0, .ref h0)] := hl
  have hJ4 : ∀ (n4 : Nat) (x1_4 : Int32) (x2_4 : Int32), ((ln).toInt - (x2_4).toInt).toNat < n4 → 0 ≤ x2_4 → rr = f_X4_errorIndex_j4 ln tx n4 x1_4 x2_4 → ∀ (ls : Array Slot), lv_has ls 3 [(0, .ref h0), (1, .int x1_4), (2, .int x2_4)] → W p l e (headSpec wsX4_errorIndex ({ frames := 3, cells := 0, slots := 0, locals := 62 })).room s m ([.ref h0] : List Value).toArray below meth c s.heap [] 0 0 (MQ below (vp_Si (fun r9 : Int32 => r9 = rr)) ([.ref h0] : List Value).toArray s 0 0 (fun _ => False)) (F0 m 4 ls []) := by
    intro n4
    induction n4 with
    | zero =>
      intro x1_4 x2_4 hm4
      exact absurd hm4 (Nat.not_lt_zero _)
    | succ n4 ih4 =>
      intro x1_4 x2_4 hm4 hi4 eF ls hl
      refine lv_iload_n hx hb dX4_errorIndex_4 rfl (lv_at hl 2 rfl) ?_
      refine lv_aload_n hx hb dX4_errorIndex_5 rfl (lv_at hl 0 rfl) ?_
      refine va_get (D := (dC, dI)) (ci := 4) (v := .int ln) (C := RX4) (T := TX4) (N := 2) hx hb hts iwsX40 hown hK hP 0 rfl rfl 1 (by decide) kw1 (fun _ h9 => h9) rfl dX4_errorIndex_6 ?_
      refine lv_icmp_ge (tgt := 35) hx hb dX4_errorIndex_9 (by decide) (fun cL4 => ?_) (fun cL4 => ?_)
      · refine lv_aload_n hx hb dX4_errorIndex_35 rfl (lv_at hl 0 rfl) ?_
        refine va_get (D := (dC, dI)) (ci := 4) (v := .int ln) (C := RX4) (T := TX4) (N := 2) hx hb hts iwsX40 hown hK hP 0 rfl rfl 1 (by decide) kw1 (fun _ h9 => h9) rfl dX4_errorIndex_36 ?_
        have e9 : rr = ln := eF.trans (by rw [f_X4_errorIndex_j4, if_pos cL4])
        exact W.iret (v := ln) hx hb hr (fun t ht hW => ⟨_, rfl, e9.symm, ht⟩) (fun _ hq => by cases hq) dX4_errorIndex_39
      · refine lv_iload_n hx hb dX4_errorIndex_12 rfl (lv_at hl 1 rfl) ?_
        refine lv_aload_n hx hb dX4_errorIndex_13 rfl (lv_at hl 0 rfl) ?_
        refine lv_iload_n hx hb dX4_errorIndex_14 rfl (lv_at hl 2 rfl) ?_
        refine vm_roVx (v := (f_X4_codeAt ln tx x2_4)) (As := [.int x2_4]) (rest := [.int x1_4]) (T := TX4) (N := 2) (wc := [(h0, .inr (4, [.ref h1, .int ln])), (h1, .inl (cI, 60, .inl tx))]) ⟨hx, hb, hml, hown, hts⟩ hK hN hP hl.1 ⟨Nat.le_of_ble_eq_true rfl, Nat.le_of_ble_eq_true rfl⟩ (c_X4_codeAt l dC dI cI cB h0 h1 ln tx x2_4) (cwV 1 hts gX4_errorIndex_X4_codeAt rfl rfl rfl yd_X4_codeAt ⟨Nat.le_of_ble_eq_true rfl, Nat.le_of_ble_eq_true rfl⟩) [0, 1] rfl 4 rfl rfl rfl rfl (Nat.le_of_ble_eq_true rfl) dX4_errorIndex_15 ?_
        refine vm_roSx (v := (f_X4_stateAfter x1_4 (f_X4_codeAt ln tx x2_4))) (As := [.int x1_4, .int (f_X4_codeAt ln tx x2_4)]) (rest := []) ⟨hx, hb, hml, hown, hts⟩ hK hN hP hl.1 ⟨Nat.le_of_ble_eq_true rfl, Nat.le_of_ble_eq_true rfl⟩ (c_X4_stateAfter l dC dI cI cB x1_4 (f_X4_codeAt ln tx x2_4)) (va_cwS 2 hts gX4_errorIndex_X4_stateAfter rfl rfl rfl yd_X4_stateAfter ⟨Nat.le_of_ble_eq_true rfl, Nat.le_of_ble_eq_true rfl⟩) rfl rfl (Nat.le_of_ble_eq_true rfl) dX4_errorIndex_18 ?_
        refine lv_istore_n (lv' := [(1, .int (f_X4_stateAfter x1_4 (f_X4_codeAt ln tx x2_4))), (0, .ref h0), (2, .int x2_4)]) hx hb dX4_errorIndex_21 rfl hl (by decide) rfl (fun ls hl => ?_)
        refine lv_iload_n hx hb dX4_errorIndex_22 rfl (lv_at hl 0 rfl) ?_
        refine lv_iconst (v := (-1)) hx hb dX4_errorIndex_23 (by decide) ?_
        refine lv_icmp_ne (tgt := 29) hx hb dX4_errorIndex_24 (by decide) (fun c_2 => ?_) (fun c_2 => ?_)
        · refine lv_iinc (v := (x2_4 + 1)) (lv' := [(2, .int (x2_4 + 1)), (1, .int (f_X4_stateAfter x1_4 (f_X4_codeAt ln tx x2_4))), (0, .ref h0)]) hx hb dX4_errorIndex_29 hl (k := 2) rfl rfl (by decide) rfl (fun ls hl => ?_)
          refine lv_goto (tgt := 4) hx hb dX4_errorIndex_32 (by decide) ?_
          exact ih4 (f_X4_stateAfter x1_4 (f_X4_codeAt ln tx x2_4)) (x2_4 + 1) (vm_up (vm_nle cL4) hm4) (vm_nn hi4 (vm_nle cL4)) (eF.trans (by rw [f_X4_errorIndex_j4, if_neg cL4, if_neg c_2])) ls (lv_sub hl [2, 1, 0] rfl)
        · refine lv_iload_n hx hb dX4_errorIndex_27 rfl (lv_at hl 2 rfl) ?_
          have e9 : rr = x2_4 := eF.trans (by rw [f_X4_errorIndex_j4, if_neg cL4, if_pos c_2])
          exact W.iret (v := x2_4) hx hb hr (fun t ht hW => ⟨_, rfl, e9.symm, ht⟩) (fun _ hq => by cases hq) dX4_errorIndex_28
  refine lv_iconst (v := 0) hx hb dX4_errorIndex_0 (by decide) ?_
  refine lv_istore_n (lv' := [(1, .int 0), (0, .ref h0)]) hx hb dX4_errorIndex_1 rfl hl (by decide) rfl (fun ls hl => ?_)
  refine lv_iconst (v := 0) hx hb dX4_errorIndex_2 (by decide) ?_
  refine lv_istore_n (lv' := [(2, .int 0), (1, .int 0), (0, .ref h0)]) hx hb dX4_errorIndex_3 rfl hl (by decide) rfl (fun ls hl => ?_)
  exact hJ4 (((ln).toInt - ((0 : Int32)).toInt).toNat + 1) 0 0 (Nat.lt_succ_self _) (by decide) (eF.trans (by rw [f_X4_errorIndex])) ls (lv_sub hl [2, 1, 0] rfl)

def f_X4_isComplete_j4 (ln : Int32) (tx : Nat → Int32) : Nat → Int32 → Int32 → Bool
  | 0, _, _ => false
  | n4 + 1, x1_4, x2_4 => if ln ≤ x2_4 then
      if x1_4 < 5 then
        false
      else
        true
    else
      f_X4_isComplete_j4 ln tx n4 (f_X4_stateAfter x1_4 (f_X4_codeAt ln tx x2_4)) (x2_4 + 1)
def f_X4_isComplete (ln : Int32) (tx : Nat → Int32) : Bool :=
  f_X4_isComplete_j4 ln tx (((ln).toInt - ((0 : Int32)).toInt).toNat + 1) 0 0
theorem yd_X4_isComplete : yX4_isComplete.cls = RX4 ∧ yX4_isComplete.cls ≠ "java/lang/invoke/MethodHandle" ∧ yX4_isComplete.cls ≠ "java/lang/invoke/VarHandle" ∧ (parseMethodDescriptor yX4_isComplete.desc).map (fun d => d.parameters.length) = some 0 := by decide +kernel
set_option maxHeartbeats 4000000 in
set_option maxRecDepth 100000 in
theorem c_X4_isComplete (l : Launch) (dC : Nat → ClassId) (dI : Nat → Nat → Nat) (cI cB : ClassId) (h0 h1 : Nat) (ln : Int32) (tx : Nat → Int32) : Met l yX4_isComplete wsX4_isComplete ({ frames := 3, cells := 0, slots := 0, locals := 62 }) (vm_pre [.ref h0] (dC, dI) [(h0, .inr (4, [.ref h1, .int ln])), (h1, .inl (cI, 60, .inl tx))] cI cB) (vp_Si (fun r9 : Int32 => r9 = vm_bi (f_X4_isComplete ln tx))) 0 0 (fun _ => False) := by
  refine Met.ofW (cc := cX4_isComplete) (maxL := 3) (ret := (some .boolean)) (by decide) rfl ?_
  intro p e s m args below meth c s₁ B hml hv
  obtain ⟨rfl, hP, hK, hN⟩ := hv
  have hx := B.exec
  have hb := B.bytes
  have hr := B.returns
  have hts := atoms_spec (ws := wsX4_isComplete) B.pre
  have hown : s.vm.findClass RX4 = some m.cls := findClass_of_methodNamed B.named
  have hlocks := B.notSynchronized
  have kw1 := hts (.fieldLink RX4 15 "LapseMandates$Text" "length" "I") (List.mem_of_getElem? (i := 1) rfl)
  have iwsX40 : ∀ w ∈ wsX40, w ∈ wsX4_isComplete := fun w h => List.mem_cons_of_mem _ (List.mem_append_right _ h)
  generalize hrr : f_X4_isComplete ln tx = rr
  have eF := hrr.symm
  have hl := lv_entry ([.ref h0]) (n := 3) (Nat.le_of_ble_eq_true rfl)
  rw [lg_entry_eq]
  generalize (lg_sl ([.ref h0]) ++ List.replicate (3 - (lg_sl ([.ref h0])).length) Slot.unset).toArray = ls at hl ⊢
  have hl : lv_has ls 3 [(0, .ref h0)] := hl
  have hJ4 : ∀ (n4 : Nat) (x1_4 : Int32) (x2_4 : Int32), ((ln).toInt - (x2_4).toInt).toNat < n4 → 0 ≤ x2_4 → rr = f_X4_isComplete_j4 ln tx n4 x1_4 x2_4 → ∀ (ls : Array Slot), lv_has ls 3 [(0, .ref h0), (1, .int x1_4), (2, .int x2_4)] → W p l e (headSpec wsX4_isComplete ({ frames := 3, cells := 0, slots := 0, locals := 62 })).room s m ([.ref h0] : List Value).toArray below meth c s.heap [] 0 0 (MQ below (vp_Si (fun r9 : Int32 => r9 = vm_bi rr)) ([.ref h0] : List Value).toArray s 0 0 (fun _ => False)) (F0 m 4 ls []) := by
    intro n4
    induction n4 with
    | zero =>
      intro x1_4 x2_4 hm4
      exact absurd hm4 (Nat.not_lt_zero _)
    | succ n4 ih4 =>
      intro x1_4 x2_4 hm4 hi4 eF ls hl
      refine lv_iload_n hx hb dX4_isComplete_4 rfl (lv_at hl 2 rfl) ?_
      refine lv_aload_n hx hb dX4_isComplete_5 rfl (lv_at hl 0 rfl) ?_
      refine va_get (D := (dC, dI)) (ci := 4) (v := .int ln) (C := RX4) (T := TX4) (N := 2) hx hb hts iwsX40 hown hK hP 0 rfl rfl 1 (by decide) kw1 (fun _ h9 => h9) rfl dX4_isComplete_6 ?_
      refine lv_icmp_ge (tgt := 28) hx hb dX4_isComplete_9 (by decide) (fun cL4 => ?_) (fun cL4 => ?_)
      · refine lv_iload_n hx hb dX4_isComplete_28 rfl (lv_at hl 1 rfl) ?_
        refine lv_iconst (v := 5) hx hb dX4_isComplete_29 (by decide) ?_
        refine lv_icmp_lt (tgt := 37) hx hb dX4_isComplete_30 (by decide) (fun c_2 => ?_) (fun c_2 => ?_)
        · refine lv_iconst (v := 0) hx hb dX4_isComplete_37 (by decide) ?_
          have e9 : rr = false := eF.trans (by rw [f_X4_isComplete_j4, if_pos cL4, if_pos c_2])
          exact W.zret (v := 0) hx hb hr rfl (fun t ht hW => ⟨_, rfl, by rw [e9] <;> rfl, ht⟩) (fun _ hq => by cases hq) dX4_isComplete_38
        · refine lv_iconst (v := 1) hx hb dX4_isComplete_33 (by decide) ?_
          refine lv_goto (tgt := 38) hx hb dX4_isComplete_34 (by decide) ?_
          have e9 : rr = true := eF.trans (by rw [f_X4_isComplete_j4, if_pos cL4, if_neg c_2])
          exact W.zret (v := 1) hx hb hr rfl (fun t ht hW => ⟨_, rfl, by rw [e9] <;> rfl, ht⟩) (fun _ hq => by cases hq) dX4_isComplete_38
      · refine lv_iload_n hx hb dX4_isComplete_12 rfl (lv_at hl 1 rfl) ?_
        refine lv_aload_n hx hb dX4_isComplete_13 rfl (lv_at hl 0 rfl) ?_
        refine lv_iload_n hx hb dX4_isComplete_14 rfl (lv_at hl 2 rfl) ?_
        refine vm_roVx (v := (f_X4_codeAt ln tx x2_4)) (As := [.int x2_4]) (rest := [.int x1_4]) (T := TX4) (N := 2) (wc := [(h0, .inr (4, [.ref h1, .int ln])), (h1, .inl (cI, 60, .inl tx))]) ⟨hx, hb, hml, hown, hts⟩ hK hN hP hl.1 ⟨Nat.le_of_ble_eq_true rfl, Nat.le_of_ble_eq_true rfl⟩ (c_X4_codeAt l dC dI cI cB h0 h1 ln tx x2_4) (cwV 1 hts gX4_isComplete_X4_codeAt rfl rfl rfl yd_X4_codeAt ⟨Nat.le_of_ble_eq_true rfl, Nat.le_of_ble_eq_true rfl⟩) [0, 1] rfl 4 rfl rfl rfl rfl (Nat.le_of_ble_eq_true rfl) dX4_isComplete_15 ?_
        refine vm_roSx (v := (f_X4_stateAfter x1_4 (f_X4_codeAt ln tx x2_4))) (As := [.int x1_4, .int (f_X4_codeAt ln tx x2_4)]) (rest := []) ⟨hx, hb, hml, hown, hts⟩ hK hN hP hl.1 ⟨Nat.le_of_ble_eq_true rfl, Nat.le_of_ble_eq_true rfl⟩ (c_X4_stateAfter l dC dI cI cB x1_4 (f_X4_codeAt ln tx x2_4)) (va_cwS 2 hts gX4_isComplete_X4_stateAfter rfl rfl rfl yd_X4_stateAfter ⟨Nat.le_of_ble_eq_true rfl, Nat.le_of_ble_eq_true rfl⟩) rfl rfl (Nat.le_of_ble_eq_true rfl) dX4_isComplete_18 ?_
        refine lv_istore_n (lv' := [(1, .int (f_X4_stateAfter x1_4 (f_X4_codeAt ln tx x2_4))), (0, .ref h0), (2, .int x2_4)]) hx hb dX4_isComplete_21 rfl hl (by decide) rfl (fun ls hl => ?_)
        refine lv_iinc (v := (x2_4 + 1)) (lv' := [(2, .int (x2_4 + 1)), (1, .int (f_X4_stateAfter x1_4 (f_X4_codeAt ln tx x2_4))), (0, .ref h0)]) hx hb dX4_isComplete_22 hl (k := 2) rfl rfl (by decide) rfl (fun ls hl => ?_)
        refine lv_goto (tgt := 4) hx hb dX4_isComplete_25 (by decide) ?_
        exact ih4 (f_X4_stateAfter x1_4 (f_X4_codeAt ln tx x2_4)) (x2_4 + 1) (vm_up (vm_nle cL4) hm4) (vm_nn hi4 (vm_nle cL4)) (eF.trans (by rw [f_X4_isComplete_j4, if_neg cL4])) ls (lv_sub hl [2, 1, 0] rfl)
  refine lv_iconst (v := 0) hx hb dX4_isComplete_0 (by decide) ?_
  refine lv_istore_n (lv' := [(1, .int 0), (0, .ref h0)]) hx hb dX4_isComplete_1 rfl hl (by decide) rfl (fun ls hl => ?_)
  refine lv_iconst (v := 0) hx hb dX4_isComplete_2 (by decide) ?_
  refine lv_istore_n (lv' := [(2, .int 0), (1, .int 0), (0, .ref h0)]) hx hb dX4_isComplete_3 rfl hl (by decide) rfl (fun ls hl => ?_)
  exact hJ4 (((ln).toInt - ((0 : Int32)).toInt).toNat + 1) 0 0 (Nat.lt_succ_self _) (by decide) (eF.trans (by rw [f_X4_isComplete])) ls (lv_sub hl [2, 1, 0] rfl)

def f_X4_endOfNumber_j2 (ln : Int32) (tx : Nat → Int32) : Nat → Int32 → Int32
  | 0, _ => 0
  | n2 + 1, x2_2 => if ln ≤ x2_2 then
      x2_2
    else
      if (vm_bi (f_X4_isDigit (f_X4_codeAt ln tx x2_2))) = 0 then
        x2_2
      else
        f_X4_endOfNumber_j2 ln tx n2 (x2_2 + 1)
def f_X4_endOfNumber (ln : Int32) (tx : Nat → Int32) (p1 : Int32) : Int32 :=
  f_X4_endOfNumber_j2 ln tx (((ln).toInt - (p1).toInt).toNat + 1) p1
theorem yd_X4_endOfNumber : yX4_endOfNumber.cls = RX4 ∧ yX4_endOfNumber.cls ≠ "java/lang/invoke/MethodHandle" ∧ yX4_endOfNumber.cls ≠ "java/lang/invoke/VarHandle" ∧ (parseMethodDescriptor yX4_endOfNumber.desc).map (fun d => d.parameters.length) = some 1 := by decide +kernel
set_option maxHeartbeats 4000000 in
set_option maxRecDepth 100000 in
theorem c_X4_endOfNumber (l : Launch) (dC : Nat → ClassId) (dI : Nat → Nat → Nat) (cI cB : ClassId) (h0 h1 : Nat) (ln : Int32) (tx : Nat → Int32) (p1 : Int32) : Met l yX4_endOfNumber wsX4_endOfNumber ({ frames := 1, cells := 0, slots := 0, locals := 21 }) (vm_pre [.ref h0, .int p1] (dC, dI) [(h0, .inr (4, [.ref h1, .int ln])), (h1, .inl (cI, 60, .inl tx))] cI cB) (vp_Si (fun r9 : Int32 => r9 = (f_X4_endOfNumber ln tx p1))) 0 0 (fun _ => False) := by
  refine Met.ofW (cc := cX4_endOfNumber) (maxL := 3) (ret := (some .int)) (by decide) rfl ?_
  intro p e s m args below meth c s₁ B hml hv
  obtain ⟨rfl, hP, hK, hN⟩ := hv
  have hx := B.exec
  have hb := B.bytes
  have hr := B.returns
  have hts := atoms_spec (ws := wsX4_endOfNumber) B.pre
  have hown : s.vm.findClass RX4 = some m.cls := findClass_of_methodNamed B.named
  have hlocks := B.notSynchronized
  have kw1 := hts (.fieldLink RX4 15 "LapseMandates$Text" "length" "I") (List.mem_of_getElem? (i := 1) rfl)
  have iwsX40 : ∀ w ∈ wsX40, w ∈ wsX4_endOfNumber := fun w h => List.mem_cons_of_mem _ (List.mem_append_right _ h)
  generalize hrr : f_X4_endOfNumber ln tx p1 = rr
  have eF := hrr.symm
  have hl := lv_entry ([.ref h0, .int p1]) (n := 3) (Nat.le_of_ble_eq_true rfl)
  rw [lg_entry_eq]
  generalize (lg_sl ([.ref h0, .int p1]) ++ List.replicate (3 - (lg_sl ([.ref h0, .int p1])).length) Slot.unset).toArray = ls at hl ⊢
  have hl : lv_has ls 3 [(0, .ref h0), (1, .int p1)] := hl
  have hJ2 : ∀ (n2 : Nat) (x2_2 : Int32), ((ln).toInt - (x2_2).toInt).toNat < n2 → rr = f_X4_endOfNumber_j2 ln tx n2 x2_2 → ∀ (ls : Array Slot), lv_has ls 3 [(0, .ref h0), (2, .int x2_2)] → W p l e (headSpec wsX4_endOfNumber ({ frames := 1, cells := 0, slots := 0, locals := 21 })).room s m ([.ref h0, .int p1] : List Value).toArray below meth c s.heap [] 0 0 (MQ below (vp_Si (fun r9 : Int32 => r9 = rr)) ([.ref h0, .int p1] : List Value).toArray s 0 0 (fun _ => False)) (F0 m 2 ls []) := by
    intro n2
    induction n2 with
    | zero =>
      intro x2_2 hm2
      exact absurd hm2 (Nat.not_lt_zero _)
    | succ n2 ih2 =>
      intro x2_2 hm2 eF ls hl
      refine lv_iload_n hx hb dX4_endOfNumber_2 rfl (lv_at hl 1 rfl) ?_
      refine lv_aload_n hx hb dX4_endOfNumber_3 rfl (lv_at hl 0 rfl) ?_
      refine va_get (D := (dC, dI)) (ci := 4) (v := .int ln) (C := RX4) (T := TX4) (N := 2) hx hb hts iwsX40 hown hK hP 0 rfl rfl 1 (by decide) kw1 (fun _ h9 => h9) rfl dX4_endOfNumber_4 ?_
      refine lv_icmp_ge (tgt := 27) hx hb dX4_endOfNumber_7 (by decide) (fun cL2 => ?_) (fun cL2 => ?_)
      · refine lv_iload_n hx hb dX4_endOfNumber_27 rfl (lv_at hl 1 rfl) ?_
        have e9 : rr = x2_2 := eF.trans (by rw [f_X4_endOfNumber_j2, if_pos cL2])
        exact W.iret (v := x2_2) hx hb hr (fun t ht hW => ⟨_, rfl, e9.symm, ht⟩) (fun _ hq => by cases hq) dX4_endOfNumber_28
      · refine lv_aload_n hx hb dX4_endOfNumber_10 rfl (lv_at hl 0 rfl) ?_
        refine lv_iload_n hx hb dX4_endOfNumber_11 rfl (lv_at hl 1 rfl) ?_
        refine vm_roVx (v := (f_X4_codeAt ln tx x2_2)) (As := [.int x2_2]) (rest := []) (T := TX4) (N := 2) (wc := [(h0, .inr (4, [.ref h1, .int ln])), (h1, .inl (cI, 60, .inl tx))]) ⟨hx, hb, hml, hown, hts⟩ hK hN hP hl.1 ⟨Nat.le_of_ble_eq_true rfl, Nat.le_of_ble_eq_true rfl⟩ (c_X4_codeAt l dC dI cI cB h0 h1 ln tx x2_2) (cwV 1 hts gX4_endOfNumber_X4_codeAt rfl rfl rfl yd_X4_codeAt ⟨Nat.le_of_ble_eq_true rfl, Nat.le_of_ble_eq_true rfl⟩) [0, 1] rfl 4 rfl rfl rfl rfl (Nat.le_of_ble_eq_true rfl) dX4_endOfNumber_12 ?_
        refine vm_roSx (v := vm_bi (f_X4_isDigit (f_X4_codeAt ln tx x2_2))) (As := [.int (f_X4_codeAt ln tx x2_2)]) (rest := []) ⟨hx, hb, hml, hown, hts⟩ hK hN hP hl.1 ⟨Nat.le_of_ble_eq_true rfl, Nat.le_of_ble_eq_true rfl⟩ (c_X4_isDigit l dC dI cI cB (f_X4_codeAt ln tx x2_2)) (va_cwS 1 hts gX4_endOfNumber_X4_isDigit rfl rfl rfl yd_X4_isDigit ⟨Nat.le_of_ble_eq_true rfl, Nat.le_of_ble_eq_true rfl⟩) rfl rfl (Nat.le_of_ble_eq_true rfl) dX4_endOfNumber_15 ?_
        refine lv_if_eq (tgt := 27) hx hb dX4_endOfNumber_18 (by decide) (fun c_2 => ?_) (fun c_2 => ?_)
        · refine lv_iload_n hx hb dX4_endOfNumber_27 rfl (lv_at hl 1 rfl) ?_
          have e9 : rr = x2_2 := eF.trans (by rw [f_X4_endOfNumber_j2, if_neg cL2, if_pos c_2])
          exact W.iret (v := x2_2) hx hb hr (fun t ht hW => ⟨_, rfl, e9.symm, ht⟩) (fun _ hq => by cases hq) dX4_endOfNumber_28
        · refine lv_iinc (v := (x2_2 + 1)) (lv' := [(2, .int (x2_2 + 1)), (0, .ref h0)]) hx hb dX4_endOfNumber_21 hl (k := 1) rfl rfl (by decide) rfl (fun ls hl => ?_)
          refine lv_goto (tgt := 2) hx hb dX4_endOfNumber_24 (by decide) ?_
          exact ih2 (x2_2 + 1) (vm_up (vm_nle cL2) hm2) (eF.trans (by rw [f_X4_endOfNumber_j2, if_neg cL2, if_neg c_2])) ls (lv_sub hl [1, 0] rfl)
  refine lv_iload_n hx hb dX4_endOfNumber_0 rfl (lv_at hl 1 rfl) ?_
  refine lv_istore_n (lv' := [(2, .int p1), (0, .ref h0), (1, .int p1)]) hx hb dX4_endOfNumber_1 rfl hl (by decide) rfl (fun ls hl => ?_)
  exact hJ2 (((ln).toInt - (p1).toInt).toNat + 1) p1 (Nat.lt_succ_self _) (eF.trans (by rw [f_X4_endOfNumber])) ls (lv_sub hl [1, 0] rfl)

def f_X4_numberIn_j5 (ln : Int32) (tx : Nat → Int32) (p2 : Int32) : Nat → Int32 → Int32 → Int32
  | 0, _, _ => 0
  | n5 + 1, x3_5, x4_5 => if p2 ≤ x4_5 then
      x3_5
    else
      f_X4_numberIn_j5 ln tx p2 n5 (((x3_5 * 10) + (f_X4_codeAt ln tx x4_5)) - 48) (x4_5 + 1)
def f_X4_numberIn (ln : Int32) (tx : Nat → Int32) (p1 : Int32) (p2 : Int32) : Int32 :=
  f_X4_numberIn_j5 ln tx p2 (((p2).toInt - (p1).toInt).toNat + 1) 0 p1
theorem yd_X4_numberIn : yX4_numberIn.cls = RX4 ∧ yX4_numberIn.cls ≠ "java/lang/invoke/MethodHandle" ∧ yX4_numberIn.cls ≠ "java/lang/invoke/VarHandle" ∧ (parseMethodDescriptor yX4_numberIn.desc).map (fun d => d.parameters.length) = some 2 := by decide +kernel
set_option maxHeartbeats 4000000 in
set_option maxRecDepth 100000 in
theorem c_X4_numberIn (l : Launch) (dC : Nat → ClassId) (dI : Nat → Nat → Nat) (cI cB : ClassId) (h0 h1 : Nat) (ln : Int32) (tx : Nat → Int32) (p1 : Int32) (p2 : Int32) : Met l yX4_numberIn wsX4_numberIn ({ frames := 1, cells := 0, slots := 0, locals := 21 }) (vm_pre [.ref h0, .int p1, .int p2] (dC, dI) [(h0, .inr (4, [.ref h1, .int ln])), (h1, .inl (cI, 60, .inl tx))] cI cB) (vp_Si (fun r9 : Int32 => r9 = (f_X4_numberIn ln tx p1 p2))) 0 0 (fun _ => False) := by
  refine Met.ofW (cc := cX4_numberIn) (maxL := 5) (ret := (some .int)) (by decide) rfl ?_
  intro p e s m args below meth c s₁ B hml hv
  obtain ⟨rfl, hP, hK, hN⟩ := hv
  have hx := B.exec
  have hb := B.bytes
  have hr := B.returns
  have hts := atoms_spec (ws := wsX4_numberIn) B.pre
  have hown : s.vm.findClass RX4 = some m.cls := findClass_of_methodNamed B.named
  have hlocks := B.notSynchronized
  generalize hrr : f_X4_numberIn ln tx p1 p2 = rr
  have eF := hrr.symm
  have hl := lv_entry ([.ref h0, .int p1, .int p2]) (n := 5) (Nat.le_of_ble_eq_true rfl)
  rw [lg_entry_eq]
  generalize (lg_sl ([.ref h0, .int p1, .int p2]) ++ List.replicate (5 - (lg_sl ([.ref h0, .int p1, .int p2])).length) Slot.unset).toArray = ls at hl ⊢
  have hl : lv_has ls 5 [(0, .ref h0), (1, .int p1), (2, .int p2)] := hl
  have hJ5 : ∀ (n5 : Nat) (x3_5 : Int32) (x4_5 : Int32), ((p2).toInt - (x4_5).toInt).toNat < n5 → rr = f_X4_numberIn_j5 ln tx p2 n5 x3_5 x4_5 → ∀ (ls : Array Slot), lv_has ls 5 [(0, .ref h0), (2, .int p2), (3, .int x3_5), (4, .int x4_5)] → W p l e (headSpec wsX4_numberIn ({ frames := 1, cells := 0, slots := 0, locals := 21 })).room s m ([.ref h0, .int p1, .int p2] : List Value).toArray below meth c s.heap [] 0 0 (MQ below (vp_Si (fun r9 : Int32 => r9 = rr)) ([.ref h0, .int p1, .int p2] : List Value).toArray s 0 0 (fun _ => False)) (F0 m 5 ls []) := by
    intro n5
    induction n5 with
    | zero =>
      intro x3_5 x4_5 hm5
      exact absurd hm5 (Nat.not_lt_zero _)
    | succ n5 ih5 =>
      intro x3_5 x4_5 hm5 eF ls hl
      refine lv_iload hx hb dX4_numberIn_5 (lv_at hl 3 rfl) ?_
      refine lv_iload_n hx hb dX4_numberIn_7 rfl (lv_at hl 1 rfl) ?_
      refine lv_icmp_ge (tgt := 32) hx hb dX4_numberIn_8 (by decide) (fun cL5 => ?_) (fun cL5 => ?_)
      · refine lv_iload_n hx hb dX4_numberIn_32 rfl (lv_at hl 2 rfl) ?_
        have e9 : rr = x3_5 := eF.trans (by rw [f_X4_numberIn_j5, if_pos cL5])
        exact W.iret (v := x3_5) hx hb hr (fun t ht hW => ⟨_, rfl, e9.symm, ht⟩) (fun _ hq => by cases hq) dX4_numberIn_33
      · refine lv_iload_n hx hb dX4_numberIn_11 rfl (lv_at hl 2 rfl) ?_
        refine lv_bipush (v := 10) hx hb dX4_numberIn_12 (by decide) ?_
        refine lv_imul hx hb dX4_numberIn_14 ?_
        refine lv_aload_n hx hb dX4_numberIn_15 rfl (lv_at hl 0 rfl) ?_
        refine lv_iload hx hb dX4_numberIn_16 (lv_at hl 3 rfl) ?_
        refine vm_roVx (v := (f_X4_codeAt ln tx x4_5)) (As := [.int x4_5]) (rest := [.int (x3_5 * 10)]) (T := TX4) (N := 2) (wc := [(h0, .inr (4, [.ref h1, .int ln])), (h1, .inl (cI, 60, .inl tx))]) ⟨hx, hb, hml, hown, hts⟩ hK hN hP hl.1 ⟨Nat.le_of_ble_eq_true rfl, Nat.le_of_ble_eq_true rfl⟩ (c_X4_codeAt l dC dI cI cB h0 h1 ln tx x4_5) (cwV 1 hts gX4_numberIn_X4_codeAt rfl rfl rfl yd_X4_codeAt ⟨Nat.le_of_ble_eq_true rfl, Nat.le_of_ble_eq_true rfl⟩) [0, 1] rfl 4 rfl rfl rfl rfl (Nat.le_of_ble_eq_true rfl) dX4_numberIn_18 ?_
        refine lv_iadd hx hb dX4_numberIn_21 ?_
        refine lv_bipush (v := 48) hx hb dX4_numberIn_22 (by decide) ?_
        refine lv_isub hx hb dX4_numberIn_24 ?_
        refine lv_istore_n (lv' := [(3, .int (((x3_5 * 10) + (f_X4_codeAt ln tx x4_5)) - 48)), (0, .ref h0), (2, .int p2), (4, .int x4_5)]) hx hb dX4_numberIn_25 rfl hl (by decide) rfl (fun ls hl => ?_)
        refine lv_iinc (v := (x4_5 + 1)) (lv' := [(4, .int (x4_5 + 1)), (3, .int (((x3_5 * 10) + (f_X4_codeAt ln tx x4_5)) - 48)), (0, .ref h0), (2, .int p2)]) hx hb dX4_numberIn_26 hl (k := 3) rfl rfl (by decide) rfl (fun ls hl => ?_)
        refine lv_goto (tgt := 5) hx hb dX4_numberIn_29 (by decide) ?_
        exact ih5 (((x3_5 * 10) + (f_X4_codeAt ln tx x4_5)) - 48) (x4_5 + 1) (vm_up (vm_nle cL5) hm5) (eF.trans (by rw [f_X4_numberIn_j5, if_neg cL5])) ls (lv_sub hl [2, 3, 1, 0] rfl)
  refine lv_iconst (v := 0) hx hb dX4_numberIn_0 (by decide) ?_
  refine lv_istore_n (lv' := [(3, .int 0), (0, .ref h0), (1, .int p1), (2, .int p2)]) hx hb dX4_numberIn_1 rfl hl (by decide) rfl (fun ls hl => ?_)
  refine lv_iload_n hx hb dX4_numberIn_2 rfl (lv_at hl 2 rfl) ?_
  refine lv_istore (lv' := [(4, .int p1), (3, .int 0), (0, .ref h0), (1, .int p1), (2, .int p2)]) hx hb dX4_numberIn_3 hl (by decide) rfl (fun ls hl => ?_)
  exact hJ5 (((p2).toInt - (p1).toInt).toNat + 1) 0 p1 (Nat.lt_succ_self _) (eF.trans (by rw [f_X4_numberIn])) ls (lv_sub hl [2, 4, 1, 0] rfl)
