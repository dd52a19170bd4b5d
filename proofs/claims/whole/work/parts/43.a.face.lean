def f_X5_checkPerson_j10 : Nat :=
  1
def f_X5_checkPerson (p1 : Int32) : Nat :=
  if p1 < 0 then
    f_X5_checkPerson_j10
  else
    if p1 < 8 then
      0
    else
      f_X5_checkPerson_j10
theorem yd_X5_checkPerson : yX5_checkPerson.cls ≠ "java/lang/invoke/MethodHandle" ∧ yX5_checkPerson.cls ≠ "java/lang/invoke/VarHandle" ∧ (parseMethodDescriptor yX5_checkPerson.desc).map (fun d => d.parameters.length) = some 1 := by decide +kernel
set_option maxHeartbeats 4000000 in
set_option maxRecDepth 100000 in
theorem c_X5_checkPerson (l : Launch) (hst : l.stackTraces = false) (dC : Nat → ClassId) (dI : Nat → Nat → Nat) (cI cB : ClassId) (sz : Nat) (sa : Nat → Nat) (p1 : Int32) : vx_Met l yX5_checkPerson wsX5_checkPerson ({ frames := 6, cells := 1, slots := 6, locals := 90 }) (vm_prx [.int p1] (dC, dI) [] cI cB sz sa) (va_Qv (fun _ : Unit => (f_X5_checkPerson p1) = 0) (fun _ t => va_P (dC, dI) vwCl [] t.heap) (va_A [] sz)) (vm_XC (dC, dI) [] (f_X5_checkPerson p1) (va_A [] sz)) 1 6 (va_A [] sz) := by
  refine vx_ofW (cc := cX5_checkPerson) (maxL := 1) (ret := none) (by decide) rfl ?_
  intro p e s m args below meth c s₁ B hml htb hv
  obtain ⟨rfl, hsz, hP, hK, hN, hD0, hY, hZ⟩ := hv
  have hx := B.exec
  have hb := B.bytes
  have hr := B.returns
  have hts := atoms_spec (ws := wsX5_checkPerson) B.pre
  have hown : s.vm.findClass RX5 = some m.cls := findClass_of_methodNamed B.named
  have hlocks := B.notSynchronized
  subst hsz
  have hD := hD0.self (sz := s.heap.size)
  generalize hAe : va_A [] s.heap.size = A at hD hZ ⊢
  have hA : ∀ q : Nat, s.heap.size ≤ q → A q := fun q h => by rw [← hAe]; exact Or.inr h
  have hS : va_S A s.heap s.heap [] := va_S.rf
  have hP : va_P (dC, dI) vwCl [] s.heap := hP
  have kw1 := hts (.classLink RX5 234 "java/lang/IndexOutOfBoundsException") (List.mem_of_getElem? (i := 1) rfl)
  have kw2 := hts (.initialized "java/lang/IndexOutOfBoundsException") (List.mem_of_getElem? (i := 2) rfl)
  generalize hrr : f_X5_checkPerson p1 = rr
  have eF := hrr.symm
  have hl := lv_entry ([.int p1]) (n := 1) (Nat.le_of_ble_eq_true rfl)
  rw [lg_entry_eq]
  generalize (lg_sl ([.int p1]) ++ List.replicate (1 - (lg_sl ([.int p1])).length) Slot.unset).toArray = ls at hl ⊢
  have hl : lv_has ls 1 [(0, .int p1)] := hl
  have hJ10 : rr = f_X5_checkPerson_j10 → ∀ (H : Heap) (locs : List Loc), va_P (dC, dI) vwCl [] H → va_D A [] → va_S A s.heap H locs → ∀ (ls : Array Slot), lv_has ls 1 [] → W p l e (headSpec wsX5_checkPerson ({ frames := 6, cells := 1, slots := 6, locals := 90 })).room s m ([.int p1] : List Value).toArray below meth c H locs 0 0 (vx_MQ below (va_Qv (fun _ : Unit => rr = 0) (fun _ t => va_P (dC, dI) vwCl [] t.heap) A) (vm_XC (dC, dI) [] rr A) ([.int p1] : List Value).toArray s 1 6 A) (F0 m 10 ls []) := by
    intro eF H locs hP hD hS ls hl
    have e9 : rr = (1 : Nat) := eF.trans (by rw [f_X5_checkPerson_j10])
    have hat : ∀ w ∈ (vx_atS RX5 238 "java/lang/IndexOutOfBoundsException" ["java/lang/RuntimeException", "java/lang/Exception"]), w.before _ s = true := vx_hat (B := [.castable "java/lang/IndexOutOfBoundsException" "java/lang/IndexOutOfBoundsException", .declares ⟨"java/lang/RuntimeException", "<init>", "(Ljava/lang/String;)V"⟩, .declares ⟨"java/lang/Exception", "<init>", "(Ljava/lang/String;)V"⟩, .declares ⟨"java/lang/Throwable", "<init>", "(Ljava/lang/String;)V"⟩]) (fun w hw => hts w (List.mem_cons_of_mem _ (List.mem_append_right _ hw))) (by decide +kernel) (vx_c (va_Nw.use rfl hY.2.2.2.2.2.2.2.2.2.2.2.2.2.2.2.1) (vx_c (va_Nw.use rfl hY.2.2.2.2.2.2.2.2.2.2.2.2.2.2.2.2.2.2.1) (vx_c (va_Nw.use rfl hY.2.2.2.2.2.2.2.2.2.2.2.2.2.2.2.2.2.2.2.1) (vx_c (va_Nw.use rfl hY.2.2.2.2.2.2.2.2.2.2.2.2.2.2.2.2.2.2.2.2) vx_n))))
    exact vx_throwS (names := ["java/lang/RuntimeException", "java/lang/Exception"]) hx hb hst hown (by decide) (by decide) kw1 kw2 hY.2.2.2.2.2.2.2.1 hat (by decide +kernel) hZ.1 hZ.2 hS (hl.1.trans hml.symm) dX5_checkPerson_10 dX5_checkPerson_13 dX5_checkPerson_14 dX5_checkPerson_16 dX5_checkPerson_19 (fun x hx9 => (htb x hx9).elim) (Nat.le_of_ble_eq_true rfl) (Nat.le_of_ble_eq_true rfl) (Nat.le_of_ble_eq_true rfl) (Nat.le_of_ble_eq_true rfl) hlocks (fun t ht hz hk => vm_thrown (k0 := rr) (by rw [e9]; rfl) (by rw [e9]; show (1 : Nat) ≠ 0; decide) (by first | (rw [e9]; exact hP) | exact hP) hS hz hk) hS.2.2 (Nat.le_of_ble_eq_true rfl) (Nat.le_of_ble_eq_true rfl)
  refine lv_iload_n hx hb dX5_checkPerson_0 rfl (lv_at hl 0 rfl) ?_
  refine lv_if_lt (tgt := 10) hx hb dX5_checkPerson_1 (by decide) (fun c_1 => ?_) (fun c_1 => ?_)
  · exact hJ10 (eF.trans (by rw [f_X5_checkPerson, if_pos c_1])) _ _ hP hD hS ls (lv_sub hl [] rfl)
  · refine lv_iload_n hx hb dX5_checkPerson_4 rfl (lv_at hl 0 rfl) ?_
    refine lv_bipush (v := 8) hx hb dX5_checkPerson_5 (by decide) ?_
    refine lv_icmp_lt (tgt := 20) hx hb dX5_checkPerson_7 (by decide) (fun c_2 => ?_) (fun c_2 => ?_)
    · have e9 : rr = 0 := eF.trans (by rw [f_X5_checkPerson, if_neg c_1, if_pos c_2])
      refine vx_ret ?_
      refine W.widen (k := 1) (n := 6) (Nat.le_of_ble_eq_true rfl) (Nat.le_of_ble_eq_true rfl) ?_
      exact W.vret hx hb hr (fun t ht hW => ⟨⟨(), rfl, by rw [e9], (by (try rw [e9]); show va_P _ _ _ t.heap; rw [ht]; exact hP)⟩, hS.F ht⟩) hS.2.2 dX5_checkPerson_20
    · exact hJ10 (eF.trans (by rw [f_X5_checkPerson, if_neg c_1, if_neg c_2])) _ _ hP hD hS ls (lv_sub hl [] rfl)

def f_X5_checkSetting (p1 : Int32) : Nat :=
  if p1 = 0 then
    0
  else
    if p1 = 1 then
      0
    else
      1
theorem yd_X5_checkSetting : yX5_checkSetting.cls ≠ "java/lang/invoke/MethodHandle" ∧ yX5_checkSetting.cls ≠ "java/lang/invoke/VarHandle" ∧ (parseMethodDescriptor yX5_checkSetting.desc).map (fun d => d.parameters.length) = some 1 := by decide +kernel
set_option maxHeartbeats 4000000 in
set_option maxRecDepth 100000 in
theorem c_X5_checkSetting (l : Launch) (hst : l.stackTraces = false) (dC : Nat → ClassId) (dI : Nat → Nat → Nat) (cI cB : ClassId) (sz : Nat) (sa : Nat → Nat) (p1 : Int32) : vx_Met l yX5_checkSetting wsX5_checkSetting ({ frames := 6, cells := 1, slots := 6, locals := 90 }) (vm_prx [.int p1] (dC, dI) [] cI cB sz sa) (va_Qv (fun _ : Unit => (f_X5_checkSetting p1) = 0) (fun _ t => va_P (dC, dI) vwCl [] t.heap) (va_A [] sz)) (vm_XC (dC, dI) [] (f_X5_checkSetting p1) (va_A [] sz)) 1 6 (va_A [] sz) := by
  refine vx_ofW (cc := cX5_checkSetting) (maxL := 1) (ret := none) (by decide) rfl ?_
  intro p e s m args below meth c s₁ B hml htb hv
  obtain ⟨rfl, hsz, hP, hK, hN, hD0, hY, hZ⟩ := hv
  have hx := B.exec
  have hb := B.bytes
  have hr := B.returns
  have hts := atoms_spec (ws := wsX5_checkSetting) B.pre
  have hown : s.vm.findClass RX5 = some m.cls := findClass_of_methodNamed B.named
  have hlocks := B.notSynchronized
  subst hsz
  have hD := hD0.self (sz := s.heap.size)
  generalize hAe : va_A [] s.heap.size = A at hD hZ ⊢
  have hA : ∀ q : Nat, s.heap.size ≤ q → A q := fun q h => by rw [← hAe]; exact Or.inr h
  have hS : va_S A s.heap s.heap [] := va_S.rf
  have hP : va_P (dC, dI) vwCl [] s.heap := hP
  have kw1 := hts (.classLink RX5 234 "java/lang/IndexOutOfBoundsException") (List.mem_of_getElem? (i := 1) rfl)
  have kw2 := hts (.initialized "java/lang/IndexOutOfBoundsException") (List.mem_of_getElem? (i := 2) rfl)
  generalize hrr : f_X5_checkSetting p1 = rr
  have eF := hrr.symm
  have hl := lv_entry ([.int p1]) (n := 1) (Nat.le_of_ble_eq_true rfl)
  rw [lg_entry_eq]
  generalize (lg_sl ([.int p1]) ++ List.replicate (1 - (lg_sl ([.int p1])).length) Slot.unset).toArray = ls at hl ⊢
  have hl : lv_has ls 1 [(0, .int p1)] := hl
  refine lv_iload_n hx hb dX5_checkSetting_0 rfl (lv_at hl 0 rfl) ?_
  refine lv_if_eq (tgt := 19) hx hb dX5_checkSetting_1 (by decide) (fun c_1 => ?_) (fun c_1 => ?_)
  · have e9 : rr = 0 := eF.trans (by rw [f_X5_checkSetting, if_pos c_1])
    refine vx_ret ?_
    refine W.widen (k := 1) (n := 6) (Nat.le_of_ble_eq_true rfl) (Nat.le_of_ble_eq_true rfl) ?_
    exact W.vret hx hb hr (fun t ht hW => ⟨⟨(), rfl, by rw [e9], (by (try rw [e9]); show va_P _ _ _ t.heap; rw [ht]; exact hP)⟩, hS.F ht⟩) hS.2.2 dX5_checkSetting_19
  · refine lv_iload_n hx hb dX5_checkSetting_4 rfl (lv_at hl 0 rfl) ?_
    refine lv_iconst (v := 1) hx hb dX5_checkSetting_5 (by decide) ?_
    refine lv_icmp_eq (tgt := 19) hx hb dX5_checkSetting_6 (by decide) (fun c_2 => ?_) (fun c_2 => ?_)
    · have e9 : rr = 0 := eF.trans (by rw [f_X5_checkSetting, if_neg c_1, if_pos c_2])
      refine vx_ret ?_
      refine W.widen (k := 1) (n := 6) (Nat.le_of_ble_eq_true rfl) (Nat.le_of_ble_eq_true rfl) ?_
      exact W.vret hx hb hr (fun t ht hW => ⟨⟨(), rfl, by rw [e9], (by (try rw [e9]); show va_P _ _ _ t.heap; rw [ht]; exact hP)⟩, hS.F ht⟩) hS.2.2 dX5_checkSetting_19
    · have e9 : rr = (1 : Nat) := eF.trans (by rw [f_X5_checkSetting, if_neg c_1, if_neg c_2])
      have hat : ∀ w ∈ (vx_atS RX5 238 "java/lang/IndexOutOfBoundsException" ["java/lang/RuntimeException", "java/lang/Exception"]), w.before _ s = true := vx_hat (B := [.castable "java/lang/IndexOutOfBoundsException" "java/lang/IndexOutOfBoundsException", .declares ⟨"java/lang/RuntimeException", "<init>", "(Ljava/lang/String;)V"⟩, .declares ⟨"java/lang/Exception", "<init>", "(Ljava/lang/String;)V"⟩, .declares ⟨"java/lang/Throwable", "<init>", "(Ljava/lang/String;)V"⟩]) (fun w hw => hts w (List.mem_cons_of_mem _ (List.mem_append_right _ hw))) (by decide +kernel) (vx_c (va_Nw.use rfl hY.2.2.2.2.2.2.2.2.2.2.2.2.2.2.2.1) (vx_c (va_Nw.use rfl hY.2.2.2.2.2.2.2.2.2.2.2.2.2.2.2.2.2.2.1) (vx_c (va_Nw.use rfl hY.2.2.2.2.2.2.2.2.2.2.2.2.2.2.2.2.2.2.2.1) (vx_c (va_Nw.use rfl hY.2.2.2.2.2.2.2.2.2.2.2.2.2.2.2.2.2.2.2.2) vx_n))))
      exact vx_throwS (names := ["java/lang/RuntimeException", "java/lang/Exception"]) hx hb hst hown (by decide) (by decide) kw1 kw2 hY.2.2.2.2.2.2.2.2.1 hat (by decide +kernel) hZ.1 hZ.2 hS (hl.1.trans hml.symm) dX5_checkSetting_9 dX5_checkSetting_12 dX5_checkSetting_13 dX5_checkSetting_15 dX5_checkSetting_18 (fun x hx9 => (htb x hx9).elim) (Nat.le_of_ble_eq_true rfl) (Nat.le_of_ble_eq_true rfl) (Nat.le_of_ble_eq_true rfl) (Nat.le_of_ble_eq_true rfl) hlocks (fun t ht hz hk => vm_thrown (k0 := rr) (by rw [e9]; rfl) (by rw [e9]; show (1 : Nat) ≠ 0; decide) (by first | (rw [e9]; exact hP) | exact hP) hS hz hk) hS.2.2 (Nat.le_of_ble_eq_true rfl) (Nat.le_of_ble_eq_true rfl)

def f_X5_checkRange_j10 : Nat :=
  2
def f_X5_checkRange (p1 : Int32) (p2 : Int32) (p3 : Int32) : Nat :=
  if p1 < p2 then
    f_X5_checkRange_j10
  else
    if p1 ≤ p3 then
      0
    else
      f_X5_checkRange_j10
theorem yd_X5_checkRange : yX5_checkRange.cls ≠ "java/lang/invoke/MethodHandle" ∧ yX5_checkRange.cls ≠ "java/lang/invoke/VarHandle" ∧ (parseMethodDescriptor yX5_checkRange.desc).map (fun d => d.parameters.length) = some 3 := by decide +kernel
set_option maxHeartbeats 4000000 in
set_option maxRecDepth 100000 in
theorem c_X5_checkRange (l : Launch) (hst : l.stackTraces = false) (dC : Nat → ClassId) (dI : Nat → Nat → Nat) (cI cB : ClassId) (sz : Nat) (sa : Nat → Nat) (p1 : Int32) (p2 : Int32) (p3 : Int32) : vx_Met l yX5_checkRange wsX5_checkRange ({ frames := 6, cells := 1, slots := 6, locals := 90 }) (vm_prx [.int p1, .int p2, .int p3] (dC, dI) [] cI cB sz sa) (va_Qv (fun _ : Unit => (f_X5_checkRange p1 p2 p3) = 0) (fun _ t => va_P (dC, dI) vwCl [] t.heap) (va_A [] sz)) (vm_XC (dC, dI) [] (f_X5_checkRange p1 p2 p3) (va_A [] sz)) 1 6 (va_A [] sz) := by
  refine vx_ofW (cc := cX5_checkRange) (maxL := 3) (ret := none) (by decide) rfl ?_
  intro p e s m args below meth c s₁ B hml htb hv
  obtain ⟨rfl, hsz, hP, hK, hN, hD0, hY, hZ⟩ := hv
  have hx := B.exec
  have hb := B.bytes
  have hr := B.returns
  have hts := atoms_spec (ws := wsX5_checkRange) B.pre
  have hown : s.vm.findClass RX5 = some m.cls := findClass_of_methodNamed B.named
  have hlocks := B.notSynchronized
  subst hsz
  have hD := hD0.self (sz := s.heap.size)
  generalize hAe : va_A [] s.heap.size = A at hD hZ ⊢
  have hA : ∀ q : Nat, s.heap.size ≤ q → A q := fun q h => by rw [← hAe]; exact Or.inr h
  have hS : va_S A s.heap s.heap [] := va_S.rf
  have hP : va_P (dC, dI) vwCl [] s.heap := hP
  have kw1 := hts (.classLink RX5 145 "java/lang/IllegalArgumentException") (List.mem_of_getElem? (i := 1) rfl)
  have kw2 := hts (.initialized "java/lang/IllegalArgumentException") (List.mem_of_getElem? (i := 2) rfl)
  generalize hrr : f_X5_checkRange p1 p2 p3 = rr
  have eF := hrr.symm
  have hl := lv_entry ([.int p1, .int p2, .int p3]) (n := 3) (Nat.le_of_ble_eq_true rfl)
  rw [lg_entry_eq]
  generalize (lg_sl ([.int p1, .int p2, .int p3]) ++ List.replicate (3 - (lg_sl ([.int p1, .int p2, .int p3])).length) Slot.unset).toArray = ls at hl ⊢
  have hl : lv_has ls 3 [(0, .int p1), (1, .int p2), (2, .int p3)] := hl
  have hJ10 : rr = f_X5_checkRange_j10 → ∀ (H : Heap) (locs : List Loc), va_P (dC, dI) vwCl [] H → va_D A [] → va_S A s.heap H locs → ∀ (ls : Array Slot), lv_has ls 3 [] → W p l e (headSpec wsX5_checkRange ({ frames := 6, cells := 1, slots := 6, locals := 90 })).room s m ([.int p1, .int p2, .int p3] : List Value).toArray below meth c H locs 0 0 (vx_MQ below (va_Qv (fun _ : Unit => rr = 0) (fun _ t => va_P (dC, dI) vwCl [] t.heap) A) (vm_XC (dC, dI) [] rr A) ([.int p1, .int p2, .int p3] : List Value).toArray s 1 6 A) (F0 m 10 ls []) := by
    intro eF H locs hP hD hS ls hl
    have e9 : rr = (2 : Nat) := eF.trans (by rw [f_X5_checkRange_j10])
    have hat : ∀ w ∈ (vx_atS RX5 149 "java/lang/IllegalArgumentException" ["java/lang/RuntimeException", "java/lang/Exception"]), w.before _ s = true := vx_hat (B := [.castable "java/lang/IllegalArgumentException" "java/lang/IllegalArgumentException", .declares ⟨"java/lang/RuntimeException", "<init>", "(Ljava/lang/String;)V"⟩, .declares ⟨"java/lang/Exception", "<init>", "(Ljava/lang/String;)V"⟩, .declares ⟨"java/lang/Throwable", "<init>", "(Ljava/lang/String;)V"⟩]) (fun w hw => hts w (List.mem_cons_of_mem _ (List.mem_append_right _ hw))) (by decide +kernel) (vx_c (va_Nw.use rfl hY.2.2.2.2.2.2.2.2.2.2.2.2.2.2.2.2.1) (vx_c (va_Nw.use rfl hY.2.2.2.2.2.2.2.2.2.2.2.2.2.2.2.2.2.2.1) (vx_c (va_Nw.use rfl hY.2.2.2.2.2.2.2.2.2.2.2.2.2.2.2.2.2.2.2.1) (vx_c (va_Nw.use rfl hY.2.2.2.2.2.2.2.2.2.2.2.2.2.2.2.2.2.2.2.2) vx_n))))
    exact vx_throwS (names := ["java/lang/RuntimeException", "java/lang/Exception"]) hx hb hst hown (by decide) (by decide) kw1 kw2 hY.2.2.2.2.2.2.2.2.2.1 hat (by decide +kernel) hZ.1 hZ.2 hS (hl.1.trans hml.symm) dX5_checkRange_10 dX5_checkRange_13 dX5_checkRange_14 dX5_checkRange_16 dX5_checkRange_19 (fun x hx9 => (htb x hx9).elim) (Nat.le_of_ble_eq_true rfl) (Nat.le_of_ble_eq_true rfl) (Nat.le_of_ble_eq_true rfl) (Nat.le_of_ble_eq_true rfl) hlocks (fun t ht hz hk => vm_thrown (k0 := rr) (by rw [e9]; rfl) (by rw [e9]; show (2 : Nat) ≠ 0; decide) (by first | (rw [e9]; exact hP) | exact hP) hS hz hk) hS.2.2 (Nat.le_of_ble_eq_true rfl) (Nat.le_of_ble_eq_true rfl)
  refine lv_iload_n hx hb dX5_checkRange_0 rfl (lv_at hl 0 rfl) ?_
  refine lv_iload_n hx hb dX5_checkRange_1 rfl (lv_at hl 1 rfl) ?_
  refine lv_icmp_lt (tgt := 10) hx hb dX5_checkRange_2 (by decide) (fun c_1 => ?_) (fun c_1 => ?_)
  · exact hJ10 (eF.trans (by rw [f_X5_checkRange, if_pos c_1])) _ _ hP hD hS ls (lv_sub hl [] rfl)
  · refine lv_iload_n hx hb dX5_checkRange_5 rfl (lv_at hl 0 rfl) ?_
    refine lv_iload_n hx hb dX5_checkRange_6 rfl (lv_at hl 2 rfl) ?_
    refine lv_icmp_le (tgt := 20) hx hb dX5_checkRange_7 (by decide) (fun c_2 => ?_) (fun c_2 => ?_)
    · have e9 : rr = 0 := eF.trans (by rw [f_X5_checkRange, if_neg c_1, if_pos c_2])
      refine vx_ret ?_
      refine W.widen (k := 1) (n := 6) (Nat.le_of_ble_eq_true rfl) (Nat.le_of_ble_eq_true rfl) ?_
      exact W.vret hx hb hr (fun t ht hW => ⟨⟨(), rfl, by rw [e9], (by (try rw [e9]); show va_P _ _ _ t.heap; rw [ht]; exact hP)⟩, hS.F ht⟩) hS.2.2 dX5_checkRange_20
    · exact hJ10 (eF.trans (by rw [f_X5_checkRange, if_neg c_1, if_neg c_2])) _ _ hP hD hS ls (lv_sub hl [] rfl)

def f_X5_checkMandate_j18 : Nat :=
  1
def f_X5_checkMandate (rm : Int32) (p1 : Int32) : Nat :=
  if p1 < 0 then
    f_X5_checkMandate_j18
  else
    if p1 < (f_X2_total rm) then
      0
    else
      f_X5_checkMandate_j18
theorem yd_X5_checkMandate : yX5_checkMandate.cls = RX5 ∧ yX5_checkMandate.cls ≠ "java/lang/invoke/MethodHandle" ∧ yX5_checkMandate.cls ≠ "java/lang/invoke/VarHandle" ∧ (parseMethodDescriptor yX5_checkMandate.desc).map (fun d => d.parameters.length) = some 1 := by decide +kernel
set_option maxHeartbeats 4000000 in
set_option maxRecDepth 100000 in
theorem c_X5_checkMandate (l : Launch) (hst : l.stackTraces = false) (dC : Nat → ClassId) (dI : Nat → Nat → Nat) (cI cB : ClassId) (q : Nat → Nat) (sz : Nat) (sa : Nat → Nat) (rm : Int32) (fm : Nat → Int32) (rq : Int32) (fr : Nat → Int32) (ap : Nat → Int32) (day : Int32) (grace : Int32) (longest : Int32) (spent : Int32) (spentIn : Int32) (spendings : Int32) (urgentSp : Int32) (dropped : Int32) (lapsedLate : Int32) (p1 : Int32) : vx_Met l yX5_checkMandate wsX5_checkMandate ({ frames := 6, cells := 1, slots := 6, locals := 90 }) (vm_prx [.ref (q 0), .int p1] (dC, dI) [((q 0), .inr (5, [.ref (q 1), .ref (q 8), .ref (q 10)])), ((q 1), .inr (0, [.ref (q 2), .ref (q 5), .ref (q 7), .int day, .int grace, .int longest, .int spent, .int spentIn, .int spendings, .int urgentSp, .int dropped, .int lapsedLate])), ((q 2), .inr (2, [.ref (q 3)])), ((q 3), .inr (3, [.ref (q 4), .int 12, .int 8, .int rm])), ((q 4), .inl (cI, 96, .inl fm)), ((q 5), .inr (3, [.ref (q 6), .int 6, .int 6, .int rq])), ((q 6), .inl (cI, 36, .inl fr)), ((q 7), .inl (cI, 8, .inl ap))] cI cB sz sa) (va_Qv (fun _ : Unit => (f_X5_checkMandate rm p1) = 0) (fun _ t => va_P (dC, dI) vwCl [((q 0), .inr (5, [.ref (q 1), .ref (q 8), .ref (q 10)])), ((q 1), .inr (0, [.ref (q 2), .ref (q 5), .ref (q 7), .int day, .int grace, .int longest, .int spent, .int spentIn, .int spendings, .int urgentSp, .int dropped, .int lapsedLate])), ((q 2), .inr (2, [.ref (q 3)])), ((q 3), .inr (3, [.ref (q 4), .int 12, .int 8, .int rm])), ((q 4), .inl (cI, 96, .inl fm)), ((q 5), .inr (3, [.ref (q 6), .int 6, .int 6, .int rq])), ((q 6), .inl (cI, 36, .inl fr)), ((q 7), .inl (cI, 8, .inl ap))] t.heap) (va_A [((q 0), .inr (5, [.ref (q 1), .ref (q 8), .ref (q 10)])), ((q 1), .inr (0, [.ref (q 2), .ref (q 5), .ref (q 7), .int day, .int grace, .int longest, .int spent, .int spentIn, .int spendings, .int urgentSp, .int dropped, .int lapsedLate])), ((q 2), .inr (2, [.ref (q 3)])), ((q 3), .inr (3, [.ref (q 4), .int 12, .int 8, .int rm])), ((q 4), .inl (cI, 96, .inl fm)), ((q 5), .inr (3, [.ref (q 6), .int 6, .int 6, .int rq])), ((q 6), .inl (cI, 36, .inl fr)), ((q 7), .inl (cI, 8, .inl ap))] sz)) (vm_XC (dC, dI) [((q 0), .inr (5, [.ref (q 1), .ref (q 8), .ref (q 10)])), ((q 1), .inr (0, [.ref (q 2), .ref (q 5), .ref (q 7), .int day, .int grace, .int longest, .int spent, .int spentIn, .int spendings, .int urgentSp, .int dropped, .int lapsedLate])), ((q 2), .inr (2, [.ref (q 3)])), ((q 3), .inr (3, [.ref (q 4), .int 12, .int 8, .int rm])), ((q 4), .inl (cI, 96, .inl fm)), ((q 5), .inr (3, [.ref (q 6), .int 6, .int 6, .int rq])), ((q 6), .inl (cI, 36, .inl fr)), ((q 7), .inl (cI, 8, .inl ap))] (f_X5_checkMandate rm p1) (va_A [((q 0), .inr (5, [.ref (q 1), .ref (q 8), .ref (q 10)])), ((q 1), .inr (0, [.ref (q 2), .ref (q 5), .ref (q 7), .int day, .int grace, .int longest, .int spent, .int spentIn, .int spendings, .int urgentSp, .int dropped, .int lapsedLate])), ((q 2), .inr (2, [.ref (q 3)])), ((q 3), .inr (3, [.ref (q 4), .int 12, .int 8, .int rm])), ((q 4), .inl (cI, 96, .inl fm)), ((q 5), .inr (3, [.ref (q 6), .int 6, .int 6, .int rq])), ((q 6), .inl (cI, 36, .inl fr)), ((q 7), .inl (cI, 8, .inl ap))] sz)) 1 6 (va_A [((q 0), .inr (5, [.ref (q 1), .ref (q 8), .ref (q 10)])), ((q 1), .inr (0, [.ref (q 2), .ref (q 5), .ref (q 7), .int day, .int grace, .int longest, .int spent, .int spentIn, .int spendings, .int urgentSp, .int dropped, .int lapsedLate])), ((q 2), .inr (2, [.ref (q 3)])), ((q 3), .inr (3, [.ref (q 4), .int 12, .int 8, .int rm])), ((q 4), .inl (cI, 96, .inl fm)), ((q 5), .inr (3, [.ref (q 6), .int 6, .int 6, .int rq])), ((q 6), .inl (cI, 36, .inl fr)), ((q 7), .inl (cI, 8, .inl ap))] sz) := by
  refine vx_ofW (cc := cX5_checkMandate) (maxL := 2) (ret := none) (by decide) rfl ?_
  intro p e s m args below meth c s₁ B hml htb hv
  obtain ⟨rfl, hsz, hP, hK, hN, hD0, hY, hZ⟩ := hv
  have hx := B.exec
  have hb := B.bytes
  have hr := B.returns
  have hts := atoms_spec (ws := wsX5_checkMandate) B.pre
  have hown : s.vm.findClass RX5 = some m.cls := findClass_of_methodNamed B.named
  have hlocks := B.notSynchronized
  subst hsz
  have hD := hD0.self (sz := s.heap.size)
  generalize hAe : va_A [((q 0), .inr (5, [.ref (q 1), .ref (q 8), .ref (q 10)])), ((q 1), .inr (0, [.ref (q 2), .ref (q 5), .ref (q 7), .int day, .int grace, .int longest, .int spent, .int spentIn, .int spendings, .int urgentSp, .int dropped, .int lapsedLate])), ((q 2), .inr (2, [.ref (q 3)])), ((q 3), .inr (3, [.ref (q 4), .int 12, .int 8, .int rm])), ((q 4), .inl (cI, 96, .inl fm)), ((q 5), .inr (3, [.ref (q 6), .int 6, .int 6, .int rq])), ((q 6), .inl (cI, 36, .inl fr)), ((q 7), .inl (cI, 8, .inl ap))] s.heap.size = A at hD hZ ⊢
  have hA : ∀ q : Nat, s.heap.size ≤ q → A q := fun q h => by rw [← hAe]; exact Or.inr h
  have hS : va_S A s.heap s.heap [] := va_S.rf
  have hP : va_P (dC, dI) vwCl [((q 0), .inr (5, [.ref (q 1), .ref (q 8), .ref (q 10)])), ((q 1), .inr (0, [.ref (q 2), .ref (q 5), .ref (q 7), .int day, .int grace, .int longest, .int spent, .int spentIn, .int spendings, .int urgentSp, .int dropped, .int lapsedLate])), ((q 2), .inr (2, [.ref (q 3)])), ((q 3), .inr (3, [.ref (q 4), .int 12, .int 8, .int rm])), ((q 4), .inl (cI, 96, .inl fm)), ((q 5), .inr (3, [.ref (q 6), .int 6, .int 6, .int rq])), ((q 6), .inl (cI, 36, .inl fr)), ((q 7), .inl (cI, 8, .inl ap))] s.heap := hP
  have kw1 := hts (.classLink RX5 234 "java/lang/IndexOutOfBoundsException") (List.mem_of_getElem? (i := 1) rfl)
  have kw2 := hts (.initialized "java/lang/IndexOutOfBoundsException") (List.mem_of_getElem? (i := 2) rfl)
  have kw3 := hts (.fieldLink RX5 12 "LapseMandates" "book" "LLapseMandates$Book;") (List.mem_of_getElem? (i := 3) rfl)
  have iwsX00 : ∀ w ∈ wsX00, w ∈ wsX5_checkMandate := fun w h => List.mem_cons_of_mem _ (List.mem_append_left _ (List.mem_append_left _ (List.mem_append_left _ (List.mem_append_right _ h))))
  have iwsX50 : ∀ w ∈ wsX50, w ∈ wsX5_checkMandate := fun w h => List.mem_cons_of_mem _ (List.mem_append_left _ (List.mem_append_left _ (List.mem_append_left _ (List.mem_append_left _ (List.mem_append_right _ h)))))
  generalize hrr : f_X5_checkMandate rm p1 = rr
  have eF := hrr.symm
  have hl := lv_entry ([.ref (q 0), .int p1]) (n := 2) (Nat.le_of_ble_eq_true rfl)
  rw [lg_entry_eq]
  generalize (lg_sl ([.ref (q 0), .int p1]) ++ List.replicate (2 - (lg_sl ([.ref (q 0), .int p1])).length) Slot.unset).toArray = ls at hl ⊢
  have hl : lv_has ls 2 [(0, .ref (q 0)), (1, .int p1)] := hl
  have hJ18 : rr = f_X5_checkMandate_j18 → ∀ (H : Heap) (locs : List Loc), va_P (dC, dI) vwCl [((q 0), .inr (5, [.ref (q 1), .ref (q 8), .ref (q 10)])), ((q 1), .inr (0, [.ref (q 2), .ref (q 5), .ref (q 7), .int day, .int grace, .int longest, .int spent, .int spentIn, .int spendings, .int urgentSp, .int dropped, .int lapsedLate])), ((q 2), .inr (2, [.ref (q 3)])), ((q 3), .inr (3, [.ref (q 4), .int 12, .int 8, .int rm])), ((q 4), .inl (cI, 96, .inl fm)), ((q 5), .inr (3, [.ref (q 6), .int 6, .int 6, .int rq])), ((q 6), .inl (cI, 36, .inl fr)), ((q 7), .inl (cI, 8, .inl ap))] H → va_D A [((q 0), .inr (5, [.ref (q 1), .ref (q 8), .ref (q 10)])), ((q 1), .inr (0, [.ref (q 2), .ref (q 5), .ref (q 7), .int day, .int grace, .int longest, .int spent, .int spentIn, .int spendings, .int urgentSp, .int dropped, .int lapsedLate])), ((q 2), .inr (2, [.ref (q 3)])), ((q 3), .inr (3, [.ref (q 4), .int 12, .int 8, .int rm])), ((q 4), .inl (cI, 96, .inl fm)), ((q 5), .inr (3, [.ref (q 6), .int 6, .int 6, .int rq])), ((q 6), .inl (cI, 36, .inl fr)), ((q 7), .inl (cI, 8, .inl ap))] → va_S A s.heap H locs → ∀ (ls : Array Slot), lv_has ls 2 [] → W p l e (headSpec wsX5_checkMandate ({ frames := 6, cells := 1, slots := 6, locals := 90 })).room s m ([.ref (q 0), .int p1] : List Value).toArray below meth c H locs 0 0 (vx_MQ below (va_Qv (fun _ : Unit => rr = 0) (fun _ t => va_P (dC, dI) vwCl [((q 0), .inr (5, [.ref (q 1), .ref (q 8), .ref (q 10)])), ((q 1), .inr (0, [.ref (q 2), .ref (q 5), .ref (q 7), .int day, .int grace, .int longest, .int spent, .int spentIn, .int spendings, .int urgentSp, .int dropped, .int lapsedLate])), ((q 2), .inr (2, [.ref (q 3)])), ((q 3), .inr (3, [.ref (q 4), .int 12, .int 8, .int rm])), ((q 4), .inl (cI, 96, .inl fm)), ((q 5), .inr (3, [.ref (q 6), .int 6, .int 6, .int rq])), ((q 6), .inl (cI, 36, .inl fr)), ((q 7), .inl (cI, 8, .inl ap))] t.heap) A) (vm_XC (dC, dI) [((q 0), .inr (5, [.ref (q 1), .ref (q 8), .ref (q 10)])), ((q 1), .inr (0, [.ref (q 2), .ref (q 5), .ref (q 7), .int day, .int grace, .int longest, .int spent, .int spentIn, .int spendings, .int urgentSp, .int dropped, .int lapsedLate])), ((q 2), .inr (2, [.ref (q 3)])), ((q 3), .inr (3, [.ref (q 4), .int 12, .int 8, .int rm])), ((q 4), .inl (cI, 96, .inl fm)), ((q 5), .inr (3, [.ref (q 6), .int 6, .int 6, .int rq])), ((q 6), .inl (cI, 36, .inl fr)), ((q 7), .inl (cI, 8, .inl ap))] rr A) ([.ref (q 0), .int p1] : List Value).toArray s 1 6 A) (F0 m 18 ls []) := by
    intro eF H locs hP hD hS ls hl
    have e9 : rr = (1 : Nat) := eF.trans (by rw [f_X5_checkMandate_j18])
    have hat : ∀ w ∈ (vx_atS RX5 238 "java/lang/IndexOutOfBoundsException" ["java/lang/RuntimeException", "java/lang/Exception"]), w.before _ s = true := vx_hat (B := [.castable "java/lang/IndexOutOfBoundsException" "java/lang/IndexOutOfBoundsException", .declares ⟨"java/lang/RuntimeException", "<init>", "(Ljava/lang/String;)V"⟩, .declares ⟨"java/lang/Exception", "<init>", "(Ljava/lang/String;)V"⟩, .declares ⟨"java/lang/Throwable", "<init>", "(Ljava/lang/String;)V"⟩]) (fun w hw => hts w (List.mem_cons_of_mem _ (List.mem_append_right _ hw))) (by decide +kernel) (vx_c (va_Nw.use rfl hY.2.2.2.2.2.2.2.2.2.2.2.2.2.2.2.1) (vx_c (va_Nw.use rfl hY.2.2.2.2.2.2.2.2.2.2.2.2.2.2.2.2.2.2.1) (vx_c (va_Nw.use rfl hY.2.2.2.2.2.2.2.2.2.2.2.2.2.2.2.2.2.2.2.1) (vx_c (va_Nw.use rfl hY.2.2.2.2.2.2.2.2.2.2.2.2.2.2.2.2.2.2.2.2) vx_n))))
    exact vx_throwS (names := ["java/lang/RuntimeException", "java/lang/Exception"]) hx hb hst hown (by decide) (by decide) kw1 kw2 hY.2.2.2.2.2.1 hat (by decide +kernel) hZ.1 hZ.2 hS (hl.1.trans hml.symm) dX5_checkMandate_18 dX5_checkMandate_21 dX5_checkMandate_22 dX5_checkMandate_24 dX5_checkMandate_27 (fun x hx9 => (htb x hx9).elim) (Nat.le_of_ble_eq_true rfl) (Nat.le_of_ble_eq_true rfl) (Nat.le_of_ble_eq_true rfl) (Nat.le_of_ble_eq_true rfl) hlocks (fun t ht hz hk => vm_thrown (k0 := rr) (by rw [e9]; rfl) (by rw [e9]; show (1 : Nat) ≠ 0; decide) (by first | (rw [e9]; exact hP) | exact hP) hS hz hk) hS.2.2 (Nat.le_of_ble_eq_true rfl) (Nat.le_of_ble_eq_true rfl)
  refine lv_iload_n hx hb dX5_checkMandate_0 rfl (lv_at hl 1 rfl) ?_
  refine lv_if_lt (tgt := 18) hx hb dX5_checkMandate_1 (by decide) (fun c_1 => ?_) (fun c_1 => ?_)
  · exact hJ18 (eF.trans (by rw [f_X5_checkMandate, if_pos c_1])) _ _ hP hD hS ls (lv_sub hl [] rfl)
  · refine lv_iload_n hx hb dX5_checkMandate_4 rfl (lv_at hl 1 rfl) ?_
    refine lv_aload_n hx hb dX5_checkMandate_5 rfl (lv_at hl 0 rfl) ?_
    refine va_get (D := (dC, dI)) (ci := 5) (v := .ref (q 1)) (C := RX5) (T := TX5) (N := 3) hx hb hts iwsX50 hown hK hP 0 rfl rfl 0 (by decide) kw3 (fun _ h9 => h9) rfl dX5_checkMandate_6 ?_
    refine va_getN (D := (dC, dI)) (ci := 0) (v := .ref (q 2)) (C := RX0) (T := TX0) (N := 12) hx hb hts iwsX00 hown hK hP 1 rfl rfl 0 (by decide) (va_Nw.use rfl hN.2.2.2.2.2.2.2.2.1) (fun _ h9 => h9) rfl dX5_checkMandate_9 ?_
    refine vm_roVx (v := (f_X2_total rm)) (As := []) (rest := [.int p1]) (T := TX2) (N := 1) (wc := [((q 2), .inr (2, [.ref (q 3)])), ((q 3), .inr (3, [.ref (q 4), .int 12, .int 8, .int rm])), ((q 4), .inl (cI, 96, .inl fm))]) ⟨hx, hb, hml, hown, hts⟩ hK hN hP hl.1 ⟨Nat.le_of_ble_eq_true rfl, Nat.le_of_ble_eq_true rfl⟩ (c_X2_total l dC dI cI cB (q 2) (q 3) (q 4) rm fm) (cwV 0 hts gX5_checkMandate_X2_total rfl rfl rfl yd_X2_total ⟨Nat.le_of_ble_eq_true rfl, Nat.le_of_ble_eq_true rfl⟩) [2, 3, 4] rfl 2 rfl rfl rfl rfl (Nat.le_of_ble_eq_true rfl) dX5_checkMandate_12 ?_
    refine lv_icmp_lt (tgt := 28) hx hb dX5_checkMandate_15 (by decide) (fun c_2 => ?_) (fun c_2 => ?_)
    · have e9 : rr = 0 := eF.trans (by rw [f_X5_checkMandate, if_neg c_1, if_pos c_2])
      refine vx_ret ?_
      refine W.widen (k := 1) (n := 6) (Nat.le_of_ble_eq_true rfl) (Nat.le_of_ble_eq_true rfl) ?_
      exact W.vret hx hb hr (fun t ht hW => ⟨⟨(), rfl, by rw [e9], (by (try rw [e9]); show va_P _ _ _ t.heap; rw [ht]; exact hP)⟩, hS.F ht⟩) hS.2.2 dX5_checkMandate_28
    · exact hJ18 (eF.trans (by rw [f_X5_checkMandate, if_neg c_1, if_neg c_2])) _ _ hP hD hS ls (lv_sub hl [] rfl)

def f_X5_checkRequest_j18 : Nat :=
  1
def f_X5_checkRequest (rq : Int32) (p1 : Int32) : Nat :=
  if p1 < 0 then
    f_X5_checkRequest_j18
  else
    if p1 < rq then
      0
    else
      f_X5_checkRequest_j18
theorem yd_X5_checkRequest : yX5_checkRequest.cls = RX5 ∧ yX5_checkRequest.cls ≠ "java/lang/invoke/MethodHandle" ∧ yX5_checkRequest.cls ≠ "java/lang/invoke/VarHandle" ∧ (parseMethodDescriptor yX5_checkRequest.desc).map (fun d => d.parameters.length) = some 1 := by decide +kernel
set_option maxHeartbeats 4000000 in
set_option maxRecDepth 100000 in
theorem c_X5_checkRequest (l : Launch) (hst : l.stackTraces = false) (dC : Nat → ClassId) (dI : Nat → Nat → Nat) (cI cB : ClassId) (q : Nat → Nat) (sz : Nat) (sa : Nat → Nat) (rm : Int32) (fm : Nat → Int32) (rq : Int32) (fr : Nat → Int32) (ap : Nat → Int32) (day : Int32) (grace : Int32) (longest : Int32) (spent : Int32) (spentIn : Int32) (spendings : Int32) (urgentSp : Int32) (dropped : Int32) (lapsedLate : Int32) (p1 : Int32) : vx_Met l yX5_checkRequest wsX5_checkRequest ({ frames := 6, cells := 1, slots := 6, locals := 90 }) (vm_prx [.ref (q 0), .int p1] (dC, dI) [((q 0), .inr (5, [.ref (q 1), .ref (q 8), .ref (q 10)])), ((q 1), .inr (0, [.ref (q 2), .ref (q 5), .ref (q 7), .int day, .int grace, .int longest, .int spent, .int spentIn, .int spendings, .int urgentSp, .int dropped, .int lapsedLate])), ((q 2), .inr (2, [.ref (q 3)])), ((q 3), .inr (3, [.ref (q 4), .int 12, .int 8, .int rm])), ((q 4), .inl (cI, 96, .inl fm)), ((q 5), .inr (3, [.ref (q 6), .int 6, .int 6, .int rq])), ((q 6), .inl (cI, 36, .inl fr)), ((q 7), .inl (cI, 8, .inl ap))] cI cB sz sa) (va_Qv (fun _ : Unit => (f_X5_checkRequest rq p1) = 0) (fun _ t => va_P (dC, dI) vwCl [((q 0), .inr (5, [.ref (q 1), .ref (q 8), .ref (q 10)])), ((q 1), .inr (0, [.ref (q 2), .ref (q 5), .ref (q 7), .int day, .int grace, .int longest, .int spent, .int spentIn, .int spendings, .int urgentSp, .int dropped, .int lapsedLate])), ((q 2), .inr (2, [.ref (q 3)])), ((q 3), .inr (3, [.ref (q 4), .int 12, .int 8, .int rm])), ((q 4), .inl (cI, 96, .inl fm)), ((q 5), .inr (3, [.ref (q 6), .int 6, .int 6, .int rq])), ((q 6), .inl (cI, 36, .inl fr)), ((q 7), .inl (cI, 8, .inl ap))] t.heap) (va_A [((q 0), .inr (5, [.ref (q 1), .ref (q 8), .ref (q 10)])), ((q 1), .inr (0, [.ref (q 2), .ref (q 5), .ref (q 7), .int day, .int grace, .int longest, .int spent, .int spentIn, .int spendings, .int urgentSp, .int dropped, .int lapsedLate])), ((q 2), .inr (2, [.ref (q 3)])), ((q 3), .inr (3, [.ref (q 4), .int 12, .int 8, .int rm])), ((q 4), .inl (cI, 96, .inl fm)), ((q 5), .inr (3, [.ref (q 6), .int 6, .int 6, .int rq])), ((q 6), .inl (cI, 36, .inl fr)), ((q 7), .inl (cI, 8, .inl ap))] sz)) (vm_XC (dC, dI) [((q 0), .inr (5, [.ref (q 1), .ref (q 8), .ref (q 10)])), ((q 1), .inr (0, [.ref (q 2), .ref (q 5), .ref (q 7), .int day, .int grace, .int longest, .int spent, .int spentIn, .int spendings, .int urgentSp, .int dropped, .int lapsedLate])), ((q 2), .inr (2, [.ref (q 3)])), ((q 3), .inr (3, [.ref (q 4), .int 12, .int 8, .int rm])), ((q 4), .inl (cI, 96, .inl fm)), ((q 5), .inr (3, [.ref (q 6), .int 6, .int 6, .int rq])), ((q 6), .inl (cI, 36, .inl fr)), ((q 7), .inl (cI, 8, .inl ap))] (f_X5_checkRequest rq p1) (va_A [((q 0), .inr (5, [.ref (q 1), .ref (q 8), .ref (q 10)])), ((q 1), .inr (0, [.ref (q 2), .ref (q 5), .ref (q 7), .int day, .int grace, .int longest, .int spent, .int spentIn, .int spendings, .int urgentSp, .int dropped, .int lapsedLate])), ((q 2), .inr (2, [.ref (q 3)])), ((q 3), .inr (3, [.ref (q 4), .int 12, .int 8, .int rm])), ((q 4), .inl (cI, 96, .inl fm)), ((q 5), .inr (3, [.ref (q 6), .int 6, .int 6, .int rq])), ((q 6), .inl (cI, 36, .inl fr)), ((q 7), .inl (cI, 8, .inl ap))] sz)) 1 6 (va_A [((q 0), .inr (5, [.ref (q 1), .ref (q 8), .ref (q 10)])), ((q 1), .inr (0, [.ref (q 2), .ref (q 5), .ref (q 7), .int day, .int grace, .int longest, .int spent, .int spentIn, .int spendings, .int urgentSp, .int dropped, .int lapsedLate])), ((q 2), .inr (2, [.ref (q 3)])), ((q 3), .inr (3, [.ref (q 4), .int 12, .int 8, .int rm])), ((q 4), .inl (cI, 96, .inl fm)), ((q 5), .inr (3, [.ref (q 6), .int 6, .int 6, .int rq])), ((q 6), .inl (cI, 36, .inl fr)), ((q 7), .inl (cI, 8, .inl ap))] sz) := by
  refine vx_ofW (cc := cX5_checkRequest) (maxL := 2) (ret := none) (by decide) rfl ?_
  intro p e s m args below meth c s₁ B hml htb hv
  obtain ⟨rfl, hsz, hP, hK, hN, hD0, hY, hZ⟩ := hv
  have hx := B.exec
  have hb := B.bytes
  have hr := B.returns
  have hts := atoms_spec (ws := wsX5_checkRequest) B.pre
  have hown : s.vm.findClass RX5 = some m.cls := findClass_of_methodNamed B.named
  have hlocks := B.notSynchronized
  subst hsz
  have hD := hD0.self (sz := s.heap.size)
  generalize hAe : va_A [((q 0), .inr (5, [.ref (q 1), .ref (q 8), .ref (q 10)])), ((q 1), .inr (0, [.ref (q 2), .ref (q 5), .ref (q 7), .int day, .int grace, .int longest, .int spent, .int spentIn, .int spendings, .int urgentSp, .int dropped, .int lapsedLate])), ((q 2), .inr (2, [.ref (q 3)])), ((q 3), .inr (3, [.ref (q 4), .int 12, .int 8, .int rm])), ((q 4), .inl (cI, 96, .inl fm)), ((q 5), .inr (3, [.ref (q 6), .int 6, .int 6, .int rq])), ((q 6), .inl (cI, 36, .inl fr)), ((q 7), .inl (cI, 8, .inl ap))] s.heap.size = A at hD hZ ⊢
  have hA : ∀ q : Nat, s.heap.size ≤ q → A q := fun q h => by rw [← hAe]; exact Or.inr h
  have hS : va_S A s.heap s.heap [] := va_S.rf
  have hP : va_P (dC, dI) vwCl [((q 0), .inr (5, [.ref (q 1), .ref (q 8), .ref (q 10)])), ((q 1), .inr (0, [.ref (q 2), .ref (q 5), .ref (q 7), .int day, .int grace, .int longest, .int spent, .int spentIn, .int spendings, .int urgentSp, .int dropped, .int lapsedLate])), ((q 2), .inr (2, [.ref (q 3)])), ((q 3), .inr (3, [.ref (q 4), .int 12, .int 8, .int rm])), ((q 4), .inl (cI, 96, .inl fm)), ((q 5), .inr (3, [.ref (q 6), .int 6, .int 6, .int rq])), ((q 6), .inl (cI, 36, .inl fr)), ((q 7), .inl (cI, 8, .inl ap))] s.heap := hP
  have kw1 := hts (.classLink RX5 234 "java/lang/IndexOutOfBoundsException") (List.mem_of_getElem? (i := 1) rfl)
  have kw2 := hts (.initialized "java/lang/IndexOutOfBoundsException") (List.mem_of_getElem? (i := 2) rfl)
  have kw3 := hts (.fieldLink RX5 12 "LapseMandates" "book" "LLapseMandates$Book;") (List.mem_of_getElem? (i := 3) rfl)
  have iwsX00 : ∀ w ∈ wsX00, w ∈ wsX5_checkRequest := fun w h => List.mem_cons_of_mem _ (List.mem_append_left _ (List.mem_append_left _ (List.mem_append_right _ h)))
  have iwsX30 : ∀ w ∈ wsX30, w ∈ wsX5_checkRequest := fun w h => List.mem_cons_of_mem _ (List.mem_append_left _ (List.mem_append_right _ h))
  have iwsX50 : ∀ w ∈ wsX50, w ∈ wsX5_checkRequest := fun w h => List.mem_cons_of_mem _ (List.mem_append_left _ (List.mem_append_left _ (List.mem_append_left _ (List.mem_append_right _ h))))
  generalize hrr : f_X5_checkRequest rq p1 = rr
  have eF := hrr.symm
  have hl := lv_entry ([.ref (q 0), .int p1]) (n := 2) (Nat.le_of_ble_eq_true rfl)
  rw [lg_entry_eq]
  generalize (lg_sl ([.ref (q 0), .int p1]) ++ List.replicate (2 - (lg_sl ([.ref (q 0), .int p1])).length) Slot.unset).toArray = ls at hl ⊢
  have hl : lv_has ls 2 [(0, .ref (q 0)), (1, .int p1)] := hl
  have hJ18 : rr = f_X5_checkRequest_j18 → ∀ (H : Heap) (locs : List Loc), va_P (dC, dI) vwCl [((q 0), .inr (5, [.ref (q 1), .ref (q 8), .ref (q 10)])), ((q 1), .inr (0, [.ref (q 2), .ref (q 5), .ref (q 7), .int day, .int grace, .int longest, .int spent, .int spentIn, .int spendings, .int urgentSp, .int dropped, .int lapsedLate])), ((q 2), .inr (2, [.ref (q 3)])), ((q 3), .inr (3, [.ref (q 4), .int 12, .int 8, .int rm])), ((q 4), .inl (cI, 96, .inl fm)), ((q 5), .inr (3, [.ref (q 6), .int 6, .int 6, .int rq])), ((q 6), .inl (cI, 36, .inl fr)), ((q 7), .inl (cI, 8, .inl ap))] H → va_D A [((q 0), .inr (5, [.ref (q 1), .ref (q 8), .ref (q 10)])), ((q 1), .inr (0, [.ref (q 2), .ref (q 5), .ref (q 7), .int day, .int grace, .int longest, .int spent, .int spentIn, .int spendings, .int urgentSp, .int dropped, .int lapsedLate])), ((q 2), .inr (2, [.ref (q 3)])), ((q 3), .inr (3, [.ref (q 4), .int 12, .int 8, .int rm])), ((q 4), .inl (cI, 96, .inl fm)), ((q 5), .inr (3, [.ref (q 6), .int 6, .int 6, .int rq])), ((q 6), .inl (cI, 36, .inl fr)), ((q 7), .inl (cI, 8, .inl ap))] → va_S A s.heap H locs → ∀ (ls : Array Slot), lv_has ls 2 [] → W p l e (headSpec wsX5_checkRequest ({ frames := 6, cells := 1, slots := 6, locals := 90 })).room s m ([.ref (q 0), .int p1] : List Value).toArray below meth c H locs 0 0 (vx_MQ below (va_Qv (fun _ : Unit => rr = 0) (fun _ t => va_P (dC, dI) vwCl [((q 0), .inr (5, [.ref (q 1), .ref (q 8), .ref (q 10)])), ((q 1), .inr (0, [.ref (q 2), .ref (q 5), .ref (q 7), .int day, .int grace, .int longest, .int spent, .int spentIn, .int spendings, .int urgentSp, .int dropped, .int lapsedLate])), ((q 2), .inr (2, [.ref (q 3)])), ((q 3), .inr (3, [.ref (q 4), .int 12, .int 8, .int rm])), ((q 4), .inl (cI, 96, .inl fm)), ((q 5), .inr (3, [.ref (q 6), .int 6, .int 6, .int rq])), ((q 6), .inl (cI, 36, .inl fr)), ((q 7), .inl (cI, 8, .inl ap))] t.heap) A) (vm_XC (dC, dI) [((q 0), .inr (5, [.ref (q 1), .ref (q 8), .ref (q 10)])), ((q 1), .inr (0, [.ref (q 2), .ref (q 5), .ref (q 7), .int day, .int grace, .int longest, .int spent, .int spentIn, .int spendings, .int urgentSp, .int dropped, .int lapsedLate])), ((q 2), .inr (2, [.ref (q 3)])), ((q 3), .inr (3, [.ref (q 4), .int 12, .int 8, .int rm])), ((q 4), .inl (cI, 96, .inl fm)), ((q 5), .inr (3, [.ref (q 6), .int 6, .int 6, .int rq])), ((q 6), .inl (cI, 36, .inl fr)), ((q 7), .inl (cI, 8, .inl ap))] rr A) ([.ref (q 0), .int p1] : List Value).toArray s 1 6 A) (F0 m 18 ls []) := by
    intro eF H locs hP hD hS ls hl
    have e9 : rr = (1 : Nat) := eF.trans (by rw [f_X5_checkRequest_j18])
    have hat : ∀ w ∈ (vx_atS RX5 238 "java/lang/IndexOutOfBoundsException" ["java/lang/RuntimeException", "java/lang/Exception"]), w.before _ s = true := vx_hat (B := [.castable "java/lang/IndexOutOfBoundsException" "java/lang/IndexOutOfBoundsException", .declares ⟨"java/lang/RuntimeException", "<init>", "(Ljava/lang/String;)V"⟩, .declares ⟨"java/lang/Exception", "<init>", "(Ljava/lang/String;)V"⟩, .declares ⟨"java/lang/Throwable", "<init>", "(Ljava/lang/String;)V"⟩]) (fun w hw => hts w (List.mem_cons_of_mem _ (List.mem_append_right _ hw))) (by decide +kernel) (vx_c (va_Nw.use rfl hY.2.2.2.2.2.2.2.2.2.2.2.2.2.2.2.1) (vx_c (va_Nw.use rfl hY.2.2.2.2.2.2.2.2.2.2.2.2.2.2.2.2.2.2.1) (vx_c (va_Nw.use rfl hY.2.2.2.2.2.2.2.2.2.2.2.2.2.2.2.2.2.2.2.1) (vx_c (va_Nw.use rfl hY.2.2.2.2.2.2.2.2.2.2.2.2.2.2.2.2.2.2.2.2) vx_n))))
    exact vx_throwS (names := ["java/lang/RuntimeException", "java/lang/Exception"]) hx hb hst hown (by decide) (by decide) kw1 kw2 hY.2.2.2.2.2.2.1 hat (by decide +kernel) hZ.1 hZ.2 hS (hl.1.trans hml.symm) dX5_checkRequest_18 dX5_checkRequest_21 dX5_checkRequest_22 dX5_checkRequest_24 dX5_checkRequest_27 (fun x hx9 => (htb x hx9).elim) (Nat.le_of_ble_eq_true rfl) (Nat.le_of_ble_eq_true rfl) (Nat.le_of_ble_eq_true rfl) (Nat.le_of_ble_eq_true rfl) hlocks (fun t ht hz hk => vm_thrown (k0 := rr) (by rw [e9]; rfl) (by rw [e9]; show (1 : Nat) ≠ 0; decide) (by first | (rw [e9]; exact hP) | exact hP) hS hz hk) hS.2.2 (Nat.le_of_ble_eq_true rfl) (Nat.le_of_ble_eq_true rfl)
  refine lv_iload_n hx hb dX5_checkRequest_0 rfl (lv_at hl 1 rfl) ?_
  refine lv_if_lt (tgt := 18) hx hb dX5_checkRequest_1 (by decide) (fun c_1 => ?_) (fun c_1 => ?_)
  · exact hJ18 (eF.trans (by rw [f_X5_checkRequest, if_pos c_1])) _ _ hP hD hS ls (lv_sub hl [] rfl)
  · refine lv_iload_n hx hb dX5_checkRequest_4 rfl (lv_at hl 1 rfl) ?_
    refine lv_aload_n hx hb dX5_checkRequest_5 rfl (lv_at hl 0 rfl) ?_
    refine va_get (D := (dC, dI)) (ci := 5) (v := .ref (q 1)) (C := RX5) (T := TX5) (N := 3) hx hb hts iwsX50 hown hK hP 0 rfl rfl 0 (by decide) kw3 (fun _ h9 => h9) rfl dX5_checkRequest_6 ?_
    refine va_getN (D := (dC, dI)) (ci := 0) (v := .ref (q 5)) (C := RX0) (T := TX0) (N := 12) hx hb hts iwsX00 hown hK hP 1 rfl rfl 1 (by decide) (va_Nw.use rfl hN.2.2.2.2.2.2.2.2.2.1) (fun _ h9 => h9) rfl dX5_checkRequest_9 ?_
    refine va_getN (D := (dC, dI)) (ci := 3) (v := .int rq) (C := RX3) (T := TX3) (N := 4) hx hb hts iwsX30 hown hK hP 5 rfl rfl 3 (by decide) (va_Nw.use rfl hN.2.2.2.2.2.2.1) (fun _ h9 => h9) rfl dX5_checkRequest_12 ?_
    refine lv_icmp_lt (tgt := 28) hx hb dX5_checkRequest_15 (by decide) (fun c_2 => ?_) (fun c_2 => ?_)
    · have e9 : rr = 0 := eF.trans (by rw [f_X5_checkRequest, if_neg c_1, if_pos c_2])
      refine vx_ret ?_
      refine W.widen (k := 1) (n := 6) (Nat.le_of_ble_eq_true rfl) (Nat.le_of_ble_eq_true rfl) ?_
      exact W.vret hx hb hr (fun t ht hW => ⟨⟨(), rfl, by rw [e9], (by (try rw [e9]); show va_P _ _ _ t.heap; rw [ht]; exact hP)⟩, hS.F ht⟩) hS.2.2 dX5_checkRequest_28
    · exact hJ18 (eF.trans (by rw [f_X5_checkRequest, if_neg c_1, if_neg c_2])) _ _ hP hD hS ls (lv_sub hl [] rfl)

def f_X5_checkStands (rm : Int32) (fm : Nat → Int32) (p1 : Int32) : Nat :=
  if (vm_bi (f_X2_stands rm fm p1)) = 0 then
    3
  else
    0
theorem yd_X5_checkStands : yX5_checkStands.cls = RX5 ∧ yX5_checkStands.cls ≠ "java/lang/invoke/MethodHandle" ∧ yX5_checkStands.cls ≠ "java/lang/invoke/VarHandle" ∧ (parseMethodDescriptor yX5_checkStands.desc).map (fun d => d.parameters.length) = some 1 := by decide +kernel
set_option maxHeartbeats 4000000 in
set_option maxRecDepth 100000 in
theorem c_X5_checkStands (l : Launch) (hst : l.stackTraces = false) (dC : Nat → ClassId) (dI : Nat → Nat → Nat) (cI cB : ClassId) (q : Nat → Nat) (sz : Nat) (sa : Nat → Nat) (rm : Int32) (fm : Nat → Int32) (rq : Int32) (fr : Nat → Int32) (ap : Nat → Int32) (day : Int32) (grace : Int32) (longest : Int32) (spent : Int32) (spentIn : Int32) (spendings : Int32) (urgentSp : Int32) (dropped : Int32) (lapsedLate : Int32) (p1 : Int32) : vx_Met l yX5_checkStands wsX5_checkStands ({ frames := 6, cells := 1, slots := 6, locals := 90 }) (vm_prx [.ref (q 0), .int p1] (dC, dI) [((q 0), .inr (5, [.ref (q 1), .ref (q 8), .ref (q 10)])), ((q 1), .inr (0, [.ref (q 2), .ref (q 5), .ref (q 7), .int day, .int grace, .int longest, .int spent, .int spentIn, .int spendings, .int urgentSp, .int dropped, .int lapsedLate])), ((q 2), .inr (2, [.ref (q 3)])), ((q 3), .inr (3, [.ref (q 4), .int 12, .int 8, .int rm])), ((q 4), .inl (cI, 96, .inl fm)), ((q 5), .inr (3, [.ref (q 6), .int 6, .int 6, .int rq])), ((q 6), .inl (cI, 36, .inl fr)), ((q 7), .inl (cI, 8, .inl ap))] cI cB sz sa) (va_Qv (fun _ : Unit => (f_X5_checkStands rm fm p1) = 0) (fun _ t => va_P (dC, dI) vwCl [((q 0), .inr (5, [.ref (q 1), .ref (q 8), .ref (q 10)])), ((q 1), .inr (0, [.ref (q 2), .ref (q 5), .ref (q 7), .int day, .int grace, .int longest, .int spent, .int spentIn, .int spendings, .int urgentSp, .int dropped, .int lapsedLate])), ((q 2), .inr (2, [.ref (q 3)])), ((q 3), .inr (3, [.ref (q 4), .int 12, .int 8, .int rm])), ((q 4), .inl (cI, 96, .inl fm)), ((q 5), .inr (3, [.ref (q 6), .int 6, .int 6, .int rq])), ((q 6), .inl (cI, 36, .inl fr)), ((q 7), .inl (cI, 8, .inl ap))] t.heap) (va_A [((q 0), .inr (5, [.ref (q 1), .ref (q 8), .ref (q 10)])), ((q 1), .inr (0, [.ref (q 2), .ref (q 5), .ref (q 7), .int day, .int grace, .int longest, .int spent, .int spentIn, .int spendings, .int urgentSp, .int dropped, .int lapsedLate])), ((q 2), .inr (2, [.ref (q 3)])), ((q 3), .inr (3, [.ref (q 4), .int 12, .int 8, .int rm])), ((q 4), .inl (cI, 96, .inl fm)), ((q 5), .inr (3, [.ref (q 6), .int 6, .int 6, .int rq])), ((q 6), .inl (cI, 36, .inl fr)), ((q 7), .inl (cI, 8, .inl ap))] sz)) (vm_XC (dC, dI) [((q 0), .inr (5, [.ref (q 1), .ref (q 8), .ref (q 10)])), ((q 1), .inr (0, [.ref (q 2), .ref (q 5), .ref (q 7), .int day, .int grace, .int longest, .int spent, .int spentIn, .int spendings, .int urgentSp, .int dropped, .int lapsedLate])), ((q 2), .inr (2, [.ref (q 3)])), ((q 3), .inr (3, [.ref (q 4), .int 12, .int 8, .int rm])), ((q 4), .inl (cI, 96, .inl fm)), ((q 5), .inr (3, [.ref (q 6), .int 6, .int 6, .int rq])), ((q 6), .inl (cI, 36, .inl fr)), ((q 7), .inl (cI, 8, .inl ap))] (f_X5_checkStands rm fm p1) (va_A [((q 0), .inr (5, [.ref (q 1), .ref (q 8), .ref (q 10)])), ((q 1), .inr (0, [.ref (q 2), .ref (q 5), .ref (q 7), .int day, .int grace, .int longest, .int spent, .int spentIn, .int spendings, .int urgentSp, .int dropped, .int lapsedLate])), ((q 2), .inr (2, [.ref (q 3)])), ((q 3), .inr (3, [.ref (q 4), .int 12, .int 8, .int rm])), ((q 4), .inl (cI, 96, .inl fm)), ((q 5), .inr (3, [.ref (q 6), .int 6, .int 6, .int rq])), ((q 6), .inl (cI, 36, .inl fr)), ((q 7), .inl (cI, 8, .inl ap))] sz)) 1 6 (va_A [((q 0), .inr (5, [.ref (q 1), .ref (q 8), .ref (q 10)])), ((q 1), .inr (0, [.ref (q 2), .ref (q 5), .ref (q 7), .int day, .int grace, .int longest, .int spent, .int spentIn, .int spendings, .int urgentSp, .int dropped, .int lapsedLate])), ((q 2), .inr (2, [.ref (q 3)])), ((q 3), .inr (3, [.ref (q 4), .int 12, .int 8, .int rm])), ((q 4), .inl (cI, 96, .inl fm)), ((q 5), .inr (3, [.ref (q 6), .int 6, .int 6, .int rq])), ((q 6), .inl (cI, 36, .inl fr)), ((q 7), .inl (cI, 8, .inl ap))] sz) := by
  refine vx_ofW (cc := cX5_checkStands) (maxL := 2) (ret := none) (by decide) rfl ?_
  intro p e s m args below meth c s₁ B hml htb hv
  obtain ⟨rfl, hsz, hP, hK, hN, hD0, hY, hZ⟩ := hv
  have hx := B.exec
  have hb := B.bytes
  have hr := B.returns
  have hts := atoms_spec (ws := wsX5_checkStands) B.pre
  have hown : s.vm.findClass RX5 = some m.cls := findClass_of_methodNamed B.named
  have hlocks := B.notSynchronized
  subst hsz
  have hD := hD0.self (sz := s.heap.size)
  generalize hAe : va_A [((q 0), .inr (5, [.ref (q 1), .ref (q 8), .ref (q 10)])), ((q 1), .inr (0, [.ref (q 2), .ref (q 5), .ref (q 7), .int day, .int grace, .int longest, .int spent, .int spentIn, .int spendings, .int urgentSp, .int dropped, .int lapsedLate])), ((q 2), .inr (2, [.ref (q 3)])), ((q 3), .inr (3, [.ref (q 4), .int 12, .int 8, .int rm])), ((q 4), .inl (cI, 96, .inl fm)), ((q 5), .inr (3, [.ref (q 6), .int 6, .int 6, .int rq])), ((q 6), .inl (cI, 36, .inl fr)), ((q 7), .inl (cI, 8, .inl ap))] s.heap.size = A at hD hZ ⊢
  have hA : ∀ q : Nat, s.heap.size ≤ q → A q := fun q h => by rw [← hAe]; exact Or.inr h
  have hS : va_S A s.heap s.heap [] := va_S.rf
  have hP : va_P (dC, dI) vwCl [((q 0), .inr (5, [.ref (q 1), .ref (q 8), .ref (q 10)])), ((q 1), .inr (0, [.ref (q 2), .ref (q 5), .ref (q 7), .int day, .int grace, .int longest, .int spent, .int spentIn, .int spendings, .int urgentSp, .int dropped, .int lapsedLate])), ((q 2), .inr (2, [.ref (q 3)])), ((q 3), .inr (3, [.ref (q 4), .int 12, .int 8, .int rm])), ((q 4), .inl (cI, 96, .inl fm)), ((q 5), .inr (3, [.ref (q 6), .int 6, .int 6, .int rq])), ((q 6), .inl (cI, 36, .inl fr)), ((q 7), .inl (cI, 8, .inl ap))] s.heap := hP
  have kw1 := hts (.classLink RX5 42 "java/lang/IllegalStateException") (List.mem_of_getElem? (i := 1) rfl)
  have kw2 := hts (.initialized "java/lang/IllegalStateException") (List.mem_of_getElem? (i := 2) rfl)
  have kw3 := hts (.fieldLink RX5 12 "LapseMandates" "book" "LLapseMandates$Book;") (List.mem_of_getElem? (i := 3) rfl)
  have iwsX00 : ∀ w ∈ wsX00, w ∈ wsX5_checkStands := fun w h => List.mem_cons_of_mem _ (List.mem_append_left _ (List.mem_append_left _ (List.mem_append_left _ (List.mem_append_right _ h))))
  have iwsX50 : ∀ w ∈ wsX50, w ∈ wsX5_checkStands := fun w h => List.mem_cons_of_mem _ (List.mem_append_left _ (List.mem_append_left _ (List.mem_append_left _ (List.mem_append_left _ (List.mem_append_right _ h)))))
  generalize hrr : f_X5_checkStands rm fm p1 = rr
  have eF := hrr.symm
  have hl := lv_entry ([.ref (q 0), .int p1]) (n := 2) (Nat.le_of_ble_eq_true rfl)
  rw [lg_entry_eq]
  generalize (lg_sl ([.ref (q 0), .int p1]) ++ List.replicate (2 - (lg_sl ([.ref (q 0), .int p1])).length) Slot.unset).toArray = ls at hl ⊢
  have hl : lv_has ls 2 [(0, .ref (q 0)), (1, .int p1)] := hl
  refine lv_aload_n hx hb dX5_checkStands_0 rfl (lv_at hl 0 rfl) ?_
  refine va_get (D := (dC, dI)) (ci := 5) (v := .ref (q 1)) (C := RX5) (T := TX5) (N := 3) hx hb hts iwsX50 hown hK hP 0 rfl rfl 0 (by decide) kw3 (fun _ h9 => h9) rfl dX5_checkStands_1 ?_
  refine va_getN (D := (dC, dI)) (ci := 0) (v := .ref (q 2)) (C := RX0) (T := TX0) (N := 12) hx hb hts iwsX00 hown hK hP 1 rfl rfl 0 (by decide) (va_Nw.use rfl hN.2.2.2.2.2.2.2.2.1) (fun _ h9 => h9) rfl dX5_checkStands_4 ?_
  refine lv_iload_n hx hb dX5_checkStands_7 rfl (lv_at hl 1 rfl) ?_
  refine vm_roVx (v := vm_bi (f_X2_stands rm fm p1)) (As := [.int p1]) (rest := []) (T := TX2) (N := 1) (wc := [((q 2), .inr (2, [.ref (q 3)])), ((q 3), .inr (3, [.ref (q 4), .int 12, .int 8, .int rm])), ((q 4), .inl (cI, 96, .inl fm))]) ⟨hx, hb, hml, hown, hts⟩ hK hN hP hl.1 ⟨Nat.le_of_ble_eq_true rfl, Nat.le_of_ble_eq_true rfl⟩ (c_X2_stands l dC dI cI cB (q 2) (q 3) (q 4) rm fm p1) (cwV 1 hts gX5_checkStands_X2_stands rfl rfl rfl yd_X2_stands ⟨Nat.le_of_ble_eq_true rfl, Nat.le_of_ble_eq_true rfl⟩) [2, 3, 4] rfl 2 rfl rfl rfl rfl (Nat.le_of_ble_eq_true rfl) dX5_checkStands_8 ?_
  refine lv_if_ne (tgt := 24) hx hb dX5_checkStands_11 (by decide) (fun c_1 => ?_) (fun c_1 => ?_)
  · have e9 : rr = 0 := eF.trans (by rw [f_X5_checkStands, if_neg c_1])
    refine vx_ret ?_
    refine W.widen (k := 1) (n := 6) (Nat.le_of_ble_eq_true rfl) (Nat.le_of_ble_eq_true rfl) ?_
    exact W.vret hx hb hr (fun t ht hW => ⟨⟨(), rfl, by rw [e9], (by (try rw [e9]); show va_P _ _ _ t.heap; rw [ht]; exact hP)⟩, hS.F ht⟩) hS.2.2 dX5_checkStands_24
  · have e9 : rr = (3 : Nat) := eF.trans (by rw [f_X5_checkStands, if_pos c_1])
    have hat : ∀ w ∈ (vx_atS RX5 46 "java/lang/IllegalStateException" ["java/lang/RuntimeException", "java/lang/Exception"]), w.before _ s = true := vx_hat (B := [.castable "java/lang/IllegalStateException" "java/lang/IllegalStateException", .declares ⟨"java/lang/RuntimeException", "<init>", "(Ljava/lang/String;)V"⟩, .declares ⟨"java/lang/Exception", "<init>", "(Ljava/lang/String;)V"⟩, .declares ⟨"java/lang/Throwable", "<init>", "(Ljava/lang/String;)V"⟩]) (fun w hw => hts w (List.mem_cons_of_mem _ (List.mem_append_right _ hw))) (by decide +kernel) (vx_c (va_Nw.use rfl hY.2.2.2.2.2.2.2.2.2.2.2.2.2.2.2.2.2.1) (vx_c (va_Nw.use rfl hY.2.2.2.2.2.2.2.2.2.2.2.2.2.2.2.2.2.2.1) (vx_c (va_Nw.use rfl hY.2.2.2.2.2.2.2.2.2.2.2.2.2.2.2.2.2.2.2.1) (vx_c (va_Nw.use rfl hY.2.2.2.2.2.2.2.2.2.2.2.2.2.2.2.2.2.2.2.2) vx_n))))
    exact vx_throwS (names := ["java/lang/RuntimeException", "java/lang/Exception"]) hx hb hst hown (by decide) (by decide) kw1 kw2 hY.2.2.2.2.2.2.2.2.2.2.1 hat (by decide +kernel) hZ.1 hZ.2 hS (hl.1.trans hml.symm) dX5_checkStands_14 dX5_checkStands_17 dX5_checkStands_18 dX5_checkStands_20 dX5_checkStands_23 (fun x hx9 => (htb x hx9).elim) (Nat.le_of_ble_eq_true rfl) (Nat.le_of_ble_eq_true rfl) (Nat.le_of_ble_eq_true rfl) (Nat.le_of_ble_eq_true rfl) hlocks (fun t ht hz hk => vm_thrown (k0 := rr) (by rw [e9]; rfl) (by rw [e9]; show (3 : Nat) ≠ 0; decide) (by first | (rw [e9]; exact hP) | exact hP) hS hz hk) hS.2.2 (Nat.le_of_ble_eq_true rfl) (Nat.le_of_ble_eq_true rfl)
