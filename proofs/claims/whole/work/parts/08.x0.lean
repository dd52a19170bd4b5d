def f_X0_isUrgent (rq : Int32) (fr : Nat → Int32) (p1 : Int32) : Bool :=
  if (f_X3_get 6 rq 36 fr p1 3) = 1 then
    true
  else
    false
theorem yd_X0_isUrgent : yX0_isUrgent.cls = RX0 ∧ yX0_isUrgent.cls ≠ "java/lang/invoke/MethodHandle" ∧ yX0_isUrgent.cls ≠ "java/lang/invoke/VarHandle" ∧ (parseMethodDescriptor yX0_isUrgent.desc).map (fun d => d.parameters.length) = some 1 := by decide +kernel
set_option maxHeartbeats 4000000 in
set_option maxRecDepth 100000 in
theorem c_X0_isUrgent (l : Launch) (dC : Nat → ClassId) (dI : Nat → Nat → Nat) (cI cB : ClassId) (h0 h1 h2 h3 h4 h5 h6 : Nat) (rm : Int32) (fm : Nat → Int32) (rq : Int32) (fr : Nat → Int32) (ap : Nat → Int32) (day : Int32) (grace : Int32) (longest : Int32) (spent : Int32) (spentIn : Int32) (spendings : Int32) (urgentSp : Int32) (dropped : Int32) (lapsedLate : Int32) (p1 : Int32) : Met l yX0_isUrgent wsX0_isUrgent ({ frames := 1, cells := 0, slots := 0, locals := 23 }) (vm_pre [.ref h0, .int p1] (dC, dI) [(h0, .inr (0, [.ref h1, .ref h4, .ref h6, .int day, .int grace, .int longest, .int spent, .int spentIn, .int spendings, .int urgentSp, .int dropped, .int lapsedLate])), (h1, .inr (2, [.ref h2])), (h2, .inr (3, [.ref h3, .int 12, .int 8, .int rm])), (h3, .inl (cI, 96, .inl fm)), (h4, .inr (3, [.ref h5, .int 6, .int 6, .int rq])), (h5, .inl (cI, 36, .inl fr)), (h6, .inl (cI, 8, .inl ap))] cI cB) (vp_Si (fun r9 : Int32 => r9 = vm_bi (f_X0_isUrgent rq fr p1))) 0 0 (fun _ => False) := by
  refine Met.ofW (cc := cX0_isUrgent) (maxL := 2) (ret := (some .boolean)) (by decide) rfl ?_
  intro p e s m args below meth c s₁ B hml hv
  obtain ⟨rfl, hP, hK, hN⟩ := hv
  have hx := B.exec
  have hb := B.bytes
  have hr := B.returns
  have hts := atoms_spec (ws := wsX0_isUrgent) B.pre
  have hown : s.vm.findClass RX0 = some m.cls := findClass_of_methodNamed B.named
  have hlocks := B.notSynchronized
  have kw1 := hts (.fieldLink RX0 23 "LapseMandates$Book" "requests" "LLapseMandates$Table;") (List.mem_of_getElem? (i := 1) rfl)
  have iwsX00 : ∀ w ∈ wsX00, w ∈ wsX0_isUrgent := fun w h => List.mem_cons_of_mem _ (List.mem_append_left _ (List.mem_append_right _ h))
  generalize hrr : f_X0_isUrgent rq fr p1 = rr
  have eF := hrr.symm
  have hl := lv_entry ([.ref h0, .int p1]) (n := 2) (Nat.le_of_ble_eq_true rfl)
  rw [lg_entry_eq]
  generalize (lg_sl ([.ref h0, .int p1]) ++ List.replicate (2 - (lg_sl ([.ref h0, .int p1])).length) Slot.unset).toArray = ls at hl ⊢
  have hl : lv_has ls 2 [(0, .ref h0), (1, .int p1)] := hl
  refine lv_aload_n hx hb dX0_isUrgent_0 rfl (lv_at hl 0 rfl) ?_
  refine va_get (D := (dC, dI)) (ci := 0) (v := .ref h4) (C := RX0) (T := TX0) (N := 12) hx hb hts iwsX00 hown hK hP 0 rfl rfl 1 (by decide) kw1 (fun _ h9 => h9) rfl dX0_isUrgent_1 ?_
  refine lv_iload_n hx hb dX0_isUrgent_4 rfl (lv_at hl 1 rfl) ?_
  refine lv_iconst (v := 3) hx hb dX0_isUrgent_5 (by decide) ?_
  refine vm_roVx (v := (f_X3_get 6 rq 36 fr p1 3)) (As := [.int p1, .int 3]) (rest := []) (T := TX3) (N := 4) (wc := [(h4, .inr (3, [.ref h5, .int 6, .int 6, .int rq])), (h5, .inl (cI, 36, .inl fr))]) ⟨hx, hb, hml, hown, hts⟩ hK hN hP hl.1 ⟨Nat.le_of_ble_eq_true rfl, Nat.le_of_ble_eq_true rfl⟩ (c_X3_get l dC dI cI cB h4 h5 6 6 rq 36 fr p1 3 (by decide)) (cwV 2 hts gX0_isUrgent_X3_get rfl rfl rfl yd_X3_get ⟨Nat.le_of_ble_eq_true rfl, Nat.le_of_ble_eq_true rfl⟩) [4, 5] rfl 3 rfl rfl rfl rfl (Nat.le_of_ble_eq_true rfl) dX0_isUrgent_6 ?_
  refine lv_iconst (v := 1) hx hb dX0_isUrgent_9 (by decide) ?_
  refine lv_icmp_ne (tgt := 17) hx hb dX0_isUrgent_10 (by decide) (fun c_1 => ?_) (fun c_1 => ?_)
  · refine lv_iconst (v := 0) hx hb dX0_isUrgent_17 (by decide) ?_
    have e9 : rr = false := eF.trans (by rw [f_X0_isUrgent, if_neg c_1])
    exact W.zret (v := 0) hx hb hr rfl (fun t ht hW => ⟨_, rfl, by rw [e9] <;> rfl, ht⟩) (fun _ hq => by cases hq) dX0_isUrgent_18
  · refine lv_iconst (v := 1) hx hb dX0_isUrgent_13 (by decide) ?_
    refine lv_goto (tgt := 18) hx hb dX0_isUrgent_14 (by decide) ?_
    have e9 : rr = true := eF.trans (by rw [f_X0_isUrgent, if_pos c_1])
    exact W.zret (v := 1) hx hb hr rfl (fun t ht hW => ⟨_, rfl, by rw [e9] <;> rfl, ht⟩) (fun _ hq => by cases hq) dX0_isUrgent_18

def f_X0_settingValue (grace : Int32) (longest : Int32) (p1 : Int32) : Int32 :=
  if p1 = 0 then
    grace
  else
    longest
theorem yd_X0_settingValue : yX0_settingValue.cls = RX0 ∧ yX0_settingValue.cls ≠ "java/lang/invoke/MethodHandle" ∧ yX0_settingValue.cls ≠ "java/lang/invoke/VarHandle" ∧ (parseMethodDescriptor yX0_settingValue.desc).map (fun d => d.parameters.length) = some 1 := by decide +kernel
set_option maxHeartbeats 4000000 in
set_option maxRecDepth 100000 in
theorem c_X0_settingValue (l : Launch) (dC : Nat → ClassId) (dI : Nat → Nat → Nat) (cI cB : ClassId) (h0 h1 h2 h3 h4 h5 h6 : Nat) (rm : Int32) (fm : Nat → Int32) (rq : Int32) (fr : Nat → Int32) (ap : Nat → Int32) (day : Int32) (grace : Int32) (longest : Int32) (spent : Int32) (spentIn : Int32) (spendings : Int32) (urgentSp : Int32) (dropped : Int32) (lapsedLate : Int32) (p1 : Int32) : Met l yX0_settingValue wsX0_settingValue ({ frames := 0, cells := 0, slots := 0, locals := 0 }) (vm_pre [.ref h0, .int p1] (dC, dI) [(h0, .inr (0, [.ref h1, .ref h4, .ref h6, .int day, .int grace, .int longest, .int spent, .int spentIn, .int spendings, .int urgentSp, .int dropped, .int lapsedLate])), (h1, .inr (2, [.ref h2])), (h2, .inr (3, [.ref h3, .int 12, .int 8, .int rm])), (h3, .inl (cI, 96, .inl fm)), (h4, .inr (3, [.ref h5, .int 6, .int 6, .int rq])), (h5, .inl (cI, 36, .inl fr)), (h6, .inl (cI, 8, .inl ap))] cI cB) (vp_Si (fun r9 : Int32 => r9 = (f_X0_settingValue grace longest p1))) 0 0 (fun _ => False) := by
  refine Met.ofW (cc := cX0_settingValue) (maxL := 2) (ret := (some .int)) (by decide) rfl ?_
  intro p e s m args below meth c s₁ B hml hv
  obtain ⟨rfl, hP, hK, hN⟩ := hv
  have hx := B.exec
  have hb := B.bytes
  have hr := B.returns
  have hts := atoms_spec (ws := wsX0_settingValue) B.pre
  have hown : s.vm.findClass RX0 = some m.cls := findClass_of_methodNamed B.named
  have hlocks := B.notSynchronized
  have kw1 := hts (.fieldLink RX0 31 "LapseMandates$Book" "grace" "I") (List.mem_of_getElem? (i := 1) rfl)
  have kw2 := hts (.fieldLink RX0 35 "LapseMandates$Book" "longestChain" "I") (List.mem_of_getElem? (i := 2) rfl)
  have iwsX00 : ∀ w ∈ wsX00, w ∈ wsX0_settingValue := fun w h => List.mem_cons_of_mem _ (List.mem_append_right _ h)
  generalize hrr : f_X0_settingValue grace longest p1 = rr
  have eF := hrr.symm
  have hl := lv_entry ([.ref h0, .int p1]) (n := 2) (Nat.le_of_ble_eq_true rfl)
  rw [lg_entry_eq]
  generalize (lg_sl ([.ref h0, .int p1]) ++ List.replicate (2 - (lg_sl ([.ref h0, .int p1])).length) Slot.unset).toArray = ls at hl ⊢
  have hl : lv_has ls 2 [(0, .ref h0), (1, .int p1)] := hl
  refine lv_iload_n hx hb dX0_settingValue_0 rfl (lv_at hl 1 rfl) ?_
  refine lv_if_ne (tgt := 11) hx hb dX0_settingValue_1 (by decide) (fun c_1 => ?_) (fun c_1 => ?_)
  · refine lv_aload_n hx hb dX0_settingValue_11 rfl (lv_at hl 0 rfl) ?_
    refine va_get (D := (dC, dI)) (ci := 0) (v := .int longest) (C := RX0) (T := TX0) (N := 12) hx hb hts iwsX00 hown hK hP 0 rfl rfl 5 (by decide) kw2 (fun _ h9 => h9) rfl dX0_settingValue_12 ?_
    have e9 : rr = longest := eF.trans (by rw [f_X0_settingValue, if_neg c_1])
    exact W.iret (v := longest) hx hb hr (fun t ht hW => ⟨_, rfl, e9.symm, ht⟩) (fun _ hq => by cases hq) dX0_settingValue_15
  · refine lv_aload_n hx hb dX0_settingValue_4 rfl (lv_at hl 0 rfl) ?_
    refine va_get (D := (dC, dI)) (ci := 0) (v := .int grace) (C := RX0) (T := TX0) (N := 12) hx hb hts iwsX00 hown hK hP 0 rfl rfl 4 (by decide) kw1 (fun _ h9 => h9) rfl dX0_settingValue_5 ?_
    refine lv_goto (tgt := 15) hx hb dX0_settingValue_8 (by decide) ?_
    have e9 : rr = grace := eF.trans (by rw [f_X0_settingValue, if_pos c_1])
    exact W.iret (v := grace) hx hb hr (fun t ht hW => ⟨_, rfl, e9.symm, ht⟩) (fun _ hq => by cases hq) dX0_settingValue_15

def f_X0_changeSetting (grace : Int32) (longest : Int32) (p1 : Int32) (p2 : Int32) : Int32 × Int32 × Int32 :=
  if p1 = 0 then
    ((f_X0_settingValue grace longest p1), p2, longest)
  else
    ((f_X0_settingValue grace longest p1), grace, p2)
theorem yd_X0_changeSetting : yX0_changeSetting.cls = RX0 ∧ yX0_changeSetting.cls ≠ "java/lang/invoke/MethodHandle" ∧ yX0_changeSetting.cls ≠ "java/lang/invoke/VarHandle" ∧ (parseMethodDescriptor yX0_changeSetting.desc).map (fun d => d.parameters.length) = some 2 := by decide +kernel
set_option maxHeartbeats 4000000 in
set_option maxRecDepth 100000 in
theorem c_X0_changeSetting (l : Launch) (dC : Nat → ClassId) (dI : Nat → Nat → Nat) (cI cB : ClassId) (h0 h1 h2 h3 h4 h5 h6 : Nat) (sz : Nat) (rm : Int32) (fm : Nat → Int32) (rq : Int32) (fr : Nat → Int32) (ap : Nat → Int32) (day : Int32) (grace : Int32) (longest : Int32) (spent : Int32) (spentIn : Int32) (spendings : Int32) (urgentSp : Int32) (dropped : Int32) (lapsedLate : Int32) (p1 : Int32) (p2 : Int32) : Met l yX0_changeSetting wsX0_changeSetting ({ frames := 1, cells := 0, slots := 0, locals := 21 }) (vm_prw [.ref h0, .int p1, .int p2] (dC, dI) [(h0, .inr (0, [.ref h1, .ref h4, .ref h6, .int day, .int grace, .int longest, .int spent, .int spentIn, .int spendings, .int urgentSp, .int dropped, .int lapsedLate])), (h1, .inr (2, [.ref h2])), (h2, .inr (3, [.ref h3, .int 12, .int 8, .int rm])), (h3, .inl (cI, 96, .inl fm)), (h4, .inr (3, [.ref h5, .int 6, .int 6, .int rq])), (h5, .inl (cI, 36, .inl fr)), (h6, .inl (cI, 8, .inl ap))] cI cB sz) (va_Qi (fun (r9 : Int32) (_ : Unit) => r9 = (f_X0_changeSetting grace longest p1 p2).1) (fun _ t => va_P (dC, dI) vwCl [(h0, .inr (0, [.ref h1, .ref h4, .ref h6, .int day, .int ((f_X0_changeSetting grace longest p1 p2).2.1), .int ((f_X0_changeSetting grace longest p1 p2).2.2), .int spent, .int spentIn, .int spendings, .int urgentSp, .int dropped, .int lapsedLate])), (h1, .inr (2, [.ref h2])), (h2, .inr (3, [.ref h3, .int 12, .int 8, .int rm])), (h3, .inl (cI, 96, .inl fm)), (h4, .inr (3, [.ref h5, .int 6, .int 6, .int rq])), (h5, .inl (cI, 36, .inl fr)), (h6, .inl (cI, 8, .inl ap))] t.heap) (va_A [(h0, .inr (0, [.ref h1, .ref h4, .ref h6, .int day, .int grace, .int longest, .int spent, .int spentIn, .int spendings, .int urgentSp, .int dropped, .int lapsedLate])), (h1, .inr (2, [.ref h2])), (h2, .inr (3, [.ref h3, .int 12, .int 8, .int rm])), (h3, .inl (cI, 96, .inl fm)), (h4, .inr (3, [.ref h5, .int 6, .int 6, .int rq])), (h5, .inl (cI, 36, .inl fr)), (h6, .inl (cI, 8, .inl ap))] sz)) 0 0 (va_A [(h0, .inr (0, [.ref h1, .ref h4, .ref h6, .int day, .int grace, .int longest, .int spent, .int spentIn, .int spendings, .int urgentSp, .int dropped, .int lapsedLate])), (h1, .inr (2, [.ref h2])), (h2, .inr (3, [.ref h3, .int 12, .int 8, .int rm])), (h3, .inl (cI, 96, .inl fm)), (h4, .inr (3, [.ref h5, .int 6, .int 6, .int rq])), (h5, .inl (cI, 36, .inl fr)), (h6, .inl (cI, 8, .inl ap))] sz) := by
  refine Met.ofW (cc := cX0_changeSetting) (maxL := 4) (ret := (some .int)) (by decide) rfl ?_
  intro p e s m args below meth c s₁ B hml hv
  obtain ⟨rfl, hsz, hP, hK, hN, hD0⟩ := hv
  have hx := B.exec
  have hb := B.bytes
  have hr := B.returns
  have hts := atoms_spec (ws := wsX0_changeSetting) B.pre
  have hown : s.vm.findClass RX0 = some m.cls := findClass_of_methodNamed B.named
  have hlocks := B.notSynchronized
  subst hsz
  have hD := hD0.self (sz := s.heap.size)
  generalize hAe : va_A [(h0, .inr (0, [.ref h1, .ref h4, .ref h6, .int day, .int grace, .int longest, .int spent, .int spentIn, .int spendings, .int urgentSp, .int dropped, .int lapsedLate])), (h1, .inr (2, [.ref h2])), (h2, .inr (3, [.ref h3, .int 12, .int 8, .int rm])), (h3, .inl (cI, 96, .inl fm)), (h4, .inr (3, [.ref h5, .int 6, .int 6, .int rq])), (h5, .inl (cI, 36, .inl fr)), (h6, .inl (cI, 8, .inl ap))] s.heap.size = A at hD ⊢
  have hA : ∀ q : Nat, s.heap.size ≤ q → A q := fun q h => by rw [← hAe]; exact Or.inr h
  have hS : va_S A s.heap s.heap [] := va_S.rf
  have hP : va_P (dC, dI) vwCl [(h0, .inr (0, [.ref h1, .ref h4, .ref h6, .int day, .int grace, .int longest, .int spent, .int spentIn, .int spendings, .int urgentSp, .int dropped, .int lapsedLate])), (h1, .inr (2, [.ref h2])), (h2, .inr (3, [.ref h3, .int 12, .int 8, .int rm])), (h3, .inl (cI, 96, .inl fm)), (h4, .inr (3, [.ref h5, .int 6, .int 6, .int rq])), (h5, .inl (cI, 36, .inl fr)), (h6, .inl (cI, 8, .inl ap))] s.heap := hP
  have kw1 := hts (.fieldLink RX0 31 "LapseMandates$Book" "grace" "I") (List.mem_of_getElem? (i := 1) rfl)
  have kw2 := hts (.fieldLink RX0 35 "LapseMandates$Book" "longestChain" "I") (List.mem_of_getElem? (i := 2) rfl)
  have iwsX00 : ∀ w ∈ wsX00, w ∈ wsX0_changeSetting := fun w h => List.mem_cons_of_mem _ (List.mem_append_right _ h)
  generalize hrr : f_X0_changeSetting grace longest p1 p2 = rr
  have eF := hrr.symm
  have hl := lv_entry ([.ref h0, .int p1, .int p2]) (n := 4) (Nat.le_of_ble_eq_true rfl)
  rw [lg_entry_eq]
  generalize (lg_sl ([.ref h0, .int p1, .int p2]) ++ List.replicate (4 - (lg_sl ([.ref h0, .int p1, .int p2])).length) Slot.unset).toArray = ls at hl ⊢
  have hl : lv_has ls 4 [(0, .ref h0), (1, .int p1), (2, .int p2)] := hl
  refine lv_aload_n hx hb dX0_changeSetting_0 rfl (lv_at hl 0 rfl) ?_
  refine lv_iload_n hx hb dX0_changeSetting_1 rfl (lv_at hl 1 rfl) ?_
  refine vm_roVx (v := (f_X0_settingValue grace longest p1)) (As := [.int p1]) (rest := []) (T := TX0) (N := 12) (wc := [(h0, .inr (0, [.ref h1, .ref h4, .ref h6, .int day, .int grace, .int longest, .int spent, .int spentIn, .int spendings, .int urgentSp, .int dropped, .int lapsedLate])), (h1, .inr (2, [.ref h2])), (h2, .inr (3, [.ref h3, .int 12, .int 8, .int rm])), (h3, .inl (cI, 96, .inl fm)), (h4, .inr (3, [.ref h5, .int 6, .int 6, .int rq])), (h5, .inl (cI, 36, .inl fr)), (h6, .inl (cI, 8, .inl ap))]) ⟨hx, hb, hml, hown, hts⟩ hK hN hP hl.1 ⟨Nat.le_of_ble_eq_true rfl, Nat.le_of_ble_eq_true rfl⟩ (c_X0_settingValue l dC dI cI cB h0 h1 h2 h3 h4 h5 h6 rm fm rq fr ap day grace longest spent spentIn spendings urgentSp dropped lapsedLate p1) (cwV 1 hts gX0_changeSetting_X0_settingValue rfl rfl rfl yd_X0_settingValue ⟨Nat.le_of_ble_eq_true rfl, Nat.le_of_ble_eq_true rfl⟩) [0, 1, 2, 3, 4, 5, 6] rfl 0 rfl rfl rfl rfl (Nat.le_of_ble_eq_true rfl) dX0_changeSetting_2 ?_
  refine lv_istore_n (lv' := [(3, .int (f_X0_settingValue grace longest p1)), (0, .ref h0), (1, .int p1), (2, .int p2)]) hx hb dX0_changeSetting_5 rfl hl (by decide) rfl (fun ls hl => ?_)
  refine lv_iload_n hx hb dX0_changeSetting_6 rfl (lv_at hl 2 rfl) ?_
  refine lv_if_ne (tgt := 18) hx hb dX0_changeSetting_7 (by decide) (fun c_1 => ?_) (fun c_1 => ?_)
  · refine lv_aload_n hx hb dX0_changeSetting_18 rfl (lv_at hl 1 rfl) ?_
    refine lv_iload_n hx hb dX0_changeSetting_19 rfl (lv_at hl 3 rfl) ?_
    refine va_put (D := (dC, dI)) (ci := 0) (v := .int p2) (ty := .int) (C := RX0) (T := TX0) (N := 12) hx hb hts iwsX00 tyX0 tyX0_ok nmX0 hown hK hP hD hS 0 rfl rfl 5 (by decide) kw2 (fun _ h9 => h9) rfl (by decide +kernel) rfl rfl (Nat.le_of_ble_eq_true rfl) dX0_changeSetting_20 (fun H locs hP hD hS => ?_)
    have hP : va_P (dC, dI) vwCl [(h0, .inr (0, [.ref h1, .ref h4, .ref h6, .int day, .int grace, .int p2, .int spent, .int spentIn, .int spendings, .int urgentSp, .int dropped, .int lapsedLate])), (h1, .inr (2, [.ref h2])), (h2, .inr (3, [.ref h3, .int 12, .int 8, .int rm])), (h3, .inl (cI, 96, .inl fm)), (h4, .inr (3, [.ref h5, .int 6, .int 6, .int rq])), (h5, .inl (cI, 36, .inl fr)), (h6, .inl (cI, 8, .inl ap))] H := hP
    have hD : va_D A [(h0, .inr (0, [.ref h1, .ref h4, .ref h6, .int day, .int grace, .int p2, .int spent, .int spentIn, .int spendings, .int urgentSp, .int dropped, .int lapsedLate])), (h1, .inr (2, [.ref h2])), (h2, .inr (3, [.ref h3, .int 12, .int 8, .int rm])), (h3, .inl (cI, 96, .inl fm)), (h4, .inr (3, [.ref h5, .int 6, .int 6, .int rq])), (h5, .inl (cI, 36, .inl fr)), (h6, .inl (cI, 8, .inl ap))] := hD
    refine lv_iload_n hx hb dX0_changeSetting_23 rfl (lv_at hl 0 rfl) ?_
    have e9 : rr = ((f_X0_settingValue grace longest p1), grace, p2) := eF.trans (by rw [f_X0_changeSetting, if_neg c_1])
    exact W.iret (v := (f_X0_settingValue grace longest p1)) hx hb hr (fun t ht hW => ⟨⟨_, (), rfl, by rw [e9], (by rw [e9]; show va_P _ _ _ t.heap; rw [ht]; exact hP)⟩, hS.F ht⟩) hS.2.2 dX0_changeSetting_24
  · refine lv_aload_n hx hb dX0_changeSetting_10 rfl (lv_at hl 1 rfl) ?_
    refine lv_iload_n hx hb dX0_changeSetting_11 rfl (lv_at hl 3 rfl) ?_
    refine va_put (D := (dC, dI)) (ci := 0) (v := .int p2) (ty := .int) (C := RX0) (T := TX0) (N := 12) hx hb hts iwsX00 tyX0 tyX0_ok nmX0 hown hK hP hD hS 0 rfl rfl 4 (by decide) kw1 (fun _ h9 => h9) rfl (by decide +kernel) rfl rfl (Nat.le_of_ble_eq_true rfl) dX0_changeSetting_12 (fun H locs hP hD hS => ?_)
    have hP : va_P (dC, dI) vwCl [(h0, .inr (0, [.ref h1, .ref h4, .ref h6, .int day, .int p2, .int longest, .int spent, .int spentIn, .int spendings, .int urgentSp, .int dropped, .int lapsedLate])), (h1, .inr (2, [.ref h2])), (h2, .inr (3, [.ref h3, .int 12, .int 8, .int rm])), (h3, .inl (cI, 96, .inl fm)), (h4, .inr (3, [.ref h5, .int 6, .int 6, .int rq])), (h5, .inl (cI, 36, .inl fr)), (h6, .inl (cI, 8, .inl ap))] H := hP
    have hD : va_D A [(h0, .inr (0, [.ref h1, .ref h4, .ref h6, .int day, .int p2, .int longest, .int spent, .int spentIn, .int spendings, .int urgentSp, .int dropped, .int lapsedLate])), (h1, .inr (2, [.ref h2])), (h2, .inr (3, [.ref h3, .int 12, .int 8, .int rm])), (h3, .inl (cI, 96, .inl fm)), (h4, .inr (3, [.ref h5, .int 6, .int 6, .int rq])), (h5, .inl (cI, 36, .inl fr)), (h6, .inl (cI, 8, .inl ap))] := hD
    refine lv_goto (tgt := 23) hx hb dX0_changeSetting_15 (by decide) ?_
    refine lv_iload_n hx hb dX0_changeSetting_23 rfl (lv_at hl 0 rfl) ?_
    have e9 : rr = ((f_X0_settingValue grace longest p1), p2, longest) := eF.trans (by rw [f_X0_changeSetting, if_pos c_1])
    exact W.iret (v := (f_X0_settingValue grace longest p1)) hx hb hr (fun t ht hW => ⟨⟨_, (), rfl, by rw [e9], (by rw [e9]; show va_P _ _ _ t.heap; rw [ht]; exact hP)⟩, hS.F ht⟩) hS.2.2 dX0_changeSetting_24

def f_X0_hasPlaceUnder_j31 (rm : Int32) (fm : Nat → Int32) (longest : Int32) (p1 : Int32) (p2 : Int32) (p3 : Int32) : Bool :=
  if (vm_bi (f_X2_fitsUnder rm fm p1 p2 p3)) = 0 then
    false
  else
    if longest ≤ (f_X2_chainLength rm fm p1) then
      false
    else
      true
def f_X0_hasPlaceUnder (rm : Int32) (fm : Nat → Int32) (longest : Int32) (p1 : Int32) (p2 : Int32) (p3 : Int32) : Bool :=
  if (vm_bi (f_X3_isFull 12 rm)) = 0 then
    if p1 = (-1) then
      f_X0_hasPlaceUnder_j31 rm fm longest p1 p2 p3
    else
      if (vm_bi (f_X2_stands rm fm p1)) = 0 then
        false
      else
        f_X0_hasPlaceUnder_j31 rm fm longest p1 p2 p3
  else
    false
theorem yd_X0_hasPlaceUnder : yX0_hasPlaceUnder.cls = RX0 ∧ yX0_hasPlaceUnder.cls ≠ "java/lang/invoke/MethodHandle" ∧ yX0_hasPlaceUnder.cls ≠ "java/lang/invoke/VarHandle" ∧ (parseMethodDescriptor yX0_hasPlaceUnder.desc).map (fun d => d.parameters.length) = some 3 := by decide +kernel
set_option maxHeartbeats 4000000 in
set_option maxRecDepth 100000 in
theorem c_X0_hasPlaceUnder (l : Launch) (dC : Nat → ClassId) (dI : Nat → Nat → Nat) (cI cB : ClassId) (h0 h1 h2 h3 h4 h5 h6 : Nat) (rm : Int32) (fm : Nat → Int32) (rq : Int32) (fr : Nat → Int32) (ap : Nat → Int32) (day : Int32) (grace : Int32) (longest : Int32) (spent : Int32) (spentIn : Int32) (spendings : Int32) (urgentSp : Int32) (dropped : Int32) (lapsedLate : Int32) (p1 : Int32) (p2 : Int32) (p3 : Int32) : Met l yX0_hasPlaceUnder wsX0_hasPlaceUnder ({ frames := 3, cells := 0, slots := 0, locals := 68 }) (vm_pre [.ref h0, .int p1, .int p2, .int p3] (dC, dI) [(h0, .inr (0, [.ref h1, .ref h4, .ref h6, .int day, .int grace, .int longest, .int spent, .int spentIn, .int spendings, .int urgentSp, .int dropped, .int lapsedLate])), (h1, .inr (2, [.ref h2])), (h2, .inr (3, [.ref h3, .int 12, .int 8, .int rm])), (h3, .inl (cI, 96, .inl fm)), (h4, .inr (3, [.ref h5, .int 6, .int 6, .int rq])), (h5, .inl (cI, 36, .inl fr)), (h6, .inl (cI, 8, .inl ap))] cI cB) (vp_Si (fun r9 : Int32 => r9 = vm_bi (f_X0_hasPlaceUnder rm fm longest p1 p2 p3))) 0 0 (fun _ => False) := by
  refine Met.ofW (cc := cX0_hasPlaceUnder) (maxL := 4) (ret := (some .boolean)) (by decide) rfl ?_
  intro p e s m args below meth c s₁ B hml hv
  obtain ⟨rfl, hP, hK, hN⟩ := hv
  have hx := B.exec
  have hb := B.bytes
  have hr := B.returns
  have hts := atoms_spec (ws := wsX0_hasPlaceUnder) B.pre
  have hown : s.vm.findClass RX0 = some m.cls := findClass_of_methodNamed B.named
  have hlocks := B.notSynchronized
  have kw1 := hts (.fieldLink RX0 12 "LapseMandates$Book" "mandates" "LLapseMandates$Mandates;") (List.mem_of_getElem? (i := 1) rfl)
  have kw2 := hts (.fieldLink RX0 35 "LapseMandates$Book" "longestChain" "I") (List.mem_of_getElem? (i := 2) rfl)
  have iwsX00 : ∀ w ∈ wsX00, w ∈ wsX0_hasPlaceUnder := fun w h => List.mem_cons_of_mem _ (List.mem_append_left _ (List.mem_append_left _ (List.mem_append_right _ h)))
  have iwsX20 : ∀ w ∈ wsX20, w ∈ wsX0_hasPlaceUnder := fun w h => List.mem_cons_of_mem _ (List.mem_append_left _ (List.mem_append_right _ h))
  generalize hrr : f_X0_hasPlaceUnder rm fm longest p1 p2 p3 = rr
  have eF := hrr.symm
  have hl := lv_entry ([.ref h0, .int p1, .int p2, .int p3]) (n := 4) (Nat.le_of_ble_eq_true rfl)
  rw [lg_entry_eq]
  generalize (lg_sl ([.ref h0, .int p1, .int p2, .int p3]) ++ List.replicate (4 - (lg_sl ([.ref h0, .int p1, .int p2, .int p3])).length) Slot.unset).toArray = ls at hl ⊢
  have hl : lv_has ls 4 [(0, .ref h0), (1, .int p1), (2, .int p2), (3, .int p3)] := hl
  have hJ31 : rr = f_X0_hasPlaceUnder_j31 rm fm longest p1 p2 p3 → ∀ (ls : Array Slot), lv_has ls 4 [(0, .ref h0), (1, .int p1), (2, .int p2), (3, .int p3)] → W p l e (headSpec wsX0_hasPlaceUnder ({ frames := 3, cells := 0, slots := 0, locals := 68 })).room s m ([.ref h0, .int p1, .int p2, .int p3] : List Value).toArray below meth c s.heap [] 0 0 (MQ below (vp_Si (fun r9 : Int32 => r9 = vm_bi rr)) ([.ref h0, .int p1, .int p2, .int p3] : List Value).toArray s 0 0 (fun _ => False)) (F0 m 31 ls []) := by
    intro eF ls hl
    refine lv_aload_n hx hb dX0_hasPlaceUnder_31 rfl (lv_at hl 0 rfl) ?_
    refine va_get (D := (dC, dI)) (ci := 0) (v := .ref h1) (C := RX0) (T := TX0) (N := 12) hx hb hts iwsX00 hown hK hP 0 rfl rfl 0 (by decide) kw1 (fun _ h9 => h9) rfl dX0_hasPlaceUnder_32 ?_
    refine lv_iload_n hx hb dX0_hasPlaceUnder_35 rfl (lv_at hl 1 rfl) ?_
    refine lv_iload_n hx hb dX0_hasPlaceUnder_36 rfl (lv_at hl 2 rfl) ?_
    refine lv_iload_n hx hb dX0_hasPlaceUnder_37 rfl (lv_at hl 3 rfl) ?_
    refine vm_roVx (v := vm_bi (f_X2_fitsUnder rm fm p1 p2 p3)) (As := [.int p1, .int p2, .int p3]) (rest := []) (T := TX2) (N := 1) (wc := [(h1, .inr (2, [.ref h2])), (h2, .inr (3, [.ref h3, .int 12, .int 8, .int rm])), (h3, .inl (cI, 96, .inl fm))]) ⟨hx, hb, hml, hown, hts⟩ hK hN hP hl.1 ⟨Nat.le_of_ble_eq_true rfl, Nat.le_of_ble_eq_true rfl⟩ (c_X2_fitsUnder l dC dI cI cB h1 h2 h3 rm fm p1 p2 p3) (cwV 3 hts gX0_hasPlaceUnder_X2_fitsUnder rfl rfl rfl yd_X2_fitsUnder ⟨Nat.le_of_ble_eq_true rfl, Nat.le_of_ble_eq_true rfl⟩) [1, 2, 3] rfl 2 rfl rfl rfl rfl (Nat.le_of_ble_eq_true rfl) dX0_hasPlaceUnder_38 ?_
    refine lv_if_eq (tgt := 63) hx hb dX0_hasPlaceUnder_41 (by decide) (fun c_1 => ?_) (fun c_1 => ?_)
    · refine lv_iconst (v := 0) hx hb dX0_hasPlaceUnder_63 (by decide) ?_
      have e9 : rr = false := eF.trans (by rw [f_X0_hasPlaceUnder_j31, if_pos c_1])
      exact W.zret (v := 0) hx hb hr rfl (fun t ht hW => ⟨_, rfl, by rw [e9] <;> rfl, ht⟩) (fun _ hq => by cases hq) dX0_hasPlaceUnder_64
    · refine lv_aload_n hx hb dX0_hasPlaceUnder_44 rfl (lv_at hl 0 rfl) ?_
      refine va_get (D := (dC, dI)) (ci := 0) (v := .ref h1) (C := RX0) (T := TX0) (N := 12) hx hb hts iwsX00 hown hK hP 0 rfl rfl 0 (by decide) kw1 (fun _ h9 => h9) rfl dX0_hasPlaceUnder_45 ?_
      refine lv_iload_n hx hb dX0_hasPlaceUnder_48 rfl (lv_at hl 1 rfl) ?_
      refine vm_roVx (v := (f_X2_chainLength rm fm p1)) (As := [.int p1]) (rest := []) (T := TX2) (N := 1) (wc := [(h1, .inr (2, [.ref h2])), (h2, .inr (3, [.ref h3, .int 12, .int 8, .int rm])), (h3, .inl (cI, 96, .inl fm))]) ⟨hx, hb, hml, hown, hts⟩ hK hN hP hl.1 ⟨Nat.le_of_ble_eq_true rfl, Nat.le_of_ble_eq_true rfl⟩ (c_X2_chainLength l dC dI cI cB h1 h2 h3 rm fm p1) (cwV 1 hts gX0_hasPlaceUnder_X2_chainLength rfl rfl rfl yd_X2_chainLength ⟨Nat.le_of_ble_eq_true rfl, Nat.le_of_ble_eq_true rfl⟩) [1, 2, 3] rfl 2 rfl rfl rfl rfl (Nat.le_of_ble_eq_true rfl) dX0_hasPlaceUnder_49 ?_
      refine lv_aload_n hx hb dX0_hasPlaceUnder_52 rfl (lv_at hl 0 rfl) ?_
      refine va_get (D := (dC, dI)) (ci := 0) (v := .int longest) (C := RX0) (T := TX0) (N := 12) hx hb hts iwsX00 hown hK hP 0 rfl rfl 5 (by decide) kw2 (fun _ h9 => h9) rfl dX0_hasPlaceUnder_53 ?_
      refine lv_icmp_ge (tgt := 63) hx hb dX0_hasPlaceUnder_56 (by decide) (fun c_2 => ?_) (fun c_2 => ?_)
      · refine lv_iconst (v := 0) hx hb dX0_hasPlaceUnder_63 (by decide) ?_
        have e9 : rr = false := eF.trans (by rw [f_X0_hasPlaceUnder_j31, if_neg c_1, if_pos c_2])
        exact W.zret (v := 0) hx hb hr rfl (fun t ht hW => ⟨_, rfl, by rw [e9] <;> rfl, ht⟩) (fun _ hq => by cases hq) dX0_hasPlaceUnder_64
      · refine lv_iconst (v := 1) hx hb dX0_hasPlaceUnder_59 (by decide) ?_
        refine lv_goto (tgt := 64) hx hb dX0_hasPlaceUnder_60 (by decide) ?_
        have e9 : rr = true := eF.trans (by rw [f_X0_hasPlaceUnder_j31, if_neg c_1, if_neg c_2])
        exact W.zret (v := 1) hx hb hr rfl (fun t ht hW => ⟨_, rfl, by rw [e9] <;> rfl, ht⟩) (fun _ hq => by cases hq) dX0_hasPlaceUnder_64
  refine lv_aload_n hx hb dX0_hasPlaceUnder_0 rfl (lv_at hl 0 rfl) ?_
  refine va_get (D := (dC, dI)) (ci := 0) (v := .ref h1) (C := RX0) (T := TX0) (N := 12) hx hb hts iwsX00 hown hK hP 0 rfl rfl 0 (by decide) kw1 (fun _ h9 => h9) rfl dX0_hasPlaceUnder_1 ?_
  refine va_getN (D := (dC, dI)) (ci := 2) (v := .ref h2) (C := RX2) (T := TX2) (N := 1) hx hb hts iwsX20 hown hK hP 1 rfl rfl 0 (by decide) (va_Nw.use rfl hN.2.2.2.2.2.2.2.1) (fun _ h9 => h9) rfl dX0_hasPlaceUnder_4 ?_
  refine vm_roVx (v := vm_bi (f_X3_isFull 12 rm)) (As := []) (rest := []) (T := TX3) (N := 4) (wc := [(h2, .inr (3, [.ref h3, .int 12, .int 8, .int rm])), (h3, .inl (cI, 96, .inl fm))]) ⟨hx, hb, hml, hown, hts⟩ hK hN hP hl.1 ⟨Nat.le_of_ble_eq_true rfl, Nat.le_of_ble_eq_true rfl⟩ (c_X3_isFull l dC dI cI cB h2 h3 12 8 rm 96 fm (by decide)) (cwV 0 hts gX0_hasPlaceUnder_X3_isFull rfl rfl rfl yd_X3_isFull ⟨Nat.le_of_ble_eq_true rfl, Nat.le_of_ble_eq_true rfl⟩) [2, 3] rfl 3 rfl rfl rfl rfl (Nat.le_of_ble_eq_true rfl) dX0_hasPlaceUnder_7 ?_
  refine lv_if_ne (tgt := 29) hx hb dX0_hasPlaceUnder_10 (by decide) (fun c_3 => ?_) (fun c_3 => ?_)
  · refine lv_iconst (v := 0) hx hb dX0_hasPlaceUnder_29 (by decide) ?_
    have e9 : rr = false := eF.trans (by rw [f_X0_hasPlaceUnder, if_neg c_3])
    exact W.zret (v := 0) hx hb hr rfl (fun t ht hW => ⟨_, rfl, by rw [e9] <;> rfl, ht⟩) (fun _ hq => by cases hq) dX0_hasPlaceUnder_30
  · refine lv_iload_n hx hb dX0_hasPlaceUnder_13 rfl (lv_at hl 1 rfl) ?_
    refine lv_iconst (v := (-1)) hx hb dX0_hasPlaceUnder_14 (by decide) ?_
    refine lv_icmp_eq (tgt := 31) hx hb dX0_hasPlaceUnder_15 (by decide) (fun c_4 => ?_) (fun c_4 => ?_)
    · exact hJ31 (eF.trans (by rw [f_X0_hasPlaceUnder, if_pos c_3, if_pos c_4])) ls (lv_sub hl [0, 1, 2, 3] rfl)
    · refine lv_aload_n hx hb dX0_hasPlaceUnder_18 rfl (lv_at hl 0 rfl) ?_
      refine va_get (D := (dC, dI)) (ci := 0) (v := .ref h1) (C := RX0) (T := TX0) (N := 12) hx hb hts iwsX00 hown hK hP 0 rfl rfl 0 (by decide) kw1 (fun _ h9 => h9) rfl dX0_hasPlaceUnder_19 ?_
      refine lv_iload_n hx hb dX0_hasPlaceUnder_22 rfl (lv_at hl 1 rfl) ?_
      refine vm_roVx (v := vm_bi (f_X2_stands rm fm p1)) (As := [.int p1]) (rest := []) (T := TX2) (N := 1) (wc := [(h1, .inr (2, [.ref h2])), (h2, .inr (3, [.ref h3, .int 12, .int 8, .int rm])), (h3, .inl (cI, 96, .inl fm))]) ⟨hx, hb, hml, hown, hts⟩ hK hN hP hl.1 ⟨Nat.le_of_ble_eq_true rfl, Nat.le_of_ble_eq_true rfl⟩ (c_X2_stands l dC dI cI cB h1 h2 h3 rm fm p1) (cwV 1 hts gX0_hasPlaceUnder_X2_stands rfl rfl rfl yd_X2_stands ⟨Nat.le_of_ble_eq_true rfl, Nat.le_of_ble_eq_true rfl⟩) [1, 2, 3] rfl 2 rfl rfl rfl rfl (Nat.le_of_ble_eq_true rfl) dX0_hasPlaceUnder_23 ?_
      refine lv_if_ne (tgt := 31) hx hb dX0_hasPlaceUnder_26 (by decide) (fun c_5 => ?_) (fun c_5 => ?_)
      · exact hJ31 (eF.trans (by rw [f_X0_hasPlaceUnder, if_pos c_3, if_neg c_4, if_neg c_5])) ls (lv_sub hl [0, 1, 2, 3] rfl)
      · refine lv_iconst (v := 0) hx hb dX0_hasPlaceUnder_29 (by decide) ?_
        have e9 : rr = false := eF.trans (by rw [f_X0_hasPlaceUnder, if_pos c_3, if_neg c_4, if_pos c_5])
        exact W.zret (v := 0) hx hb hr rfl (fun t ht hW => ⟨_, rfl, by rw [e9] <;> rfl, ht⟩) (fun _ hq => by cases hq) dX0_hasPlaceUnder_30

def f_X0_lapse_j77 (x3_31 : Int32) (fm_31 : Nat → Int32) (kj31 : Int32 → Int32 → (Nat → Int32) → Int32 → (Nat → Int32) → (Int32 × Int32 × (Nat → Int32) × Int32 × (Nat → Int32))) (dropped_77 : Int32) (rq_77 : Int32) (fr_77 : Nat → Int32) : Int32 × Int32 × (Nat → Int32) × Int32 × (Nat → Int32) :=
  kj31 (x3_31 + (-1)) dropped_77 fm_31 rq_77 fr_77
def f_X0_lapse_c67 (x3_31 : Int32) (dropped_31 : Int32) (fm_31 : Nat → Int32) (kj31 : Int32 → Int32 → (Nat → Int32) → Int32 → (Nat → Int32) → (Int32 × Int32 × (Nat → Int32) × Int32 × (Nat → Int32))) (rq_c67 : Int32) (fr_c67 : Nat → Int32) : Int32 × Int32 × (Nat → Int32) × Int32 × (Nat → Int32) :=
  f_X0_lapse_j77 x3_31 fm_31 kj31 (dropped_31 + 1) rq_c67 fr_c67
def f_X0_lapse_j31 (rm : Int32) (fm : Nat → Int32) (p1 : Int32) : Nat → Int32 → Int32 → (Nat → Int32) → Int32 → (Nat → Int32) → Int32 × Int32 × (Nat → Int32) × Int32 × (Nat → Int32)
  | 0, _, _, _, _, _ => (0, 0, (fun _ => 0), 0, (fun _ => 0))
  | n31 + 1, x3_31, dropped_31, fm_31, rq_31, fr_31 => if x3_31 < 0 then
      ((f_J6_bitCount_0f7a4 (f_X2_wouldLapse rm fm p1)), dropped_31, fm_31, rq_31, fr_31)
    else
      if (vm_bi (f_X0_isUrgent rq_31 fr_31 x3_31)) = 0 then
        if (vm_bi (f_X2_isIn (f_X2_wouldLapse rm fm p1) (f_X3_get 6 rq_31 36 fr_31 x3_31 0))) = 0 then
          f_X0_lapse_j77 x3_31 fm_31 (f_X0_lapse_j31 rm fm p1 n31) dropped_31 rq_31 fr_31
        else
          f_X0_lapse_c67 x3_31 dropped_31 fm_31 (f_X0_lapse_j31 rm fm p1 n31) ((f_X3_removeRow 6 rq_31 36 fr_31 x3_31).1) ((f_X3_removeRow 6 rq_31 36 fr_31 x3_31).2)
      else
        f_X0_lapse_j77 x3_31 fm_31 (f_X0_lapse_j31 rm fm p1 n31) dropped_31 rq_31 fr_31
def f_X0_lapse_c21 (rm : Int32) (fm : Nat → Int32) (rq : Int32) (fr : Nat → Int32) (dropped : Int32) (p1 : Int32) (fm_c21 : Nat → Int32) : Int32 × Int32 × (Nat → Int32) × Int32 × (Nat → Int32) :=
  f_X0_lapse_j31 rm fm p1 ((((rq - 1)).toInt + 1).toNat + 1) (rq - 1) dropped fm_c21 rq fr
def f_X0_lapse (rm : Int32) (fm : Nat → Int32) (rq : Int32) (fr : Nat → Int32) (day : Int32) (dropped : Int32) (p1 : Int32) : Int32 × Int32 × (Nat → Int32) × Int32 × (Nat → Int32) :=
  f_X0_lapse_c21 rm fm rq fr dropped p1 (f_X2_lapseAll rm fm (f_X2_wouldLapse rm fm p1) day)
theorem yd_X0_lapse : yX0_lapse.cls = RX0 ∧ yX0_lapse.cls ≠ "java/lang/invoke/MethodHandle" ∧ yX0_lapse.cls ≠ "java/lang/invoke/VarHandle" ∧ (parseMethodDescriptor yX0_lapse.desc).map (fun d => d.parameters.length) = some 1 := by decide +kernel
set_option maxHeartbeats 4000000 in
set_option maxRecDepth 100000 in
theorem c_X0_lapse (l : Launch) (dC : Nat → ClassId) (dI : Nat → Nat → Nat) (cI cB : ClassId) (h0 h1 h2 h3 h4 h5 h6 : Nat) (sz : Nat) (rm : Int32) (fm : Nat → Int32) (rq : Int32) (fr : Nat → Int32) (ap : Nat → Int32) (day : Int32) (grace : Int32) (longest : Int32) (spent : Int32) (spentIn : Int32) (spendings : Int32) (urgentSp : Int32) (dropped : Int32) (lapsedLate : Int32) (p1 : Int32) : Met l yX0_lapse wsX0_lapse ({ frames := 3, cells := 0, slots := 0, locals := 67 }) (vm_prw [.ref h0, .int p1] (dC, dI) [(h0, .inr (0, [.ref h1, .ref h4, .ref h6, .int day, .int grace, .int longest, .int spent, .int spentIn, .int spendings, .int urgentSp, .int dropped, .int lapsedLate])), (h1, .inr (2, [.ref h2])), (h2, .inr (3, [.ref h3, .int 12, .int 8, .int rm])), (h3, .inl (cI, 96, .inl fm)), (h4, .inr (3, [.ref h5, .int 6, .int 6, .int rq])), (h5, .inl (cI, 36, .inl fr)), (h6, .inl (cI, 8, .inl ap))] cI cB sz) (va_Qi (fun (r9 : Int32) (_ : Unit) => r9 = (f_X0_lapse rm fm rq fr day dropped p1).1) (fun _ t => va_P (dC, dI) vwCl [(h0, .inr (0, [.ref h1, .ref h4, .ref h6, .int day, .int grace, .int longest, .int spent, .int spentIn, .int spendings, .int urgentSp, .int ((f_X0_lapse rm fm rq fr day dropped p1).2.1), .int lapsedLate])), (h1, .inr (2, [.ref h2])), (h2, .inr (3, [.ref h3, .int 12, .int 8, .int rm])), (h3, .inl (cI, 96, .inl ((f_X0_lapse rm fm rq fr day dropped p1).2.2.1))), (h4, .inr (3, [.ref h5, .int 6, .int 6, .int ((f_X0_lapse rm fm rq fr day dropped p1).2.2.2.1)])), (h5, .inl (cI, 36, .inl ((f_X0_lapse rm fm rq fr day dropped p1).2.2.2.2))), (h6, .inl (cI, 8, .inl ap))] t.heap) (va_A [(h0, .inr (0, [.ref h1, .ref h4, .ref h6, .int day, .int grace, .int longest, .int spent, .int spentIn, .int spendings, .int urgentSp, .int dropped, .int lapsedLate])), (h1, .inr (2, [.ref h2])), (h2, .inr (3, [.ref h3, .int 12, .int 8, .int rm])), (h3, .inl (cI, 96, .inl fm)), (h4, .inr (3, [.ref h5, .int 6, .int 6, .int rq])), (h5, .inl (cI, 36, .inl fr)), (h6, .inl (cI, 8, .inl ap))] sz)) 0 0 (va_A [(h0, .inr (0, [.ref h1, .ref h4, .ref h6, .int day, .int grace, .int longest, .int spent, .int spentIn, .int spendings, .int urgentSp, .int dropped, .int lapsedLate])), (h1, .inr (2, [.ref h2])), (h2, .inr (3, [.ref h3, .int 12, .int 8, .int rm])), (h3, .inl (cI, 96, .inl fm)), (h4, .inr (3, [.ref h5, .int 6, .int 6, .int rq])), (h5, .inl (cI, 36, .inl fr)), (h6, .inl (cI, 8, .inl ap))] sz) := by
  refine Met.ofW (cc := cX0_lapse) (maxL := 4) (ret := (some .int)) (by decide) rfl ?_
  intro p e s m args below meth c s₁ B hml hv
  obtain ⟨rfl, hsz, hP, hK, hN, hD0⟩ := hv
  have hx := B.exec
  have hb := B.bytes
  have hr := B.returns
  have hts := atoms_spec (ws := wsX0_lapse) B.pre
  have hown : s.vm.findClass RX0 = some m.cls := findClass_of_methodNamed B.named
  have hlocks := B.notSynchronized
  subst hsz
  have hD := hD0.self (sz := s.heap.size)
  generalize hAe : va_A [(h0, .inr (0, [.ref h1, .ref h4, .ref h6, .int day, .int grace, .int longest, .int spent, .int spentIn, .int spendings, .int urgentSp, .int dropped, .int lapsedLate])), (h1, .inr (2, [.ref h2])), (h2, .inr (3, [.ref h3, .int 12, .int 8, .int rm])), (h3, .inl (cI, 96, .inl fm)), (h4, .inr (3, [.ref h5, .int 6, .int 6, .int rq])), (h5, .inl (cI, 36, .inl fr)), (h6, .inl (cI, 8, .inl ap))] s.heap.size = A at hD ⊢
  have hA : ∀ q : Nat, s.heap.size ≤ q → A q := fun q h => by rw [← hAe]; exact Or.inr h
  have hS : va_S A s.heap s.heap [] := va_S.rf
  have hP : va_P (dC, dI) vwCl [(h0, .inr (0, [.ref h1, .ref h4, .ref h6, .int day, .int grace, .int longest, .int spent, .int spentIn, .int spendings, .int urgentSp, .int dropped, .int lapsedLate])), (h1, .inr (2, [.ref h2])), (h2, .inr (3, [.ref h3, .int 12, .int 8, .int rm])), (h3, .inl (cI, 96, .inl fm)), (h4, .inr (3, [.ref h5, .int 6, .int 6, .int rq])), (h5, .inl (cI, 36, .inl fr)), (h6, .inl (cI, 8, .inl ap))] s.heap := hP
  have kw1 := hts (.fieldLink RX0 12 "LapseMandates$Book" "mandates" "LLapseMandates$Mandates;") (List.mem_of_getElem? (i := 1) rfl)
  have kw2 := hts (.fieldLink RX0 45 "LapseMandates$Book" "day" "I") (List.mem_of_getElem? (i := 2) rfl)
  have kw3 := hts (.fieldLink RX0 23 "LapseMandates$Book" "requests" "LLapseMandates$Table;") (List.mem_of_getElem? (i := 3) rfl)
  have kw4 := hts (.fieldLink RX0 60 "LapseMandates$Book" "droppedOrFailed" "I") (List.mem_of_getElem? (i := 4) rfl)
  have iwsX00 : ∀ w ∈ wsX00, w ∈ wsX0_lapse := fun w h => List.mem_cons_of_mem _ (List.mem_append_left _ (List.mem_append_left _ (List.mem_append_right _ h)))
  have iwsX30 : ∀ w ∈ wsX30, w ∈ wsX0_lapse := fun w h => List.mem_cons_of_mem _ (List.mem_append_left _ (List.mem_append_right _ h))
  generalize hrr : f_X0_lapse rm fm rq fr day dropped p1 = rr
  have eF := hrr.symm
  have hl := lv_entry ([.ref h0, .int p1]) (n := 4) (Nat.le_of_ble_eq_true rfl)
  rw [lg_entry_eq]
  generalize (lg_sl ([.ref h0, .int p1]) ++ List.replicate (4 - (lg_sl ([.ref h0, .int p1])).length) Slot.unset).toArray = ls at hl ⊢
  have hl : lv_has ls 4 [(0, .ref h0), (1, .int p1)] := hl
  have hJ31 : ∀ (n31 : Nat) (x3_31 : Int32) (dropped_31 : Int32) (fm_31 : Nat → Int32) (rq_31 : Int32) (fr_31 : Nat → Int32), ((x3_31).toInt + 1).toNat < n31 → rr = f_X0_lapse_j31 rm fm p1 n31 x3_31 dropped_31 fm_31 rq_31 fr_31 → ∀ (H : Heap) (locs : List Loc), va_P (dC, dI) vwCl [(h0, .inr (0, [.ref h1, .ref h4, .ref h6, .int day, .int grace, .int longest, .int spent, .int spentIn, .int spendings, .int urgentSp, .int dropped_31, .int lapsedLate])), (h1, .inr (2, [.ref h2])), (h2, .inr (3, [.ref h3, .int 12, .int 8, .int rm])), (h3, .inl (cI, 96, .inl fm_31)), (h4, .inr (3, [.ref h5, .int 6, .int 6, .int rq_31])), (h5, .inl (cI, 36, .inl fr_31)), (h6, .inl (cI, 8, .inl ap))] H → va_D A [(h0, .inr (0, [.ref h1, .ref h4, .ref h6, .int day, .int grace, .int longest, .int spent, .int spentIn, .int spendings, .int urgentSp, .int dropped_31, .int lapsedLate])), (h1, .inr (2, [.ref h2])), (h2, .inr (3, [.ref h3, .int 12, .int 8, .int rm])), (h3, .inl (cI, 96, .inl fm_31)), (h4, .inr (3, [.ref h5, .int 6, .int 6, .int rq_31])), (h5, .inl (cI, 36, .inl fr_31)), (h6, .inl (cI, 8, .inl ap))] → va_S A s.heap H locs → ∀ (ls : Array Slot), lv_has ls 4 [(0, .ref h0), (2, .int (f_X2_wouldLapse rm fm p1)), (3, .int x3_31)] → W p l e (headSpec wsX0_lapse ({ frames := 3, cells := 0, slots := 0, locals := 67 })).room s m ([.ref h0, .int p1] : List Value).toArray below meth c H locs 0 0 (MQ below (va_Qi (fun (r9 : Int32) (_ : Unit) => r9 = rr.1) (fun _ t => va_P (dC, dI) vwCl [(h0, .inr (0, [.ref h1, .ref h4, .ref h6, .int day, .int grace, .int longest, .int spent, .int spentIn, .int spendings, .int urgentSp, .int rr.2.1, .int lapsedLate])), (h1, .inr (2, [.ref h2])), (h2, .inr (3, [.ref h3, .int 12, .int 8, .int rm])), (h3, .inl (cI, 96, .inl rr.2.2.1)), (h4, .inr (3, [.ref h5, .int 6, .int 6, .int rr.2.2.2.1])), (h5, .inl (cI, 36, .inl rr.2.2.2.2)), (h6, .inl (cI, 8, .inl ap))] t.heap) A) ([.ref h0, .int p1] : List Value).toArray s 0 0 A) (F0 m 31 ls []) := by
    intro n31
    induction n31 with
    | zero =>
      intro x3_31 dropped_31 fm_31 rq_31 fr_31 hm31
      exact absurd hm31 (Nat.not_lt_zero _)
    | succ n31 ih31 =>
      intro x3_31 dropped_31 fm_31 rq_31 fr_31 hm31 eF H locs hP hD hS ls hl
      have hJ77 : ∀ (dropped_77 : Int32) (rq_77 : Int32) (fr_77 : Nat → Int32), ¬ x3_31 < 0 → rr = f_X0_lapse_j77 x3_31 fm_31 (f_X0_lapse_j31 rm fm p1 n31) dropped_77 rq_77 fr_77 → ∀ (H : Heap) (locs : List Loc), va_P (dC, dI) vwCl [(h0, .inr (0, [.ref h1, .ref h4, .ref h6, .int day, .int grace, .int longest, .int spent, .int spentIn, .int spendings, .int urgentSp, .int dropped_77, .int lapsedLate])), (h1, .inr (2, [.ref h2])), (h2, .inr (3, [.ref h3, .int 12, .int 8, .int rm])), (h3, .inl (cI, 96, .inl fm_31)), (h4, .inr (3, [.ref h5, .int 6, .int 6, .int rq_77])), (h5, .inl (cI, 36, .inl fr_77)), (h6, .inl (cI, 8, .inl ap))] H → va_D A [(h0, .inr (0, [.ref h1, .ref h4, .ref h6, .int day, .int grace, .int longest, .int spent, .int spentIn, .int spendings, .int urgentSp, .int dropped_77, .int lapsedLate])), (h1, .inr (2, [.ref h2])), (h2, .inr (3, [.ref h3, .int 12, .int 8, .int rm])), (h3, .inl (cI, 96, .inl fm_31)), (h4, .inr (3, [.ref h5, .int 6, .int 6, .int rq_77])), (h5, .inl (cI, 36, .inl fr_77)), (h6, .inl (cI, 8, .inl ap))] → va_S A s.heap H locs → ∀ (ls : Array Slot), lv_has ls 4 [(0, .ref h0), (2, .int (f_X2_wouldLapse rm fm p1)), (3, .int x3_31)] → W p l e (headSpec wsX0_lapse ({ frames := 3, cells := 0, slots := 0, locals := 67 })).room s m ([.ref h0, .int p1] : List Value).toArray below meth c H locs 0 0 (MQ below (va_Qi (fun (r9 : Int32) (_ : Unit) => r9 = rr.1) (fun _ t => va_P (dC, dI) vwCl [(h0, .inr (0, [.ref h1, .ref h4, .ref h6, .int day, .int grace, .int longest, .int spent, .int spentIn, .int spendings, .int urgentSp, .int rr.2.1, .int lapsedLate])), (h1, .inr (2, [.ref h2])), (h2, .inr (3, [.ref h3, .int 12, .int 8, .int rm])), (h3, .inl (cI, 96, .inl rr.2.2.1)), (h4, .inr (3, [.ref h5, .int 6, .int 6, .int rr.2.2.2.1])), (h5, .inl (cI, 36, .inl rr.2.2.2.2)), (h6, .inl (cI, 8, .inl ap))] t.heap) A) ([.ref h0, .int p1] : List Value).toArray s 0 0 A) (F0 m 77 ls []) := by
        intro dropped_77 rq_77 fr_77 cL31 eF H locs hP hD hS ls hl
        refine lv_iinc (v := (x3_31 + (-1))) (lv' := [(3, .int (x3_31 + (-1))), (0, .ref h0), (2, .int (f_X2_wouldLapse rm fm p1))]) hx hb dX0_lapse_77 hl (k := 2) rfl rfl (by decide) rfl (fun ls hl => ?_)
        refine lv_goto (tgt := 31) hx hb dX0_lapse_80 (by decide) ?_
        exact ih31 (x3_31 + (-1)) dropped_77 fm_31 rq_77 fr_77 (vm_dn2 (vm_nlt cL31) hm31) (eF.trans (by rw [f_X0_lapse_j77])) _ _ hP hD hS ls (lv_sub hl [1, 2, 0] rfl)
      refine lv_iload_n hx hb dX0_lapse_31 rfl (lv_at hl 2 rfl) ?_
      refine lv_if_lt (tgt := 83) hx hb dX0_lapse_32 (by decide) (fun cL31 => ?_) (fun cL31 => ?_)
      · refine lv_iload_n hx hb dX0_lapse_83 rfl (lv_at hl 1 rfl) ?_
        refine vm_roSx (v := (f_J6_bitCount_0f7a4 (f_X2_wouldLapse rm fm p1))) (As := [.int (f_X2_wouldLapse rm fm p1)]) (rest := []) ⟨hx, hb, hml, hown, hts⟩ hK hN hP hl.1 ⟨Nat.le_of_ble_eq_true rfl, Nat.le_of_ble_eq_true rfl⟩ (c_J6_bitCount_0f7a4 l dC dI cI cB (f_X2_wouldLapse rm fm p1)) (va_cwS 1 hts gX0_lapse_J6_bitCount_0f7a4 rfl rfl rfl yd_J6_bitCount_0f7a4 ⟨Nat.le_of_ble_eq_true rfl, Nat.le_of_ble_eq_true rfl⟩) rfl rfl (Nat.le_of_ble_eq_true rfl) dX0_lapse_84 ?_
        have e9 : rr = ((f_J6_bitCount_0f7a4 (f_X2_wouldLapse rm fm p1)), dropped_31, fm_31, rq_31, fr_31) := eF.trans (by rw [f_X0_lapse_j31, if_pos cL31])
        exact W.iret (v := (f_J6_bitCount_0f7a4 (f_X2_wouldLapse rm fm p1))) hx hb hr (fun t ht hW => ⟨⟨_, (), rfl, by rw [e9], (by rw [e9]; show va_P _ _ _ t.heap; rw [ht]; exact hP)⟩, hS.F ht⟩) hS.2.2 dX0_lapse_87
      · refine lv_aload_n hx hb dX0_lapse_35 rfl (lv_at hl 0 rfl) ?_
        refine lv_iload_n hx hb dX0_lapse_36 rfl (lv_at hl 2 rfl) ?_
        refine vm_roVx (v := vm_bi (f_X0_isUrgent rq_31 fr_31 x3_31)) (As := [.int x3_31]) (rest := []) (T := TX0) (N := 12) (wc := [(h0, .inr (0, [.ref h1, .ref h4, .ref h6, .int day, .int grace, .int longest, .int spent, .int spentIn, .int spendings, .int urgentSp, .int dropped_31, .int lapsedLate])), (h1, .inr (2, [.ref h2])), (h2, .inr (3, [.ref h3, .int 12, .int 8, .int rm])), (h3, .inl (cI, 96, .inl fm_31)), (h4, .inr (3, [.ref h5, .int 6, .int 6, .int rq_31])), (h5, .inl (cI, 36, .inl fr_31)), (h6, .inl (cI, 8, .inl ap))]) ⟨hx, hb, hml, hown, hts⟩ hK hN hP hl.1 ⟨Nat.le_of_ble_eq_true rfl, Nat.le_of_ble_eq_true rfl⟩ (c_X0_isUrgent l dC dI cI cB h0 h1 h2 h3 h4 h5 h6 rm fm_31 rq_31 fr_31 ap day grace longest spent spentIn spendings urgentSp dropped_31 lapsedLate x3_31) (cwV 1 hts gX0_lapse_X0_isUrgent rfl rfl rfl yd_X0_isUrgent ⟨Nat.le_of_ble_eq_true rfl, Nat.le_of_ble_eq_true rfl⟩) [0, 1, 2, 3, 4, 5, 6] rfl 0 rfl rfl rfl rfl (Nat.le_of_ble_eq_true rfl) dX0_lapse_37 ?_
        refine lv_if_ne (tgt := 77) hx hb dX0_lapse_40 (by decide) (fun c_2 => ?_) (fun c_2 => ?_)
        · exact hJ77 dropped_31 rq_31 fr_31 cL31 (eF.trans (by rw [f_X0_lapse_j31, if_neg cL31, if_neg c_2])) _ _ hP hD hS ls (lv_sub hl [0, 1, 2] rfl)
        · refine lv_iload_n hx hb dX0_lapse_43 rfl (lv_at hl 1 rfl) ?_
          refine lv_aload_n hx hb dX0_lapse_44 rfl (lv_at hl 0 rfl) ?_
          refine va_get (D := (dC, dI)) (ci := 0) (v := .ref h4) (C := RX0) (T := TX0) (N := 12) hx hb hts iwsX00 hown hK hP 0 rfl rfl 1 (by decide) kw3 (fun _ h9 => h9) rfl dX0_lapse_45 ?_
          refine lv_iload_n hx hb dX0_lapse_48 rfl (lv_at hl 2 rfl) ?_
          refine lv_iconst (v := 0) hx hb dX0_lapse_49 (by decide) ?_
          refine vm_roVx (v := (f_X3_get 6 rq_31 36 fr_31 x3_31 0)) (As := [.int x3_31, .int 0]) (rest := [.int (f_X2_wouldLapse rm fm p1)]) (T := TX3) (N := 4) (wc := [(h4, .inr (3, [.ref h5, .int 6, .int 6, .int rq_31])), (h5, .inl (cI, 36, .inl fr_31))]) ⟨hx, hb, hml, hown, hts⟩ hK hN hP hl.1 ⟨Nat.le_of_ble_eq_true rfl, Nat.le_of_ble_eq_true rfl⟩ (c_X3_get l dC dI cI cB h4 h5 6 6 rq_31 36 fr_31 x3_31 0 (by decide)) (cwV 2 hts gX0_lapse_X3_get rfl rfl rfl yd_X3_get ⟨Nat.le_of_ble_eq_true rfl, Nat.le_of_ble_eq_true rfl⟩) [4, 5] rfl 3 rfl rfl rfl rfl (Nat.le_of_ble_eq_true rfl) dX0_lapse_50 ?_
          refine vm_roSx (v := vm_bi (f_X2_isIn (f_X2_wouldLapse rm fm p1) (f_X3_get 6 rq_31 36 fr_31 x3_31 0))) (As := [.int (f_X2_wouldLapse rm fm p1), .int (f_X3_get 6 rq_31 36 fr_31 x3_31 0)]) (rest := []) ⟨hx, hb, hml, hown, hts⟩ hK hN hP hl.1 ⟨Nat.le_of_ble_eq_true rfl, Nat.le_of_ble_eq_true rfl⟩ (c_X2_isIn l dC dI cI cB (f_X2_wouldLapse rm fm p1) (f_X3_get 6 rq_31 36 fr_31 x3_31 0)) (va_cwS 2 hts gX0_lapse_X2_isIn rfl rfl rfl yd_X2_isIn ⟨Nat.le_of_ble_eq_true rfl, Nat.le_of_ble_eq_true rfl⟩) rfl rfl (Nat.le_of_ble_eq_true rfl) dX0_lapse_53 ?_
          refine lv_if_eq (tgt := 77) hx hb dX0_lapse_56 (by decide) (fun c_3 => ?_) (fun c_3 => ?_)
          · exact hJ77 dropped_31 rq_31 fr_31 cL31 (eF.trans (by rw [f_X0_lapse_j31, if_neg cL31, if_pos c_2, if_pos c_3])) _ _ hP hD hS ls (lv_sub hl [0, 1, 2] rfl)
          · refine lv_aload_n hx hb dX0_lapse_59 rfl (lv_at hl 0 rfl) ?_
            refine va_get (D := (dC, dI)) (ci := 0) (v := .ref h4) (C := RX0) (T := TX0) (N := 12) hx hb hts iwsX00 hown hK hP 0 rfl rfl 1 (by decide) kw3 (fun _ h9 => h9) rfl dX0_lapse_60 ?_
            refine lv_iload_n hx hb dX0_lapse_63 rfl (lv_at hl 2 rfl) ?_
            refine vm_rwVv (As := [.int x3_31]) (rest := []) (T := TX3) (N := 4) (wc := [(h4, .inr (3, [.ref h5, .int 6, .int 6, .int rq_31])), (h5, .inl (cI, 36, .inl fr_31))]) (w1 := [(h4, .inr (3, [.ref h5, .int 6, .int 6, .int ((f_X3_removeRow 6 rq_31 36 fr_31 x3_31).1)])), (h5, .inl (cI, 36, .inl ((f_X3_removeRow 6 rq_31 36 fr_31 x3_31).2)))]) ⟨hx, hb, hml, hown, hts⟩ hK hN hP hD hS hA hl.1 ⟨Nat.le_of_ble_eq_true rfl, Nat.le_of_ble_eq_true rfl⟩ (c_X3_removeRow l dC dI cI cB h4 h5 _ 6 6 rq_31 36 fr_31 x3_31 (by decide)) (cwV 1 hts gX0_lapse_X3_removeRow rfl rfl rfl yd_X3_removeRow ⟨Nat.le_of_ble_eq_true rfl, Nat.le_of_ble_eq_true rfl⟩) [4, 5] rfl rfl rfl 3 rfl rfl rfl rfl (Nat.le_of_ble_eq_true rfl) dX0_lapse_64 (fun H locs hP hD hS => ?_)
            have hP : va_P (dC, dI) vwCl [(h0, .inr (0, [.ref h1, .ref h4, .ref h6, .int day, .int grace, .int longest, .int spent, .int spentIn, .int spendings, .int urgentSp, .int dropped_31, .int lapsedLate])), (h1, .inr (2, [.ref h2])), (h2, .inr (3, [.ref h3, .int 12, .int 8, .int rm])), (h3, .inl (cI, 96, .inl fm_31)), (h4, .inr (3, [.ref h5, .int 6, .int 6, .int ((f_X3_removeRow 6 rq_31 36 fr_31 x3_31).1)])), (h5, .inl (cI, 36, .inl ((f_X3_removeRow 6 rq_31 36 fr_31 x3_31).2))), (h6, .inl (cI, 8, .inl ap))] H := hP
            have hD : va_D A [(h0, .inr (0, [.ref h1, .ref h4, .ref h6, .int day, .int grace, .int longest, .int spent, .int spentIn, .int spendings, .int urgentSp, .int dropped_31, .int lapsedLate])), (h1, .inr (2, [.ref h2])), (h2, .inr (3, [.ref h3, .int 12, .int 8, .int rm])), (h3, .inl (cI, 96, .inl fm_31)), (h4, .inr (3, [.ref h5, .int 6, .int 6, .int ((f_X3_removeRow 6 rq_31 36 fr_31 x3_31).1)])), (h5, .inl (cI, 36, .inl ((f_X3_removeRow 6 rq_31 36 fr_31 x3_31).2))), (h6, .inl (cI, 8, .inl ap))] := hD
            obtain ⟨rq_c67, erq_c67⟩ : ∃ z, z = (f_X3_removeRow 6 rq_31 36 fr_31 x3_31).1 := ⟨_, rfl⟩
            rw [← erq_c67] at hP hD
            obtain ⟨fr_c67, efr_c67⟩ : ∃ z, z = (f_X3_removeRow 6 rq_31 36 fr_31 x3_31).2 := ⟨_, rfl⟩
            rw [← efr_c67] at hP hD
            have eF : rr = f_X0_lapse_c67 x3_31 dropped_31 fm_31 (f_X0_lapse_j31 rm fm p1 n31) rq_c67 fr_c67 := eF.trans (by rw [f_X0_lapse_j31, if_neg cL31, if_pos c_2, if_neg c_3, erq_c67, efr_c67])
            refine lv_aload_n hx hb dX0_lapse_67 rfl (lv_at hl 0 rfl) ?_
            refine lv_dup hx hb dX0_lapse_68 rfl ?_
            refine va_get (D := (dC, dI)) (ci := 0) (v := .int dropped_31) (C := RX0) (T := TX0) (N := 12) hx hb hts iwsX00 hown hK hP 0 rfl rfl 10 (by decide) kw4 (fun _ h9 => h9) rfl dX0_lapse_69 ?_
            refine lv_iconst (v := 1) hx hb dX0_lapse_72 (by decide) ?_
            refine lv_iadd hx hb dX0_lapse_73 ?_
            refine va_put (D := (dC, dI)) (ci := 0) (v := .int (dropped_31 + 1)) (ty := .int) (C := RX0) (T := TX0) (N := 12) hx hb hts iwsX00 tyX0 tyX0_ok nmX0 hown hK hP hD hS 0 rfl rfl 10 (by decide) kw4 (fun _ h9 => h9) rfl (by decide +kernel) rfl rfl (Nat.le_of_ble_eq_true rfl) dX0_lapse_74 (fun H locs hP hD hS => ?_)
            have hP : va_P (dC, dI) vwCl [(h0, .inr (0, [.ref h1, .ref h4, .ref h6, .int day, .int grace, .int longest, .int spent, .int spentIn, .int spendings, .int urgentSp, .int (dropped_31 + 1), .int lapsedLate])), (h1, .inr (2, [.ref h2])), (h2, .inr (3, [.ref h3, .int 12, .int 8, .int rm])), (h3, .inl (cI, 96, .inl fm_31)), (h4, .inr (3, [.ref h5, .int 6, .int 6, .int rq_c67])), (h5, .inl (cI, 36, .inl fr_c67)), (h6, .inl (cI, 8, .inl ap))] H := hP
            have hD : va_D A [(h0, .inr (0, [.ref h1, .ref h4, .ref h6, .int day, .int grace, .int longest, .int spent, .int spentIn, .int spendings, .int urgentSp, .int (dropped_31 + 1), .int lapsedLate])), (h1, .inr (2, [.ref h2])), (h2, .inr (3, [.ref h3, .int 12, .int 8, .int rm])), (h3, .inl (cI, 96, .inl fm_31)), (h4, .inr (3, [.ref h5, .int 6, .int 6, .int rq_c67])), (h5, .inl (cI, 36, .inl fr_c67)), (h6, .inl (cI, 8, .inl ap))] := hD
            exact hJ77 (dropped_31 + 1) rq_c67 fr_c67 cL31 (eF.trans (by rw [f_X0_lapse_c67])) _ _ hP hD hS ls (lv_sub hl [0, 1, 2] rfl)
  refine lv_aload_n hx hb dX0_lapse_0 rfl (lv_at hl 0 rfl) ?_
  refine va_get (D := (dC, dI)) (ci := 0) (v := .ref h1) (C := RX0) (T := TX0) (N := 12) hx hb hts iwsX00 hown hK hP 0 rfl rfl 0 (by decide) kw1 (fun _ h9 => h9) rfl dX0_lapse_1 ?_
  refine lv_iload_n hx hb dX0_lapse_4 rfl (lv_at hl 1 rfl) ?_
  refine vm_roVx (v := (f_X2_wouldLapse rm fm p1)) (As := [.int p1]) (rest := []) (T := TX2) (N := 1) (wc := [(h1, .inr (2, [.ref h2])), (h2, .inr (3, [.ref h3, .int 12, .int 8, .int rm])), (h3, .inl (cI, 96, .inl fm))]) ⟨hx, hb, hml, hown, hts⟩ hK hN hP hl.1 ⟨Nat.le_of_ble_eq_true rfl, Nat.le_of_ble_eq_true rfl⟩ (c_X2_wouldLapse l dC dI cI cB h1 h2 h3 rm fm p1) (cwV 1 hts gX0_lapse_X2_wouldLapse rfl rfl rfl yd_X2_wouldLapse ⟨Nat.le_of_ble_eq_true rfl, Nat.le_of_ble_eq_true rfl⟩) [1, 2, 3] rfl 2 rfl rfl rfl rfl (Nat.le_of_ble_eq_true rfl) dX0_lapse_5 ?_
  refine lv_istore_n (lv' := [(2, .int (f_X2_wouldLapse rm fm p1)), (0, .ref h0), (1, .int p1)]) hx hb dX0_lapse_8 rfl hl (by decide) rfl (fun ls hl => ?_)
  refine lv_aload_n hx hb dX0_lapse_9 rfl (lv_at hl 1 rfl) ?_
  refine va_get (D := (dC, dI)) (ci := 0) (v := .ref h1) (C := RX0) (T := TX0) (N := 12) hx hb hts iwsX00 hown hK hP 0 rfl rfl 0 (by decide) kw1 (fun _ h9 => h9) rfl dX0_lapse_10 ?_
  refine lv_iload_n hx hb dX0_lapse_13 rfl (lv_at hl 0 rfl) ?_
  refine lv_aload_n hx hb dX0_lapse_14 rfl (lv_at hl 1 rfl) ?_
  refine va_get (D := (dC, dI)) (ci := 0) (v := .int day) (C := RX0) (T := TX0) (N := 12) hx hb hts iwsX00 hown hK hP 0 rfl rfl 3 (by decide) kw2 (fun _ h9 => h9) rfl dX0_lapse_15 ?_
  refine vm_rwVv (As := [.int (f_X2_wouldLapse rm fm p1), .int day]) (rest := []) (T := TX2) (N := 1) (wc := [(h1, .inr (2, [.ref h2])), (h2, .inr (3, [.ref h3, .int 12, .int 8, .int rm])), (h3, .inl (cI, 96, .inl fm))]) (w1 := [(h1, .inr (2, [.ref h2])), (h2, .inr (3, [.ref h3, .int 12, .int 8, .int rm])), (h3, .inl (cI, 96, .inl (f_X2_lapseAll rm fm (f_X2_wouldLapse rm fm p1) day)))]) ⟨hx, hb, hml, hown, hts⟩ hK hN hP hD hS hA hl.1 ⟨Nat.le_of_ble_eq_true rfl, Nat.le_of_ble_eq_true rfl⟩ (c_X2_lapseAll l dC dI cI cB h1 h2 h3 _ rm fm (f_X2_wouldLapse rm fm p1) day) (cwV 2 hts gX0_lapse_X2_lapseAll rfl rfl rfl yd_X2_lapseAll ⟨Nat.le_of_ble_eq_true rfl, Nat.le_of_ble_eq_true rfl⟩) [1, 2, 3] rfl rfl rfl 2 rfl rfl rfl rfl (Nat.le_of_ble_eq_true rfl) dX0_lapse_18 (fun H locs hP hD hS => ?_)
  have hP : va_P (dC, dI) vwCl [(h0, .inr (0, [.ref h1, .ref h4, .ref h6, .int day, .int grace, .int longest, .int spent, .int spentIn, .int spendings, .int urgentSp, .int dropped, .int lapsedLate])), (h1, .inr (2, [.ref h2])), (h2, .inr (3, [.ref h3, .int 12, .int 8, .int rm])), (h3, .inl (cI, 96, .inl (f_X2_lapseAll rm fm (f_X2_wouldLapse rm fm p1) day))), (h4, .inr (3, [.ref h5, .int 6, .int 6, .int rq])), (h5, .inl (cI, 36, .inl fr)), (h6, .inl (cI, 8, .inl ap))] H := hP
  have hD : va_D A [(h0, .inr (0, [.ref h1, .ref h4, .ref h6, .int day, .int grace, .int longest, .int spent, .int spentIn, .int spendings, .int urgentSp, .int dropped, .int lapsedLate])), (h1, .inr (2, [.ref h2])), (h2, .inr (3, [.ref h3, .int 12, .int 8, .int rm])), (h3, .inl (cI, 96, .inl (f_X2_lapseAll rm fm (f_X2_wouldLapse rm fm p1) day))), (h4, .inr (3, [.ref h5, .int 6, .int 6, .int rq])), (h5, .inl (cI, 36, .inl fr)), (h6, .inl (cI, 8, .inl ap))] := hD
  obtain ⟨fm_c21, efm_c21⟩ : ∃ z, z = (f_X2_lapseAll rm fm (f_X2_wouldLapse rm fm p1) day) := ⟨_, rfl⟩
  rw [← efm_c21] at hP hD
  have eF : rr = f_X0_lapse_c21 rm fm rq fr dropped p1 fm_c21 := eF.trans (by rw [f_X0_lapse, efm_c21])
  refine lv_aload_n hx hb dX0_lapse_21 rfl (lv_at hl 1 rfl) ?_
  refine va_get (D := (dC, dI)) (ci := 0) (v := .ref h4) (C := RX0) (T := TX0) (N := 12) hx hb hts iwsX00 hown hK hP 0 rfl rfl 1 (by decide) kw3 (fun _ h9 => h9) rfl dX0_lapse_22 ?_
  refine va_getN (D := (dC, dI)) (ci := 3) (v := .int rq) (C := RX3) (T := TX3) (N := 4) hx hb hts iwsX30 hown hK hP 4 rfl rfl 3 (by decide) (va_Nw.use rfl hN.2.2.2.2.2.1) (fun _ h9 => h9) rfl dX0_lapse_25 ?_
  refine lv_iconst (v := 1) hx hb dX0_lapse_28 (by decide) ?_
  refine lv_isub hx hb dX0_lapse_29 ?_
  refine lv_istore_n (lv' := [(3, .int (rq - 1)), (2, .int (f_X2_wouldLapse rm fm p1)), (0, .ref h0), (1, .int p1)]) hx hb dX0_lapse_30 rfl hl (by decide) rfl (fun ls hl => ?_)
  exact hJ31 ((((rq - 1)).toInt + 1).toNat + 1) (rq - 1) dropped fm_c21 rq fr (Nat.lt_succ_self _) (eF.trans (by rw [f_X0_lapse_c21])) _ _ hP hD hS ls (lv_sub hl [2, 1, 0] rfl)

def f_X0_canAskFor_j54 : Bool :=
  true
def f_X0_canAskFor_j32 (rm : Int32) (fm : Nat → Int32) (rq : Int32) (p1 : Int32) : Bool :=
  if (f_X2_get rm fm p1 4) = 0 then
    f_X0_canAskFor_j54
  else
    if (vm_bi (f_X3_isFull 6 rq)) = 0 then
      f_X0_canAskFor_j54
    else
      false
def f_X0_canAskFor (rm : Int32) (fm : Nat → Int32) (rq : Int32) (p1 : Int32) (p2 : Int32) (p3 : Int32) : Bool :=
  if (f_X2_refusal rm fm p1 p2) = 0 then
    if p3 = 0 then
      f_X0_canAskFor_j32 rm fm rq p1
    else
      if p2 ≤ (f_X2_mostUrgent rm fm p1) then
        f_X0_canAskFor_j32 rm fm rq p1
      else
        false
  else
    false
theorem yd_X0_canAskFor : yX0_canAskFor.cls = RX0 ∧ yX0_canAskFor.cls ≠ "java/lang/invoke/MethodHandle" ∧ yX0_canAskFor.cls ≠ "java/lang/invoke/VarHandle" ∧ (parseMethodDescriptor yX0_canAskFor.desc).map (fun d => d.parameters.length) = some 3 := by decide +kernel
set_option maxHeartbeats 4000000 in
set_option maxRecDepth 100000 in
theorem c_X0_canAskFor (l : Launch) (dC : Nat → ClassId) (dI : Nat → Nat → Nat) (cI cB : ClassId) (h0 h1 h2 h3 h4 h5 h6 : Nat) (rm : Int32) (fm : Nat → Int32) (rq : Int32) (fr : Nat → Int32) (ap : Nat → Int32) (day : Int32) (grace : Int32) (longest : Int32) (spent : Int32) (spentIn : Int32) (spendings : Int32) (urgentSp : Int32) (dropped : Int32) (lapsedLate : Int32) (p1 : Int32) (p2 : Int32) (p3 : Int32) : Met l yX0_canAskFor wsX0_canAskFor ({ frames := 4, cells := 0, slots := 0, locals := 90 }) (vm_pre [.ref h0, .int p1, .int p2, .int p3] (dC, dI) [(h0, .inr (0, [.ref h1, .ref h4, .ref h6, .int day, .int grace, .int longest, .int spent, .int spentIn, .int spendings, .int urgentSp, .int dropped, .int lapsedLate])), (h1, .inr (2, [.ref h2])), (h2, .inr (3, [.ref h3, .int 12, .int 8, .int rm])), (h3, .inl (cI, 96, .inl fm)), (h4, .inr (3, [.ref h5, .int 6, .int 6, .int rq])), (h5, .inl (cI, 36, .inl fr)), (h6, .inl (cI, 8, .inl ap))] cI cB) (vp_Si (fun r9 : Int32 => r9 = vm_bi (f_X0_canAskFor rm fm rq p1 p2 p3))) 0 0 (fun _ => False) := by
  refine Met.ofW (cc := cX0_canAskFor) (maxL := 4) (ret := (some .boolean)) (by decide) rfl ?_
  intro p e s m args below meth c s₁ B hml hv
  obtain ⟨rfl, hP, hK, hN⟩ := hv
  have hx := B.exec
  have hb := B.bytes
  have hr := B.returns
  have hts := atoms_spec (ws := wsX0_canAskFor) B.pre
  have hown : s.vm.findClass RX0 = some m.cls := findClass_of_methodNamed B.named
  have hlocks := B.notSynchronized
  have kw1 := hts (.fieldLink RX0 12 "LapseMandates$Book" "mandates" "LLapseMandates$Mandates;") (List.mem_of_getElem? (i := 1) rfl)
  have kw2 := hts (.fieldLink RX0 23 "LapseMandates$Book" "requests" "LLapseMandates$Table;") (List.mem_of_getElem? (i := 2) rfl)
  have iwsX00 : ∀ w ∈ wsX00, w ∈ wsX0_canAskFor := fun w h => List.mem_cons_of_mem _ (List.mem_append_left _ (List.mem_append_left _ (List.mem_append_right _ h)))
  generalize hrr : f_X0_canAskFor rm fm rq p1 p2 p3 = rr
  have eF := hrr.symm
  have hl := lv_entry ([.ref h0, .int p1, .int p2, .int p3]) (n := 4) (Nat.le_of_ble_eq_true rfl)
  rw [lg_entry_eq]
  generalize (lg_sl ([.ref h0, .int p1, .int p2, .int p3]) ++ List.replicate (4 - (lg_sl ([.ref h0, .int p1, .int p2, .int p3])).length) Slot.unset).toArray = ls at hl ⊢
  have hl : lv_has ls 4 [(0, .ref h0), (1, .int p1), (2, .int p2), (3, .int p3)] := hl
  have hJ54 : rr = f_X0_canAskFor_j54 → ∀ (ls : Array Slot), lv_has ls 4 [] → W p l e (headSpec wsX0_canAskFor ({ frames := 4, cells := 0, slots := 0, locals := 90 })).room s m ([.ref h0, .int p1, .int p2, .int p3] : List Value).toArray below meth c s.heap [] 0 0 (MQ below (vp_Si (fun r9 : Int32 => r9 = vm_bi rr)) ([.ref h0, .int p1, .int p2, .int p3] : List Value).toArray s 0 0 (fun _ => False)) (F0 m 54 ls []) := by
    intro eF ls hl
    refine lv_iconst (v := 1) hx hb dX0_canAskFor_54 (by decide) ?_
    refine lv_goto (tgt := 59) hx hb dX0_canAskFor_55 (by decide) ?_
    have e9 : rr = true := eF.trans (by rw [f_X0_canAskFor_j54])
    exact W.zret (v := 1) hx hb hr rfl (fun t ht hW => ⟨_, rfl, by rw [e9] <;> rfl, ht⟩) (fun _ hq => by cases hq) dX0_canAskFor_59
  have hJ32 : rr = f_X0_canAskFor_j32 rm fm rq p1 → ∀ (ls : Array Slot), lv_has ls 4 [(0, .ref h0), (1, .int p1)] → W p l e (headSpec wsX0_canAskFor ({ frames := 4, cells := 0, slots := 0, locals := 90 })).room s m ([.ref h0, .int p1, .int p2, .int p3] : List Value).toArray below meth c s.heap [] 0 0 (MQ below (vp_Si (fun r9 : Int32 => r9 = vm_bi rr)) ([.ref h0, .int p1, .int p2, .int p3] : List Value).toArray s 0 0 (fun _ => False)) (F0 m 32 ls []) := by
    intro eF ls hl
    refine lv_aload_n hx hb dX0_canAskFor_32 rfl (lv_at hl 0 rfl) ?_
    refine va_get (D := (dC, dI)) (ci := 0) (v := .ref h1) (C := RX0) (T := TX0) (N := 12) hx hb hts iwsX00 hown hK hP 0 rfl rfl 0 (by decide) kw1 (fun _ h9 => h9) rfl dX0_canAskFor_33 ?_
    refine lv_iload_n hx hb dX0_canAskFor_36 rfl (lv_at hl 1 rfl) ?_
    refine lv_iconst (v := 4) hx hb dX0_canAskFor_37 (by decide) ?_
    refine vm_roVx (v := (f_X2_get rm fm p1 4)) (As := [.int p1, .int 4]) (rest := []) (T := TX2) (N := 1) (wc := [(h1, .inr (2, [.ref h2])), (h2, .inr (3, [.ref h3, .int 12, .int 8, .int rm])), (h3, .inl (cI, 96, .inl fm))]) ⟨hx, hb, hml, hown, hts⟩ hK hN hP hl.1 ⟨Nat.le_of_ble_eq_true rfl, Nat.le_of_ble_eq_true rfl⟩ (c_X2_get l dC dI cI cB h1 h2 h3 rm fm p1 4) (cwV 2 hts gX0_canAskFor_X2_get rfl rfl rfl yd_X2_get ⟨Nat.le_of_ble_eq_true rfl, Nat.le_of_ble_eq_true rfl⟩) [1, 2, 3] rfl 2 rfl rfl rfl rfl (Nat.le_of_ble_eq_true rfl) dX0_canAskFor_38 ?_
    refine lv_if_eq (tgt := 54) hx hb dX0_canAskFor_41 (by decide) (fun c_1 => ?_) (fun c_1 => ?_)
    · exact hJ54 (eF.trans (by rw [f_X0_canAskFor_j32, if_pos c_1])) ls (lv_sub hl [] rfl)
    · refine lv_aload_n hx hb dX0_canAskFor_44 rfl (lv_at hl 0 rfl) ?_
      refine va_get (D := (dC, dI)) (ci := 0) (v := .ref h4) (C := RX0) (T := TX0) (N := 12) hx hb hts iwsX00 hown hK hP 0 rfl rfl 1 (by decide) kw2 (fun _ h9 => h9) rfl dX0_canAskFor_45 ?_
      refine vm_roVx (v := vm_bi (f_X3_isFull 6 rq)) (As := []) (rest := []) (T := TX3) (N := 4) (wc := [(h4, .inr (3, [.ref h5, .int 6, .int 6, .int rq])), (h5, .inl (cI, 36, .inl fr))]) ⟨hx, hb, hml, hown, hts⟩ hK hN hP hl.1 ⟨Nat.le_of_ble_eq_true rfl, Nat.le_of_ble_eq_true rfl⟩ (c_X3_isFull l dC dI cI cB h4 h5 6 6 rq 36 fr (by decide)) (cwV 0 hts gX0_canAskFor_X3_isFull rfl rfl rfl yd_X3_isFull ⟨Nat.le_of_ble_eq_true rfl, Nat.le_of_ble_eq_true rfl⟩) [4, 5] rfl 3 rfl rfl rfl rfl (Nat.le_of_ble_eq_true rfl) dX0_canAskFor_48 ?_
      refine lv_if_ne (tgt := 58) hx hb dX0_canAskFor_51 (by decide) (fun c_2 => ?_) (fun c_2 => ?_)
      · refine lv_iconst (v := 0) hx hb dX0_canAskFor_58 (by decide) ?_
        have e9 : rr = false := eF.trans (by rw [f_X0_canAskFor_j32, if_neg c_1, if_neg c_2])
        exact W.zret (v := 0) hx hb hr rfl (fun t ht hW => ⟨_, rfl, by rw [e9] <;> rfl, ht⟩) (fun _ hq => by cases hq) dX0_canAskFor_59
      · exact hJ54 (eF.trans (by rw [f_X0_canAskFor_j32, if_neg c_1, if_pos c_2])) ls (lv_sub hl [] rfl)
  refine lv_aload_n hx hb dX0_canAskFor_0 rfl (lv_at hl 0 rfl) ?_
  refine va_get (D := (dC, dI)) (ci := 0) (v := .ref h1) (C := RX0) (T := TX0) (N := 12) hx hb hts iwsX00 hown hK hP 0 rfl rfl 0 (by decide) kw1 (fun _ h9 => h9) rfl dX0_canAskFor_1 ?_
  refine lv_iload_n hx hb dX0_canAskFor_4 rfl (lv_at hl 1 rfl) ?_
  refine lv_iload_n hx hb dX0_canAskFor_5 rfl (lv_at hl 2 rfl) ?_
  refine vm_roVx (v := (f_X2_refusal rm fm p1 p2)) (As := [.int p1, .int p2]) (rest := []) (T := TX2) (N := 1) (wc := [(h1, .inr (2, [.ref h2])), (h2, .inr (3, [.ref h3, .int 12, .int 8, .int rm])), (h3, .inl (cI, 96, .inl fm))]) ⟨hx, hb, hml, hown, hts⟩ hK hN hP hl.1 ⟨Nat.le_of_ble_eq_true rfl, Nat.le_of_ble_eq_true rfl⟩ (c_X2_refusal l dC dI cI cB h1 h2 h3 rm fm p1 p2) (cwV 2 hts gX0_canAskFor_X2_refusal rfl rfl rfl yd_X2_refusal ⟨Nat.le_of_ble_eq_true rfl, Nat.le_of_ble_eq_true rfl⟩) [1, 2, 3] rfl 2 rfl rfl rfl rfl (Nat.le_of_ble_eq_true rfl) dX0_canAskFor_6 ?_
  refine lv_if_eq (tgt := 14) hx hb dX0_canAskFor_9 (by decide) (fun c_3 => ?_) (fun c_3 => ?_)
  · refine lv_iload_n hx hb dX0_canAskFor_14 rfl (lv_at hl 3 rfl) ?_
    refine lv_if_eq (tgt := 32) hx hb dX0_canAskFor_15 (by decide) (fun c_4 => ?_) (fun c_4 => ?_)
    · exact hJ32 (eF.trans (by rw [f_X0_canAskFor, if_pos c_3, if_pos c_4])) ls (lv_sub hl [0, 1] rfl)
    · refine lv_iload_n hx hb dX0_canAskFor_18 rfl (lv_at hl 2 rfl) ?_
      refine lv_aload_n hx hb dX0_canAskFor_19 rfl (lv_at hl 0 rfl) ?_
      refine va_get (D := (dC, dI)) (ci := 0) (v := .ref h1) (C := RX0) (T := TX0) (N := 12) hx hb hts iwsX00 hown hK hP 0 rfl rfl 0 (by decide) kw1 (fun _ h9 => h9) rfl dX0_canAskFor_20 ?_
      refine lv_iload_n hx hb dX0_canAskFor_23 rfl (lv_at hl 1 rfl) ?_
      refine vm_roVx (v := (f_X2_mostUrgent rm fm p1)) (As := [.int p1]) (rest := [.int p2]) (T := TX2) (N := 1) (wc := [(h1, .inr (2, [.ref h2])), (h2, .inr (3, [.ref h3, .int 12, .int 8, .int rm])), (h3, .inl (cI, 96, .inl fm))]) ⟨hx, hb, hml, hown, hts⟩ hK hN hP hl.1 ⟨Nat.le_of_ble_eq_true rfl, Nat.le_of_ble_eq_true rfl⟩ (c_X2_mostUrgent l dC dI cI cB h1 h2 h3 rm fm p1) (cwV 1 hts gX0_canAskFor_X2_mostUrgent rfl rfl rfl yd_X2_mostUrgent ⟨Nat.le_of_ble_eq_true rfl, Nat.le_of_ble_eq_true rfl⟩) [1, 2, 3] rfl 2 rfl rfl rfl rfl (Nat.le_of_ble_eq_true rfl) dX0_canAskFor_24 ?_
      refine lv_icmp_le (tgt := 32) hx hb dX0_canAskFor_27 (by decide) (fun c_5 => ?_) (fun c_5 => ?_)
      · exact hJ32 (eF.trans (by rw [f_X0_canAskFor, if_pos c_3, if_neg c_4, if_pos c_5])) ls (lv_sub hl [0, 1] rfl)
      · refine lv_iconst (v := 0) hx hb dX0_canAskFor_30 (by decide) ?_
        have e9 : rr = false := eF.trans (by rw [f_X0_canAskFor, if_pos c_3, if_neg c_4, if_neg c_5])
        exact W.zret (v := 0) hx hb hr rfl (fun t ht hW => ⟨_, rfl, by rw [e9] <;> rfl, ht⟩) (fun _ hq => by cases hq) dX0_canAskFor_31
  · refine lv_iconst (v := 0) hx hb dX0_canAskFor_12 (by decide) ?_
    have e9 : rr = false := eF.trans (by rw [f_X0_canAskFor, if_neg c_3])
    exact W.zret (v := 0) hx hb hr rfl (fun t ht hW => ⟨_, rfl, by rw [e9] <;> rfl, ht⟩) (fun _ hq => by cases hq) dX0_canAskFor_13

def f_X0_makeSpending_c9 (spent : Int32) (spentIn : Int32) (spendings : Int32) (p2 : Int32) (fm_c9 : Nat → Int32) : Int32 × Int32 × Int32 × (Nat → Int32) :=
  ((spent + p2), (spentIn + p2), (spendings + 1), fm_c9)
def f_X0_makeSpending (rm : Int32) (fm : Nat → Int32) (spent : Int32) (spentIn : Int32) (spendings : Int32) (p1 : Int32) (p2 : Int32) : Int32 × Int32 × Int32 × (Nat → Int32) :=
  f_X0_makeSpending_c9 spent spentIn spendings p2 (f_X2_addSpending rm fm p1 p2)
theorem yd_X0_makeSpending : yX0_makeSpending.cls = RX0 ∧ yX0_makeSpending.cls ≠ "java/lang/invoke/MethodHandle" ∧ yX0_makeSpending.cls ≠ "java/lang/invoke/VarHandle" ∧ (parseMethodDescriptor yX0_makeSpending.desc).map (fun d => d.parameters.length) = some 2 := by decide +kernel
set_option maxHeartbeats 4000000 in
set_option maxRecDepth 100000 in
theorem c_X0_makeSpending (l : Launch) (dC : Nat → ClassId) (dI : Nat → Nat → Nat) (cI cB : ClassId) (h0 h1 h2 h3 h4 h5 h6 : Nat) (sz : Nat) (rm : Int32) (fm : Nat → Int32) (rq : Int32) (fr : Nat → Int32) (ap : Nat → Int32) (day : Int32) (grace : Int32) (longest : Int32) (spent : Int32) (spentIn : Int32) (spendings : Int32) (urgentSp : Int32) (dropped : Int32) (lapsedLate : Int32) (p1 : Int32) (p2 : Int32) : Met l yX0_makeSpending wsX0_makeSpending ({ frames := 2, cells := 0, slots := 0, locals := 48 }) (vm_prw [.ref h0, .int p1, .int p2] (dC, dI) [(h0, .inr (0, [.ref h1, .ref h4, .ref h6, .int day, .int grace, .int longest, .int spent, .int spentIn, .int spendings, .int urgentSp, .int dropped, .int lapsedLate])), (h1, .inr (2, [.ref h2])), (h2, .inr (3, [.ref h3, .int 12, .int 8, .int rm])), (h3, .inl (cI, 96, .inl fm)), (h4, .inr (3, [.ref h5, .int 6, .int 6, .int rq])), (h5, .inl (cI, 36, .inl fr)), (h6, .inl (cI, 8, .inl ap))] cI cB sz) (va_Qv (fun _ : Unit => True) (fun _ t => va_P (dC, dI) vwCl [(h0, .inr (0, [.ref h1, .ref h4, .ref h6, .int day, .int grace, .int longest, .int ((f_X0_makeSpending rm fm spent spentIn spendings p1 p2).1), .int ((f_X0_makeSpending rm fm spent spentIn spendings p1 p2).2.1), .int ((f_X0_makeSpending rm fm spent spentIn spendings p1 p2).2.2.1), .int urgentSp, .int dropped, .int lapsedLate])), (h1, .inr (2, [.ref h2])), (h2, .inr (3, [.ref h3, .int 12, .int 8, .int rm])), (h3, .inl (cI, 96, .inl ((f_X0_makeSpending rm fm spent spentIn spendings p1 p2).2.2.2))), (h4, .inr (3, [.ref h5, .int 6, .int 6, .int rq])), (h5, .inl (cI, 36, .inl fr)), (h6, .inl (cI, 8, .inl ap))] t.heap) (va_A [(h0, .inr (0, [.ref h1, .ref h4, .ref h6, .int day, .int grace, .int longest, .int spent, .int spentIn, .int spendings, .int urgentSp, .int dropped, .int lapsedLate])), (h1, .inr (2, [.ref h2])), (h2, .inr (3, [.ref h3, .int 12, .int 8, .int rm])), (h3, .inl (cI, 96, .inl fm)), (h4, .inr (3, [.ref h5, .int 6, .int 6, .int rq])), (h5, .inl (cI, 36, .inl fr)), (h6, .inl (cI, 8, .inl ap))] sz)) 0 0 (va_A [(h0, .inr (0, [.ref h1, .ref h4, .ref h6, .int day, .int grace, .int longest, .int spent, .int spentIn, .int spendings, .int urgentSp, .int dropped, .int lapsedLate])), (h1, .inr (2, [.ref h2])), (h2, .inr (3, [.ref h3, .int 12, .int 8, .int rm])), (h3, .inl (cI, 96, .inl fm)), (h4, .inr (3, [.ref h5, .int 6, .int 6, .int rq])), (h5, .inl (cI, 36, .inl fr)), (h6, .inl (cI, 8, .inl ap))] sz) := by
  refine Met.ofW (cc := cX0_makeSpending) (maxL := 3) (ret := none) (by decide) rfl ?_
  intro p e s m args below meth c s₁ B hml hv
  obtain ⟨rfl, hsz, hP, hK, hN, hD0⟩ := hv
  have hx := B.exec
  have hb := B.bytes
  have hr := B.returns
  have hts := atoms_spec (ws := wsX0_makeSpending) B.pre
  have hown : s.vm.findClass RX0 = some m.cls := findClass_of_methodNamed B.named
  have hlocks := B.notSynchronized
  subst hsz
  have hD := hD0.self (sz := s.heap.size)
  generalize hAe : va_A [(h0, .inr (0, [.ref h1, .ref h4, .ref h6, .int day, .int grace, .int longest, .int spent, .int spentIn, .int spendings, .int urgentSp, .int dropped, .int lapsedLate])), (h1, .inr (2, [.ref h2])), (h2, .inr (3, [.ref h3, .int 12, .int 8, .int rm])), (h3, .inl (cI, 96, .inl fm)), (h4, .inr (3, [.ref h5, .int 6, .int 6, .int rq])), (h5, .inl (cI, 36, .inl fr)), (h6, .inl (cI, 8, .inl ap))] s.heap.size = A at hD ⊢
  have hA : ∀ q : Nat, s.heap.size ≤ q → A q := fun q h => by rw [← hAe]; exact Or.inr h
  have hS : va_S A s.heap s.heap [] := va_S.rf
  have hP : va_P (dC, dI) vwCl [(h0, .inr (0, [.ref h1, .ref h4, .ref h6, .int day, .int grace, .int longest, .int spent, .int spentIn, .int spendings, .int urgentSp, .int dropped, .int lapsedLate])), (h1, .inr (2, [.ref h2])), (h2, .inr (3, [.ref h3, .int 12, .int 8, .int rm])), (h3, .inl (cI, 96, .inl fm)), (h4, .inr (3, [.ref h5, .int 6, .int 6, .int rq])), (h5, .inl (cI, 36, .inl fr)), (h6, .inl (cI, 8, .inl ap))] s.heap := hP
  have kw1 := hts (.fieldLink RX0 12 "LapseMandates$Book" "mandates" "LLapseMandates$Mandates;") (List.mem_of_getElem? (i := 1) rfl)
  have kw2 := hts (.fieldLink RX0 48 "LapseMandates$Book" "spent" "I") (List.mem_of_getElem? (i := 2) rfl)
  have kw3 := hts (.fieldLink RX0 51 "LapseMandates$Book" "spentInPeriod" "I") (List.mem_of_getElem? (i := 3) rfl)
  have kw4 := hts (.fieldLink RX0 54 "LapseMandates$Book" "spendings" "I") (List.mem_of_getElem? (i := 4) rfl)
  have iwsX00 : ∀ w ∈ wsX00, w ∈ wsX0_makeSpending := fun w h => List.mem_cons_of_mem _ (List.mem_append_left _ (List.mem_append_left _ (List.mem_append_right _ h)))
  generalize hrr : f_X0_makeSpending rm fm spent spentIn spendings p1 p2 = rr
  have eF := hrr.symm
  have hl := lv_entry ([.ref h0, .int p1, .int p2]) (n := 3) (Nat.le_of_ble_eq_true rfl)
  rw [lg_entry_eq]
  generalize (lg_sl ([.ref h0, .int p1, .int p2]) ++ List.replicate (3 - (lg_sl ([.ref h0, .int p1, .int p2])).length) Slot.unset).toArray = ls at hl ⊢
  have hl : lv_has ls 3 [(0, .ref h0), (1, .int p1), (2, .int p2)] := hl
  refine lv_aload_n hx hb dX0_makeSpending_0 rfl (lv_at hl 0 rfl) ?_
  refine va_get (D := (dC, dI)) (ci := 0) (v := .ref h1) (C := RX0) (T := TX0) (N := 12) hx hb hts iwsX00 hown hK hP 0 rfl rfl 0 (by decide) kw1 (fun _ h9 => h9) rfl dX0_makeSpending_1 ?_
  refine lv_iload_n hx hb dX0_makeSpending_4 rfl (lv_at hl 1 rfl) ?_
  refine lv_iload_n hx hb dX0_makeSpending_5 rfl (lv_at hl 2 rfl) ?_
  refine vm_rwVv (As := [.int p1, .int p2]) (rest := []) (T := TX2) (N := 1) (wc := [(h1, .inr (2, [.ref h2])), (h2, .inr (3, [.ref h3, .int 12, .int 8, .int rm])), (h3, .inl (cI, 96, .inl fm))]) (w1 := [(h1, .inr (2, [.ref h2])), (h2, .inr (3, [.ref h3, .int 12, .int 8, .int rm])), (h3, .inl (cI, 96, .inl (f_X2_addSpending rm fm p1 p2)))]) ⟨hx, hb, hml, hown, hts⟩ hK hN hP hD hS hA hl.1 ⟨Nat.le_of_ble_eq_true rfl, Nat.le_of_ble_eq_true rfl⟩ (c_X2_addSpending l dC dI cI cB h1 h2 h3 _ rm fm p1 p2) (cwV 2 hts gX0_makeSpending_X2_addSpending rfl rfl rfl yd_X2_addSpending ⟨Nat.le_of_ble_eq_true rfl, Nat.le_of_ble_eq_true rfl⟩) [1, 2, 3] rfl rfl rfl 2 rfl rfl rfl rfl (Nat.le_of_ble_eq_true rfl) dX0_makeSpending_6 (fun H locs hP hD hS => ?_)
  have hP : va_P (dC, dI) vwCl [(h0, .inr (0, [.ref h1, .ref h4, .ref h6, .int day, .int grace, .int longest, .int spent, .int spentIn, .int spendings, .int urgentSp, .int dropped, .int lapsedLate])), (h1, .inr (2, [.ref h2])), (h2, .inr (3, [.ref h3, .int 12, .int 8, .int rm])), (h3, .inl (cI, 96, .inl (f_X2_addSpending rm fm p1 p2))), (h4, .inr (3, [.ref h5, .int 6, .int 6, .int rq])), (h5, .inl (cI, 36, .inl fr)), (h6, .inl (cI, 8, .inl ap))] H := hP
  have hD : va_D A [(h0, .inr (0, [.ref h1, .ref h4, .ref h6, .int day, .int grace, .int longest, .int spent, .int spentIn, .int spendings, .int urgentSp, .int dropped, .int lapsedLate])), (h1, .inr (2, [.ref h2])), (h2, .inr (3, [.ref h3, .int 12, .int 8, .int rm])), (h3, .inl (cI, 96, .inl (f_X2_addSpending rm fm p1 p2))), (h4, .inr (3, [.ref h5, .int 6, .int 6, .int rq])), (h5, .inl (cI, 36, .inl fr)), (h6, .inl (cI, 8, .inl ap))] := hD
  obtain ⟨fm_c9, efm_c9⟩ : ∃ z, z = (f_X2_addSpending rm fm p1 p2) := ⟨_, rfl⟩
  rw [← efm_c9] at hP hD
  have eF : rr = f_X0_makeSpending_c9 spent spentIn spendings p2 fm_c9 := eF.trans (by rw [f_X0_makeSpending, efm_c9])
  refine lv_aload_n hx hb dX0_makeSpending_9 rfl (lv_at hl 0 rfl) ?_
  refine lv_dup hx hb dX0_makeSpending_10 rfl ?_
  refine va_get (D := (dC, dI)) (ci := 0) (v := .int spent) (C := RX0) (T := TX0) (N := 12) hx hb hts iwsX00 hown hK hP 0 rfl rfl 6 (by decide) kw2 (fun _ h9 => h9) rfl dX0_makeSpending_11 ?_
  refine lv_iload_n hx hb dX0_makeSpending_14 rfl (lv_at hl 2 rfl) ?_
  refine lv_iadd hx hb dX0_makeSpending_15 ?_
  refine va_put (D := (dC, dI)) (ci := 0) (v := .int (spent + p2)) (ty := .int) (C := RX0) (T := TX0) (N := 12) hx hb hts iwsX00 tyX0 tyX0_ok nmX0 hown hK hP hD hS 0 rfl rfl 6 (by decide) kw2 (fun _ h9 => h9) rfl (by decide +kernel) rfl rfl (Nat.le_of_ble_eq_true rfl) dX0_makeSpending_16 (fun H locs hP hD hS => ?_)
  have hP : va_P (dC, dI) vwCl [(h0, .inr (0, [.ref h1, .ref h4, .ref h6, .int day, .int grace, .int longest, .int (spent + p2), .int spentIn, .int spendings, .int urgentSp, .int dropped, .int lapsedLate])), (h1, .inr (2, [.ref h2])), (h2, .inr (3, [.ref h3, .int 12, .int 8, .int rm])), (h3, .inl (cI, 96, .inl fm_c9)), (h4, .inr (3, [.ref h5, .int 6, .int 6, .int rq])), (h5, .inl (cI, 36, .inl fr)), (h6, .inl (cI, 8, .inl ap))] H := hP
  have hD : va_D A [(h0, .inr (0, [.ref h1, .ref h4, .ref h6, .int day, .int grace, .int longest, .int (spent + p2), .int spentIn, .int spendings, .int urgentSp, .int dropped, .int lapsedLate])), (h1, .inr (2, [.ref h2])), (h2, .inr (3, [.ref h3, .int 12, .int 8, .int rm])), (h3, .inl (cI, 96, .inl fm_c9)), (h4, .inr (3, [.ref h5, .int 6, .int 6, .int rq])), (h5, .inl (cI, 36, .inl fr)), (h6, .inl (cI, 8, .inl ap))] := hD
  refine lv_aload_n hx hb dX0_makeSpending_19 rfl (lv_at hl 0 rfl) ?_
  refine lv_dup hx hb dX0_makeSpending_20 rfl ?_
  refine va_get (D := (dC, dI)) (ci := 0) (v := .int spentIn) (C := RX0) (T := TX0) (N := 12) hx hb hts iwsX00 hown hK hP 0 rfl rfl 7 (by decide) kw3 (fun _ h9 => h9) rfl dX0_makeSpending_21 ?_
  refine lv_iload_n hx hb dX0_makeSpending_24 rfl (lv_at hl 2 rfl) ?_
  refine lv_iadd hx hb dX0_makeSpending_25 ?_
  refine va_put (D := (dC, dI)) (ci := 0) (v := .int (spentIn + p2)) (ty := .int) (C := RX0) (T := TX0) (N := 12) hx hb hts iwsX00 tyX0 tyX0_ok nmX0 hown hK hP hD hS 0 rfl rfl 7 (by decide) kw3 (fun _ h9 => h9) rfl (by decide +kernel) rfl rfl (Nat.le_of_ble_eq_true rfl) dX0_makeSpending_26 (fun H locs hP hD hS => ?_)
  have hP : va_P (dC, dI) vwCl [(h0, .inr (0, [.ref h1, .ref h4, .ref h6, .int day, .int grace, .int longest, .int (spent + p2), .int (spentIn + p2), .int spendings, .int urgentSp, .int dropped, .int lapsedLate])), (h1, .inr (2, [.ref h2])), (h2, .inr (3, [.ref h3, .int 12, .int 8, .int rm])), (h3, .inl (cI, 96, .inl fm_c9)), (h4, .inr (3, [.ref h5, .int 6, .int 6, .int rq])), (h5, .inl (cI, 36, .inl fr)), (h6, .inl (cI, 8, .inl ap))] H := hP
  have hD : va_D A [(h0, .inr (0, [.ref h1, .ref h4, .ref h6, .int day, .int grace, .int longest, .int (spent + p2), .int (spentIn + p2), .int spendings, .int urgentSp, .int dropped, .int lapsedLate])), (h1, .inr (2, [.ref h2])), (h2, .inr (3, [.ref h3, .int 12, .int 8, .int rm])), (h3, .inl (cI, 96, .inl fm_c9)), (h4, .inr (3, [.ref h5, .int 6, .int 6, .int rq])), (h5, .inl (cI, 36, .inl fr)), (h6, .inl (cI, 8, .inl ap))] := hD
  refine lv_aload_n hx hb dX0_makeSpending_29 rfl (lv_at hl 0 rfl) ?_
  refine lv_dup hx hb dX0_makeSpending_30 rfl ?_
  refine va_get (D := (dC, dI)) (ci := 0) (v := .int spendings) (C := RX0) (T := TX0) (N := 12) hx hb hts iwsX00 hown hK hP 0 rfl rfl 8 (by decide) kw4 (fun _ h9 => h9) rfl dX0_makeSpending_31 ?_
  refine lv_iconst (v := 1) hx hb dX0_makeSpending_34 (by decide) ?_
  refine lv_iadd hx hb dX0_makeSpending_35 ?_
  refine va_put (D := (dC, dI)) (ci := 0) (v := .int (spendings + 1)) (ty := .int) (C := RX0) (T := TX0) (N := 12) hx hb hts iwsX00 tyX0 tyX0_ok nmX0 hown hK hP hD hS 0 rfl rfl 8 (by decide) kw4 (fun _ h9 => h9) rfl (by decide +kernel) rfl rfl (Nat.le_of_ble_eq_true rfl) dX0_makeSpending_36 (fun H locs hP hD hS => ?_)
  have hP : va_P (dC, dI) vwCl [(h0, .inr (0, [.ref h1, .ref h4, .ref h6, .int day, .int grace, .int longest, .int (spent + p2), .int (spentIn + p2), .int (spendings + 1), .int urgentSp, .int dropped, .int lapsedLate])), (h1, .inr (2, [.ref h2])), (h2, .inr (3, [.ref h3, .int 12, .int 8, .int rm])), (h3, .inl (cI, 96, .inl fm_c9)), (h4, .inr (3, [.ref h5, .int 6, .int 6, .int rq])), (h5, .inl (cI, 36, .inl fr)), (h6, .inl (cI, 8, .inl ap))] H := hP
  have hD : va_D A [(h0, .inr (0, [.ref h1, .ref h4, .ref h6, .int day, .int grace, .int longest, .int (spent + p2), .int (spentIn + p2), .int (spendings + 1), .int urgentSp, .int dropped, .int lapsedLate])), (h1, .inr (2, [.ref h2])), (h2, .inr (3, [.ref h3, .int 12, .int 8, .int rm])), (h3, .inl (cI, 96, .inl fm_c9)), (h4, .inr (3, [.ref h5, .int 6, .int 6, .int rq])), (h5, .inl (cI, 36, .inl fr)), (h6, .inl (cI, 8, .inl ap))] := hD
  have e9 : rr = ((spent + p2), (spentIn + p2), (spendings + 1), fm_c9) := eF.trans (by rw [f_X0_makeSpending_c9])
  exact W.vret hx hb hr (fun t ht hW => ⟨⟨(), rfl, trivial, (by rw [e9]; show va_P _ _ _ t.heap; rw [ht]; exact hP)⟩, hS.F ht⟩) hS.2.2 dX0_makeSpending_39

def f_X0_addRequest_c76 (rq_61 : Int32) (fr_c76 : Nat → Int32) : Int32 × (Nat → Int32) :=
  (rq_61, fr_c76)
def f_X0_addRequest_c64 (p4 : Int32) (x5_61 : Int32) (rq_61 : Int32) (fr_c64 : Nat → Int32) : Int32 × (Nat → Int32) :=
  f_X0_addRequest_c76 rq_61 (f_X3_put 6 rq_61 36 fr_c64 x5_61 4 p4)
def f_X0_addRequest_j61 (p4 : Int32) (x5_61 : Int32) (s0_61 : Bool) (s2_61 : Int32) (rq_61 : Int32) (fr_61 : Nat → Int32) : Int32 × (Nat → Int32) :=
  f_X0_addRequest_c64 p4 x5_61 rq_61 (f_X3_put 6 rq_61 36 fr_61 s2_61 3 (vm_bi s0_61))
def f_X0_addRequest_c45 (p3 : Int32) (p4 : Int32) (y7 : Int32) (rq_c7 : Int32) (fr_c45 : Nat → Int32) : Int32 × (Nat → Int32) :=
  if p3 = 0 then
    f_X0_addRequest_j61 p4 y7 false y7 rq_c7 fr_c45
  else
    f_X0_addRequest_j61 p4 y7 true y7 rq_c7 fr_c45
def f_X0_addRequest_c31 (day : Int32) (p3 : Int32) (p4 : Int32) (y7 : Int32) (rq_c7 : Int32) (fr_c31 : Nat → Int32) : Int32 × (Nat → Int32) :=
  f_X0_addRequest_c45 p3 p4 y7 rq_c7 (f_X3_put 6 rq_c7 36 fr_c31 y7 2 day)
def f_X0_addRequest_c20 (day : Int32) (p2 : Int32) (p3 : Int32) (p4 : Int32) (y7 : Int32) (rq_c7 : Int32) (fr_c20 : Nat → Int32) : Int32 × (Nat → Int32) :=
  f_X0_addRequest_c31 day p3 p4 y7 rq_c7 (f_X3_put 6 rq_c7 36 fr_c20 y7 1 p2)
def f_X0_addRequest_c7 (day : Int32) (p1 : Int32) (p2 : Int32) (p3 : Int32) (p4 : Int32) (y7 : Int32) (rq_c7 : Int32) (fr_c7 : Nat → Int32) : Int32 × (Nat → Int32) :=
  f_X0_addRequest_c20 day p2 p3 p4 y7 rq_c7 (f_X3_put 6 rq_c7 36 fr_c7 y7 0 p1)
def f_X0_addRequest (rq : Int32) (fr : Nat → Int32) (day : Int32) (p1 : Int32) (p2 : Int32) (p3 : Int32) (p4 : Int32) : Int32 × (Nat → Int32) :=
  f_X0_addRequest_c7 day p1 p2 p3 p4 ((f_X3_addRow 6 6 rq 36 fr).1) ((f_X3_addRow 6 6 rq 36 fr).2.1) ((f_X3_addRow 6 6 rq 36 fr).2.2)
theorem yd_X0_addRequest : yX0_addRequest.cls = RX0 ∧ yX0_addRequest.cls ≠ "java/lang/invoke/MethodHandle" ∧ yX0_addRequest.cls ≠ "java/lang/invoke/VarHandle" ∧ (parseMethodDescriptor yX0_addRequest.desc).map (fun d => d.parameters.length) = some 4 := by decide +kernel
set_option maxHeartbeats 4000000 in
set_option maxRecDepth 100000 in
theorem c_X0_addRequest (l : Launch) (dC : Nat → ClassId) (dI : Nat → Nat → Nat) (cI cB : ClassId) (h0 h1 h2 h3 h4 h5 h6 : Nat) (sz : Nat) (rm : Int32) (fm : Nat → Int32) (rq : Int32) (fr : Nat → Int32) (ap : Nat → Int32) (day : Int32) (grace : Int32) (longest : Int32) (spent : Int32) (spentIn : Int32) (spendings : Int32) (urgentSp : Int32) (dropped : Int32) (lapsedLate : Int32) (p1 : Int32) (p2 : Int32) (p3 : Int32) (p4 : Int32) : Met l yX0_addRequest wsX0_addRequest ({ frames := 2, cells := 0, slots := 0, locals := 46 }) (vm_prw [.ref h0, .int p1, .int p2, .int p3, .int p4] (dC, dI) [(h0, .inr (0, [.ref h1, .ref h4, .ref h6, .int day, .int grace, .int longest, .int spent, .int spentIn, .int spendings, .int urgentSp, .int dropped, .int lapsedLate])), (h1, .inr (2, [.ref h2])), (h2, .inr (3, [.ref h3, .int 12, .int 8, .int rm])), (h3, .inl (cI, 96, .inl fm)), (h4, .inr (3, [.ref h5, .int 6, .int 6, .int rq])), (h5, .inl (cI, 36, .inl fr)), (h6, .inl (cI, 8, .inl ap))] cI cB sz) (va_Qv (fun _ : Unit => True) (fun _ t => va_P (dC, dI) vwCl [(h0, .inr (0, [.ref h1, .ref h4, .ref h6, .int day, .int grace, .int longest, .int spent, .int spentIn, .int spendings, .int urgentSp, .int dropped, .int lapsedLate])), (h1, .inr (2, [.ref h2])), (h2, .inr (3, [.ref h3, .int 12, .int 8, .int rm])), (h3, .inl (cI, 96, .inl fm)), (h4, .inr (3, [.ref h5, .int 6, .int 6, .int ((f_X0_addRequest rq fr day p1 p2 p3 p4).1)])), (h5, .inl (cI, 36, .inl ((f_X0_addRequest rq fr day p1 p2 p3 p4).2))), (h6, .inl (cI, 8, .inl ap))] t.heap) (va_A [(h0, .inr (0, [.ref h1, .ref h4, .ref h6, .int day, .int grace, .int longest, .int spent, .int spentIn, .int spendings, .int urgentSp, .int dropped, .int lapsedLate])), (h1, .inr (2, [.ref h2])), (h2, .inr (3, [.ref h3, .int 12, .int 8, .int rm])), (h3, .inl (cI, 96, .inl fm)), (h4, .inr (3, [.ref h5, .int 6, .int 6, .int rq])), (h5, .inl (cI, 36, .inl fr)), (h6, .inl (cI, 8, .inl ap))] sz)) 0 0 (va_A [(h0, .inr (0, [.ref h1, .ref h4, .ref h6, .int day, .int grace, .int longest, .int spent, .int spentIn, .int spendings, .int urgentSp, .int dropped, .int lapsedLate])), (h1, .inr (2, [.ref h2])), (h2, .inr (3, [.ref h3, .int 12, .int 8, .int rm])), (h3, .inl (cI, 96, .inl fm)), (h4, .inr (3, [.ref h5, .int 6, .int 6, .int rq])), (h5, .inl (cI, 36, .inl fr)), (h6, .inl (cI, 8, .inl ap))] sz) := by
  refine Met.ofW (cc := cX0_addRequest) (maxL := 6) (ret := none) (by decide) rfl ?_
  intro p e s m args below meth c s₁ B hml hv
  obtain ⟨rfl, hsz, hP, hK, hN, hD0⟩ := hv
  have hx := B.exec
  have hb := B.bytes
  have hr := B.returns
  have hts := atoms_spec (ws := wsX0_addRequest) B.pre
  have hown : s.vm.findClass RX0 = some m.cls := findClass_of_methodNamed B.named
  have hlocks := B.notSynchronized
  subst hsz
  have hD := hD0.self (sz := s.heap.size)
  generalize hAe : va_A [(h0, .inr (0, [.ref h1, .ref h4, .ref h6, .int day, .int grace, .int longest, .int spent, .int spentIn, .int spendings, .int urgentSp, .int dropped, .int lapsedLate])), (h1, .inr (2, [.ref h2])), (h2, .inr (3, [.ref h3, .int 12, .int 8, .int rm])), (h3, .inl (cI, 96, .inl fm)), (h4, .inr (3, [.ref h5, .int 6, .int 6, .int rq])), (h5, .inl (cI, 36, .inl fr)), (h6, .inl (cI, 8, .inl ap))] s.heap.size = A at hD ⊢
  have hA : ∀ q : Nat, s.heap.size ≤ q → A q := fun q h => by rw [← hAe]; exact Or.inr h
  have hS : va_S A s.heap s.heap [] := va_S.rf
  have hP : va_P (dC, dI) vwCl [(h0, .inr (0, [.ref h1, .ref h4, .ref h6, .int day, .int grace, .int longest, .int spent, .int spentIn, .int spendings, .int urgentSp, .int dropped, .int lapsedLate])), (h1, .inr (2, [.ref h2])), (h2, .inr (3, [.ref h3, .int 12, .int 8, .int rm])), (h3, .inl (cI, 96, .inl fm)), (h4, .inr (3, [.ref h5, .int 6, .int 6, .int rq])), (h5, .inl (cI, 36, .inl fr)), (h6, .inl (cI, 8, .inl ap))] s.heap := hP
  have kw1 := hts (.fieldLink RX0 23 "LapseMandates$Book" "requests" "LLapseMandates$Table;") (List.mem_of_getElem? (i := 1) rfl)
  have kw2 := hts (.fieldLink RX0 45 "LapseMandates$Book" "day" "I") (List.mem_of_getElem? (i := 2) rfl)
  have iwsX00 : ∀ w ∈ wsX00, w ∈ wsX0_addRequest := fun w h => List.mem_cons_of_mem _ (List.mem_append_left _ (List.mem_append_right _ h))
  generalize hrr : f_X0_addRequest rq fr day p1 p2 p3 p4 = rr
  have eF := hrr.symm
  have hl := lv_entry ([.ref h0, .int p1, .int p2, .int p3, .int p4]) (n := 6) (Nat.le_of_ble_eq_true rfl)
  rw [lg_entry_eq]
  generalize (lg_sl ([.ref h0, .int p1, .int p2, .int p3, .int p4]) ++ List.replicate (6 - (lg_sl ([.ref h0, .int p1, .int p2, .int p3, .int p4])).length) Slot.unset).toArray = ls at hl ⊢
  have hl : lv_has ls 6 [(0, .ref h0), (1, .int p1), (2, .int p2), (3, .int p3), (4, .int p4)] := hl
  have hJ61 : ∀ (x5_61 : Int32) (s0_61 : Bool) (s2_61 : Int32) (rq_61 : Int32) (fr_61 : Nat → Int32), rr = f_X0_addRequest_j61 p4 x5_61 s0_61 s2_61 rq_61 fr_61 → ∀ (H : Heap) (locs : List Loc), va_P (dC, dI) vwCl [(h0, .inr (0, [.ref h1, .ref h4, .ref h6, .int day, .int grace, .int longest, .int spent, .int spentIn, .int spendings, .int urgentSp, .int dropped, .int lapsedLate])), (h1, .inr (2, [.ref h2])), (h2, .inr (3, [.ref h3, .int 12, .int 8, .int rm])), (h3, .inl (cI, 96, .inl fm)), (h4, .inr (3, [.ref h5, .int 6, .int 6, .int rq_61])), (h5, .inl (cI, 36, .inl fr_61)), (h6, .inl (cI, 8, .inl ap))] H → va_D A [(h0, .inr (0, [.ref h1, .ref h4, .ref h6, .int day, .int grace, .int longest, .int spent, .int spentIn, .int spendings, .int urgentSp, .int dropped, .int lapsedLate])), (h1, .inr (2, [.ref h2])), (h2, .inr (3, [.ref h3, .int 12, .int 8, .int rm])), (h3, .inl (cI, 96, .inl fm)), (h4, .inr (3, [.ref h5, .int 6, .int 6, .int rq_61])), (h5, .inl (cI, 36, .inl fr_61)), (h6, .inl (cI, 8, .inl ap))] → va_S A s.heap H locs → ∀ (ls : Array Slot), lv_has ls 6 [(0, .ref h0), (4, .int p4), (5, .int x5_61)] → W p l e (headSpec wsX0_addRequest ({ frames := 2, cells := 0, slots := 0, locals := 46 })).room s m ([.ref h0, .int p1, .int p2, .int p3, .int p4] : List Value).toArray below meth c H locs 0 0 (MQ below (va_Qv (fun _ : Unit => True) (fun _ t => va_P (dC, dI) vwCl [(h0, .inr (0, [.ref h1, .ref h4, .ref h6, .int day, .int grace, .int longest, .int spent, .int spentIn, .int spendings, .int urgentSp, .int dropped, .int lapsedLate])), (h1, .inr (2, [.ref h2])), (h2, .inr (3, [.ref h3, .int 12, .int 8, .int rm])), (h3, .inl (cI, 96, .inl fm)), (h4, .inr (3, [.ref h5, .int 6, .int 6, .int rr.1])), (h5, .inl (cI, 36, .inl rr.2)), (h6, .inl (cI, 8, .inl ap))] t.heap) A) ([.ref h0, .int p1, .int p2, .int p3, .int p4] : List Value).toArray s 0 0 A) (F0 m 61 ls [.int (vm_bi s0_61), .int 3, .int s2_61, .ref h4]) := by
    intro x5_61 s0_61 s2_61 rq_61 fr_61 eF H locs hP hD hS ls hl
    refine vm_rwVv (As := [.int s2_61, .int 3, .int (vm_bi s0_61)]) (rest := []) (T := TX3) (N := 4) (wc := [(h4, .inr (3, [.ref h5, .int 6, .int 6, .int rq_61])), (h5, .inl (cI, 36, .inl fr_61))]) (w1 := [(h4, .inr (3, [.ref h5, .int 6, .int 6, .int rq_61])), (h5, .inl (cI, 36, .inl (f_X3_put 6 rq_61 36 fr_61 s2_61 3 (vm_bi s0_61))))]) ⟨hx, hb, hml, hown, hts⟩ hK hN hP hD hS hA hl.1 ⟨Nat.le_of_ble_eq_true rfl, Nat.le_of_ble_eq_true rfl⟩ (c_X3_put l dC dI cI cB h4 h5 _ 6 6 rq_61 36 fr_61 s2_61 3 (vm_bi s0_61) (by decide)) (cwV 3 hts gX0_addRequest_X3_put rfl rfl rfl yd_X3_put ⟨Nat.le_of_ble_eq_true rfl, Nat.le_of_ble_eq_true rfl⟩) [4, 5] rfl rfl rfl 3 rfl rfl rfl rfl (Nat.le_of_ble_eq_true rfl) dX0_addRequest_61 (fun H locs hP hD hS => ?_)
    have hP : va_P (dC, dI) vwCl [(h0, .inr (0, [.ref h1, .ref h4, .ref h6, .int day, .int grace, .int longest, .int spent, .int spentIn, .int spendings, .int urgentSp, .int dropped, .int lapsedLate])), (h1, .inr (2, [.ref h2])), (h2, .inr (3, [.ref h3, .int 12, .int 8, .int rm])), (h3, .inl (cI, 96, .inl fm)), (h4, .inr (3, [.ref h5, .int 6, .int 6, .int rq_61])), (h5, .inl (cI, 36, .inl (f_X3_put 6 rq_61 36 fr_61 s2_61 3 (vm_bi s0_61)))), (h6, .inl (cI, 8, .inl ap))] H := hP
    have hD : va_D A [(h0, .inr (0, [.ref h1, .ref h4, .ref h6, .int day, .int grace, .int longest, .int spent, .int spentIn, .int spendings, .int urgentSp, .int dropped, .int lapsedLate])), (h1, .inr (2, [.ref h2])), (h2, .inr (3, [.ref h3, .int 12, .int 8, .int rm])), (h3, .inl (cI, 96, .inl fm)), (h4, .inr (3, [.ref h5, .int 6, .int 6, .int rq_61])), (h5, .inl (cI, 36, .inl (f_X3_put 6 rq_61 36 fr_61 s2_61 3 (vm_bi s0_61)))), (h6, .inl (cI, 8, .inl ap))] := hD
    obtain ⟨fr_c64, efr_c64⟩ : ∃ z, z = (f_X3_put 6 rq_61 36 fr_61 s2_61 3 (vm_bi s0_61)) := ⟨_, rfl⟩
    rw [← efr_c64] at hP hD
    have eF : rr = f_X0_addRequest_c64 p4 x5_61 rq_61 fr_c64 := eF.trans (by rw [f_X0_addRequest_j61, efr_c64])
    refine lv_aload_n hx hb dX0_addRequest_64 rfl (lv_at hl 0 rfl) ?_
    refine va_get (D := (dC, dI)) (ci := 0) (v := .ref h4) (C := RX0) (T := TX0) (N := 12) hx hb hts iwsX00 hown hK hP 0 rfl rfl 1 (by decide) kw1 (fun _ h9 => h9) rfl dX0_addRequest_65 ?_
    refine lv_iload hx hb dX0_addRequest_68 (lv_at hl 2 rfl) ?_
    refine lv_iconst (v := 4) hx hb dX0_addRequest_70 (by decide) ?_
    refine lv_iload hx hb dX0_addRequest_71 (lv_at hl 1 rfl) ?_
    refine vm_rwVv (As := [.int x5_61, .int 4, .int p4]) (rest := []) (T := TX3) (N := 4) (wc := [(h4, .inr (3, [.ref h5, .int 6, .int 6, .int rq_61])), (h5, .inl (cI, 36, .inl fr_c64))]) (w1 := [(h4, .inr (3, [.ref h5, .int 6, .int 6, .int rq_61])), (h5, .inl (cI, 36, .inl (f_X3_put 6 rq_61 36 fr_c64 x5_61 4 p4)))]) ⟨hx, hb, hml, hown, hts⟩ hK hN hP hD hS hA hl.1 ⟨Nat.le_of_ble_eq_true rfl, Nat.le_of_ble_eq_true rfl⟩ (c_X3_put l dC dI cI cB h4 h5 _ 6 6 rq_61 36 fr_c64 x5_61 4 p4 (by decide)) (cwV 3 hts gX0_addRequest_X3_put rfl rfl rfl yd_X3_put ⟨Nat.le_of_ble_eq_true rfl, Nat.le_of_ble_eq_true rfl⟩) [4, 5] rfl rfl rfl 3 rfl rfl rfl rfl (Nat.le_of_ble_eq_true rfl) dX0_addRequest_73 (fun H locs hP hD hS => ?_)
    have hP : va_P (dC, dI) vwCl [(h0, .inr (0, [.ref h1, .ref h4, .ref h6, .int day, .int grace, .int longest, .int spent, .int spentIn, .int spendings, .int urgentSp, .int dropped, .int lapsedLate])), (h1, .inr (2, [.ref h2])), (h2, .inr (3, [.ref h3, .int 12, .int 8, .int rm])), (h3, .inl (cI, 96, .inl fm)), (h4, .inr (3, [.ref h5, .int 6, .int 6, .int rq_61])), (h5, .inl (cI, 36, .inl (f_X3_put 6 rq_61 36 fr_c64 x5_61 4 p4))), (h6, .inl (cI, 8, .inl ap))] H := hP
    have hD : va_D A [(h0, .inr (0, [.ref h1, .ref h4, .ref h6, .int day, .int grace, .int longest, .int spent, .int spentIn, .int spendings, .int urgentSp, .int dropped, .int lapsedLate])), (h1, .inr (2, [.ref h2])), (h2, .inr (3, [.ref h3, .int 12, .int 8, .int rm])), (h3, .inl (cI, 96, .inl fm)), (h4, .inr (3, [.ref h5, .int 6, .int 6, .int rq_61])), (h5, .inl (cI, 36, .inl (f_X3_put 6 rq_61 36 fr_c64 x5_61 4 p4))), (h6, .inl (cI, 8, .inl ap))] := hD
    obtain ⟨fr_c76, efr_c76⟩ : ∃ z, z = (f_X3_put 6 rq_61 36 fr_c64 x5_61 4 p4) := ⟨_, rfl⟩
    rw [← efr_c76] at hP hD
    have eF : rr = f_X0_addRequest_c76 rq_61 fr_c76 := eF.trans (by rw [f_X0_addRequest_c64, efr_c76])
    have e9 : rr = (rq_61, fr_c76) := eF.trans (by rw [f_X0_addRequest_c76])
    exact W.vret hx hb hr (fun t ht hW => ⟨⟨(), rfl, trivial, (by rw [e9]; show va_P _ _ _ t.heap; rw [ht]; exact hP)⟩, hS.F ht⟩) hS.2.2 dX0_addRequest_76
  refine lv_aload_n hx hb dX0_addRequest_0 rfl (lv_at hl 0 rfl) ?_
  refine va_get (D := (dC, dI)) (ci := 0) (v := .ref h4) (C := RX0) (T := TX0) (N := 12) hx hb hts iwsX00 hown hK hP 0 rfl rfl 1 (by decide) kw1 (fun _ h9 => h9) rfl dX0_addRequest_1 ?_
  refine vm_rwV (As := []) (rest := []) (T := TX3) (N := 4) (wc := [(h4, .inr (3, [.ref h5, .int 6, .int 6, .int rq])), (h5, .inl (cI, 36, .inl fr))]) (w1 := [(h4, .inr (3, [.ref h5, .int 6, .int 6, .int ((f_X3_addRow 6 6 rq 36 fr).2.1)])), (h5, .inl (cI, 36, .inl ((f_X3_addRow 6 6 rq 36 fr).2.2)))]) ⟨hx, hb, hml, hown, hts⟩ hK hN hP hD hS hA hl.1 ⟨Nat.le_of_ble_eq_true rfl, Nat.le_of_ble_eq_true rfl⟩ (c_X3_addRow l dC dI cI cB h4 h5 _ 6 6 rq 36 fr (by decide)) (cwV 0 hts gX0_addRequest_X3_addRow rfl rfl rfl yd_X3_addRow ⟨Nat.le_of_ble_eq_true rfl, Nat.le_of_ble_eq_true rfl⟩) [4, 5] rfl rfl rfl 3 rfl rfl rfl rfl (Nat.le_of_ble_eq_true rfl) dX0_addRequest_4 (fun r7 H locs hw hP hD hS => ?_)
  have hP : va_P (dC, dI) vwCl [(h0, .inr (0, [.ref h1, .ref h4, .ref h6, .int day, .int grace, .int longest, .int spent, .int spentIn, .int spendings, .int urgentSp, .int dropped, .int lapsedLate])), (h1, .inr (2, [.ref h2])), (h2, .inr (3, [.ref h3, .int 12, .int 8, .int rm])), (h3, .inl (cI, 96, .inl fm)), (h4, .inr (3, [.ref h5, .int 6, .int 6, .int ((f_X3_addRow 6 6 rq 36 fr).2.1)])), (h5, .inl (cI, 36, .inl ((f_X3_addRow 6 6 rq 36 fr).2.2))), (h6, .inl (cI, 8, .inl ap))] H := hP
  have hD : va_D A [(h0, .inr (0, [.ref h1, .ref h4, .ref h6, .int day, .int grace, .int longest, .int spent, .int spentIn, .int spendings, .int urgentSp, .int dropped, .int lapsedLate])), (h1, .inr (2, [.ref h2])), (h2, .inr (3, [.ref h3, .int 12, .int 8, .int rm])), (h3, .inl (cI, 96, .inl fm)), (h4, .inr (3, [.ref h5, .int 6, .int 6, .int ((f_X3_addRow 6 6 rq 36 fr).2.1)])), (h5, .inl (cI, 36, .inl ((f_X3_addRow 6 6 rq 36 fr).2.2))), (h6, .inl (cI, 8, .inl ap))] := hD
  obtain ⟨y7, ey7⟩ : ∃ z, z = (f_X3_addRow 6 6 rq 36 fr).1 := ⟨_, rfl⟩
  obtain rfl : y7 = r7 := (hw.trans ey7.symm).symm
  obtain ⟨rq_c7, erq_c7⟩ : ∃ z, z = (f_X3_addRow 6 6 rq 36 fr).2.1 := ⟨_, rfl⟩
  rw [← erq_c7] at hP hD
  obtain ⟨fr_c7, efr_c7⟩ : ∃ z, z = (f_X3_addRow 6 6 rq 36 fr).2.2 := ⟨_, rfl⟩
  rw [← efr_c7] at hP hD
  have eF : rr = f_X0_addRequest_c7 day p1 p2 p3 p4 y7 rq_c7 fr_c7 := eF.trans (by rw [f_X0_addRequest, ey7, erq_c7, efr_c7])
  refine lv_istore (lv' := [(5, .int y7), (0, .ref h0), (1, .int p1), (2, .int p2), (3, .int p3), (4, .int p4)]) hx hb dX0_addRequest_7 hl (by decide) rfl (fun ls hl => ?_)
  refine lv_aload_n hx hb dX0_addRequest_9 rfl (lv_at hl 1 rfl) ?_
  refine va_get (D := (dC, dI)) (ci := 0) (v := .ref h4) (C := RX0) (T := TX0) (N := 12) hx hb hts iwsX00 hown hK hP 0 rfl rfl 1 (by decide) kw1 (fun _ h9 => h9) rfl dX0_addRequest_10 ?_
  refine lv_iload hx hb dX0_addRequest_13 (lv_at hl 0 rfl) ?_
  refine lv_iconst (v := 0) hx hb dX0_addRequest_15 (by decide) ?_
  refine lv_iload_n hx hb dX0_addRequest_16 rfl (lv_at hl 2 rfl) ?_
  refine vm_rwVv (As := [.int y7, .int 0, .int p1]) (rest := []) (T := TX3) (N := 4) (wc := [(h4, .inr (3, [.ref h5, .int 6, .int 6, .int rq_c7])), (h5, .inl (cI, 36, .inl fr_c7))]) (w1 := [(h4, .inr (3, [.ref h5, .int 6, .int 6, .int rq_c7])), (h5, .inl (cI, 36, .inl (f_X3_put 6 rq_c7 36 fr_c7 y7 0 p1)))]) ⟨hx, hb, hml, hown, hts⟩ hK hN hP hD hS hA hl.1 ⟨Nat.le_of_ble_eq_true rfl, Nat.le_of_ble_eq_true rfl⟩ (c_X3_put l dC dI cI cB h4 h5 _ 6 6 rq_c7 36 fr_c7 y7 0 p1 (by decide)) (cwV 3 hts gX0_addRequest_X3_put rfl rfl rfl yd_X3_put ⟨Nat.le_of_ble_eq_true rfl, Nat.le_of_ble_eq_true rfl⟩) [4, 5] rfl rfl rfl 3 rfl rfl rfl rfl (Nat.le_of_ble_eq_true rfl) dX0_addRequest_17 (fun H locs hP hD hS => ?_)
  have hP : va_P (dC, dI) vwCl [(h0, .inr (0, [.ref h1, .ref h4, .ref h6, .int day, .int grace, .int longest, .int spent, .int spentIn, .int spendings, .int urgentSp, .int dropped, .int lapsedLate])), (h1, .inr (2, [.ref h2])), (h2, .inr (3, [.ref h3, .int 12, .int 8, .int rm])), (h3, .inl (cI, 96, .inl fm)), (h4, .inr (3, [.ref h5, .int 6, .int 6, .int rq_c7])), (h5, .inl (cI, 36, .inl (f_X3_put 6 rq_c7 36 fr_c7 y7 0 p1))), (h6, .inl (cI, 8, .inl ap))] H := hP
  have hD : va_D A [(h0, .inr (0, [.ref h1, .ref h4, .ref h6, .int day, .int grace, .int longest, .int spent, .int spentIn, .int spendings, .int urgentSp, .int dropped, .int lapsedLate])), (h1, .inr (2, [.ref h2])), (h2, .inr (3, [.ref h3, .int 12, .int 8, .int rm])), (h3, .inl (cI, 96, .inl fm)), (h4, .inr (3, [.ref h5, .int 6, .int 6, .int rq_c7])), (h5, .inl (cI, 36, .inl (f_X3_put 6 rq_c7 36 fr_c7 y7 0 p1))), (h6, .inl (cI, 8, .inl ap))] := hD
  obtain ⟨fr_c20, efr_c20⟩ : ∃ z, z = (f_X3_put 6 rq_c7 36 fr_c7 y7 0 p1) := ⟨_, rfl⟩
  rw [← efr_c20] at hP hD
  have eF : rr = f_X0_addRequest_c20 day p2 p3 p4 y7 rq_c7 fr_c20 := eF.trans (by rw [f_X0_addRequest_c7, efr_c20])
  refine lv_aload_n hx hb dX0_addRequest_20 rfl (lv_at hl 1 rfl) ?_
  refine va_get (D := (dC, dI)) (ci := 0) (v := .ref h4) (C := RX0) (T := TX0) (N := 12) hx hb hts iwsX00 hown hK hP 0 rfl rfl 1 (by decide) kw1 (fun _ h9 => h9) rfl dX0_addRequest_21 ?_
  refine lv_iload hx hb dX0_addRequest_24 (lv_at hl 0 rfl) ?_
  refine lv_iconst (v := 1) hx hb dX0_addRequest_26 (by decide) ?_
  refine lv_iload_n hx hb dX0_addRequest_27 rfl (lv_at hl 3 rfl) ?_
  refine vm_rwVv (As := [.int y7, .int 1, .int p2]) (rest := []) (T := TX3) (N := 4) (wc := [(h4, .inr (3, [.ref h5, .int 6, .int 6, .int rq_c7])), (h5, .inl (cI, 36, .inl fr_c20))]) (w1 := [(h4, .inr (3, [.ref h5, .int 6, .int 6, .int rq_c7])), (h5, .inl (cI, 36, .inl (f_X3_put 6 rq_c7 36 fr_c20 y7 1 p2)))]) ⟨hx, hb, hml, hown, hts⟩ hK hN hP hD hS hA hl.1 ⟨Nat.le_of_ble_eq_true rfl, Nat.le_of_ble_eq_true rfl⟩ (c_X3_put l dC dI cI cB h4 h5 _ 6 6 rq_c7 36 fr_c20 y7 1 p2 (by decide)) (cwV 3 hts gX0_addRequest_X3_put rfl rfl rfl yd_X3_put ⟨Nat.le_of_ble_eq_true rfl, Nat.le_of_ble_eq_true rfl⟩) [4, 5] rfl rfl rfl 3 rfl rfl rfl rfl (Nat.le_of_ble_eq_true rfl) dX0_addRequest_28 (fun H locs hP hD hS => ?_)
  have hP : va_P (dC, dI) vwCl [(h0, .inr (0, [.ref h1, .ref h4, .ref h6, .int day, .int grace, .int longest, .int spent, .int spentIn, .int spendings, .int urgentSp, .int dropped, .int lapsedLate])), (h1, .inr (2, [.ref h2])), (h2, .inr (3, [.ref h3, .int 12, .int 8, .int rm])), (h3, .inl (cI, 96, .inl fm)), (h4, .inr (3, [.ref h5, .int 6, .int 6, .int rq_c7])), (h5, .inl (cI, 36, .inl (f_X3_put 6 rq_c7 36 fr_c20 y7 1 p2))), (h6, .inl (cI, 8, .inl ap))] H := hP
  have hD : va_D A [(h0, .inr (0, [.ref h1, .ref h4, .ref h6, .int day, .int grace, .int longest, .int spent, .int spentIn, .int spendings, .int urgentSp, .int dropped, .int lapsedLate])), (h1, .inr (2, [.ref h2])), (h2, .inr (3, [.ref h3, .int 12, .int 8, .int rm])), (h3, .inl (cI, 96, .inl fm)), (h4, .inr (3, [.ref h5, .int 6, .int 6, .int rq_c7])), (h5, .inl (cI, 36, .inl (f_X3_put 6 rq_c7 36 fr_c20 y7 1 p2))), (h6, .inl (cI, 8, .inl ap))] := hD
  obtain ⟨fr_c31, efr_c31⟩ : ∃ z, z = (f_X3_put 6 rq_c7 36 fr_c20 y7 1 p2) := ⟨_, rfl⟩
  rw [← efr_c31] at hP hD
  have eF : rr = f_X0_addRequest_c31 day p3 p4 y7 rq_c7 fr_c31 := eF.trans (by rw [f_X0_addRequest_c20, efr_c31])
  refine lv_aload_n hx hb dX0_addRequest_31 rfl (lv_at hl 1 rfl) ?_
  refine va_get (D := (dC, dI)) (ci := 0) (v := .ref h4) (C := RX0) (T := TX0) (N := 12) hx hb hts iwsX00 hown hK hP 0 rfl rfl 1 (by decide) kw1 (fun _ h9 => h9) rfl dX0_addRequest_32 ?_
  refine lv_iload hx hb dX0_addRequest_35 (lv_at hl 0 rfl) ?_
  refine lv_iconst (v := 2) hx hb dX0_addRequest_37 (by decide) ?_
  refine lv_aload_n hx hb dX0_addRequest_38 rfl (lv_at hl 1 rfl) ?_
  refine va_get (D := (dC, dI)) (ci := 0) (v := .int day) (C := RX0) (T := TX0) (N := 12) hx hb hts iwsX00 hown hK hP 0 rfl rfl 3 (by decide) kw2 (fun _ h9 => h9) rfl dX0_addRequest_39 ?_
  refine vm_rwVv (As := [.int y7, .int 2, .int day]) (rest := []) (T := TX3) (N := 4) (wc := [(h4, .inr (3, [.ref h5, .int 6, .int 6, .int rq_c7])), (h5, .inl (cI, 36, .inl fr_c31))]) (w1 := [(h4, .inr (3, [.ref h5, .int 6, .int 6, .int rq_c7])), (h5, .inl (cI, 36, .inl (f_X3_put 6 rq_c7 36 fr_c31 y7 2 day)))]) ⟨hx, hb, hml, hown, hts⟩ hK hN hP hD hS hA hl.1 ⟨Nat.le_of_ble_eq_true rfl, Nat.le_of_ble_eq_true rfl⟩ (c_X3_put l dC dI cI cB h4 h5 _ 6 6 rq_c7 36 fr_c31 y7 2 day (by decide)) (cwV 3 hts gX0_addRequest_X3_put rfl rfl rfl yd_X3_put ⟨Nat.le_of_ble_eq_true rfl, Nat.le_of_ble_eq_true rfl⟩) [4, 5] rfl rfl rfl 3 rfl rfl rfl rfl (Nat.le_of_ble_eq_true rfl) dX0_addRequest_42 (fun H locs hP hD hS => ?_)
  have hP : va_P (dC, dI) vwCl [(h0, .inr (0, [.ref h1, .ref h4, .ref h6, .int day, .int grace, .int longest, .int spent, .int spentIn, .int spendings, .int urgentSp, .int dropped, .int lapsedLate])), (h1, .inr (2, [.ref h2])), (h2, .inr (3, [.ref h3, .int 12, .int 8, .int rm])), (h3, .inl (cI, 96, .inl fm)), (h4, .inr (3, [.ref h5, .int 6, .int 6, .int rq_c7])), (h5, .inl (cI, 36, .inl (f_X3_put 6 rq_c7 36 fr_c31 y7 2 day))), (h6, .inl (cI, 8, .inl ap))] H := hP
  have hD : va_D A [(h0, .inr (0, [.ref h1, .ref h4, .ref h6, .int day, .int grace, .int longest, .int spent, .int spentIn, .int spendings, .int urgentSp, .int dropped, .int lapsedLate])), (h1, .inr (2, [.ref h2])), (h2, .inr (3, [.ref h3, .int 12, .int 8, .int rm])), (h3, .inl (cI, 96, .inl fm)), (h4, .inr (3, [.ref h5, .int 6, .int 6, .int rq_c7])), (h5, .inl (cI, 36, .inl (f_X3_put 6 rq_c7 36 fr_c31 y7 2 day))), (h6, .inl (cI, 8, .inl ap))] := hD
  obtain ⟨fr_c45, efr_c45⟩ : ∃ z, z = (f_X3_put 6 rq_c7 36 fr_c31 y7 2 day) := ⟨_, rfl⟩
  rw [← efr_c45] at hP hD
  have eF : rr = f_X0_addRequest_c45 p3 p4 y7 rq_c7 fr_c45 := eF.trans (by rw [f_X0_addRequest_c31, efr_c45])
  refine lv_aload_n hx hb dX0_addRequest_45 rfl (lv_at hl 1 rfl) ?_
  refine va_get (D := (dC, dI)) (ci := 0) (v := .ref h4) (C := RX0) (T := TX0) (N := 12) hx hb hts iwsX00 hown hK hP 0 rfl rfl 1 (by decide) kw1 (fun _ h9 => h9) rfl dX0_addRequest_46 ?_
  refine lv_iload hx hb dX0_addRequest_49 (lv_at hl 0 rfl) ?_
  refine lv_iconst (v := 3) hx hb dX0_addRequest_51 (by decide) ?_
  refine lv_iload_n hx hb dX0_addRequest_52 rfl (lv_at hl 4 rfl) ?_
  refine lv_if_eq (tgt := 60) hx hb dX0_addRequest_53 (by decide) (fun c_1 => ?_) (fun c_1 => ?_)
  · refine lv_iconst (v := 0) hx hb dX0_addRequest_60 (by decide) ?_
    exact hJ61 y7 false y7 rq_c7 fr_c45 (eF.trans (by rw [f_X0_addRequest_c45, if_pos c_1])) _ _ hP hD hS ls (lv_sub hl [1, 5, 0] rfl)
  · refine lv_iconst (v := 1) hx hb dX0_addRequest_56 (by decide) ?_
    refine lv_goto (tgt := 61) hx hb dX0_addRequest_57 (by decide) ?_
    exact hJ61 y7 true y7 rq_c7 fr_c45 (eF.trans (by rw [f_X0_addRequest_c45, if_neg c_1])) _ _ hP hD hS ls (lv_sub hl [1, 5, 0] rfl)

def f_X0_carryOut_c56 (spent_40 : Int32) (spentIn_40 : Int32) (spendings_40 : Int32) (urgentSp_40 : Int32) (fm_40 : Nat → Int32) (rq_c56 : Int32) (fr_c56 : Nat → Int32) : Int32 × Int32 × Int32 × Int32 × Int32 × (Nat → Int32) × Int32 × (Nat → Int32) :=
  (1, spent_40, spentIn_40, spendings_40, urgentSp_40, fm_40, rq_c56, fr_c56)
def f_X0_carryOut_j40 (rm : Int32) (fm : Nat → Int32) (rq : Int32) (fr : Nat → Int32) (day : Int32) (p1 : Int32) (p2 : Int32) (p3 : Int32) (spent_40 : Int32) (spentIn_40 : Int32) (spendings_40 : Int32) (urgentSp_40 : Int32) (fm_40 : Nat → Int32) : Int32 × Int32 × Int32 × Int32 × Int32 × (Nat → Int32) × Int32 × (Nat → Int32) :=
  if (f_X2_get rm fm p1 4) = 0 then
    (0, spent_40, spentIn_40, spendings_40, urgentSp_40, fm_40, rq, fr)
  else
    f_X0_carryOut_c56 spent_40 spentIn_40 spendings_40 urgentSp_40 fm_40 ((f_X0_addRequest rq fr day p1 p2 p3 (f_X2_get rm fm p1 4)).1) ((f_X0_addRequest rq fr day p1 p2 p3 (f_X2_get rm fm p1 4)).2)
def f_X0_carryOut_c26 (rm : Int32) (fm : Nat → Int32) (rq : Int32) (fr : Nat → Int32) (day : Int32) (urgentSp : Int32) (p1 : Int32) (p2 : Int32) (p3 : Int32) (spent_c26 : Int32) (spentIn_c26 : Int32) (spendings_c26 : Int32) (fm_c26 : Nat → Int32) : Int32 × Int32 × Int32 × Int32 × Int32 × (Nat → Int32) × Int32 × (Nat → Int32) :=
  if p3 = 0 then
    f_X0_carryOut_j40 rm fm rq fr day p1 p2 p3 spent_c26 spentIn_c26 spendings_c26 urgentSp fm_c26
  else
    f_X0_carryOut_j40 rm fm rq fr day p1 p2 p3 spent_c26 spentIn_c26 spendings_c26 (urgentSp + 1) fm_c26
def f_X0_carryOut_j20 (rm : Int32) (fm : Nat → Int32) (rq : Int32) (fr : Nat → Int32) (day : Int32) (spent : Int32) (spentIn : Int32) (spendings : Int32) (urgentSp : Int32) (p1 : Int32) (p2 : Int32) (p3 : Int32) : Int32 × Int32 × Int32 × Int32 × Int32 × (Nat → Int32) × Int32 × (Nat → Int32) :=
  f_X0_carryOut_c26 rm fm rq fr day urgentSp p1 p2 p3 ((f_X0_makeSpending rm fm spent spentIn spendings p1 p2).1) ((f_X0_makeSpending rm fm spent spentIn spendings p1 p2).2.1) ((f_X0_makeSpending rm fm spent spentIn spendings p1 p2).2.2.1) ((f_X0_makeSpending rm fm spent spentIn spendings p1 p2).2.2.2)
def f_X0_carryOut_j26 (rm : Int32) (fm : Nat → Int32) (rq : Int32) (fr : Nat → Int32) (day : Int32) (spent : Int32) (spentIn : Int32) (spendings : Int32) (urgentSp : Int32) (p1 : Int32) (p2 : Int32) (p3 : Int32) : Int32 × Int32 × Int32 × Int32 × Int32 × (Nat → Int32) × Int32 × (Nat → Int32) :=
  if p3 = 0 then
    f_X0_carryOut_j40 rm fm rq fr day p1 p2 p3 spent spentIn spendings urgentSp fm
  else
    f_X0_carryOut_j40 rm fm rq fr day p1 p2 p3 spent spentIn spendings (urgentSp + 1) fm
def f_X0_carryOut (rm : Int32) (fm : Nat → Int32) (rq : Int32) (fr : Nat → Int32) (day : Int32) (spent : Int32) (spentIn : Int32) (spendings : Int32) (urgentSp : Int32) (p1 : Int32) (p2 : Int32) (p3 : Int32) : Int32 × Int32 × Int32 × Int32 × Int32 × (Nat → Int32) × Int32 × (Nat → Int32) :=
  if p3 = 0 then
    if (f_X2_get rm fm p1 4) = 0 then
      f_X0_carryOut_j20 rm fm rq fr day spent spentIn spendings urgentSp p1 p2 p3
    else
      f_X0_carryOut_j26 rm fm rq fr day spent spentIn spendings urgentSp p1 p2 p3
  else
    f_X0_carryOut_j20 rm fm rq fr day spent spentIn spendings urgentSp p1 p2 p3
theorem yd_X0_carryOut : yX0_carryOut.cls = RX0 ∧ yX0_carryOut.cls ≠ "java/lang/invoke/MethodHandle" ∧ yX0_carryOut.cls ≠ "java/lang/invoke/VarHandle" ∧ (parseMethodDescriptor yX0_carryOut.desc).map (fun d => d.parameters.length) = some 3 := by decide +kernel
set_option maxHeartbeats 4000000 in
set_option maxRecDepth 100000 in
theorem c_X0_carryOut (l : Launch) (dC : Nat → ClassId) (dI : Nat → Nat → Nat) (cI cB : ClassId) (h0 h1 h2 h3 h4 h5 h6 : Nat) (sz : Nat) (rm : Int32) (fm : Nat → Int32) (rq : Int32) (fr : Nat → Int32) (ap : Nat → Int32) (day : Int32) (grace : Int32) (longest : Int32) (spent : Int32) (spentIn : Int32) (spendings : Int32) (urgentSp : Int32) (dropped : Int32) (lapsedLate : Int32) (p1 : Int32) (p2 : Int32) (p3 : Int32) : Met l yX0_carryOut wsX0_carryOut ({ frames := 3, cells := 0, slots := 0, locals := 71 }) (vm_prw [.ref h0, .int p1, .int p2, .int p3] (dC, dI) [(h0, .inr (0, [.ref h1, .ref h4, .ref h6, .int day, .int grace, .int longest, .int spent, .int spentIn, .int spendings, .int urgentSp, .int dropped, .int lapsedLate])), (h1, .inr (2, [.ref h2])), (h2, .inr (3, [.ref h3, .int 12, .int 8, .int rm])), (h3, .inl (cI, 96, .inl fm)), (h4, .inr (3, [.ref h5, .int 6, .int 6, .int rq])), (h5, .inl (cI, 36, .inl fr)), (h6, .inl (cI, 8, .inl ap))] cI cB sz) (va_Qi (fun (r9 : Int32) (_ : Unit) => r9 = (f_X0_carryOut rm fm rq fr day spent spentIn spendings urgentSp p1 p2 p3).1) (fun _ t => va_P (dC, dI) vwCl [(h0, .inr (0, [.ref h1, .ref h4, .ref h6, .int day, .int grace, .int longest, .int ((f_X0_carryOut rm fm rq fr day spent spentIn spendings urgentSp p1 p2 p3).2.1), .int ((f_X0_carryOut rm fm rq fr day spent spentIn spendings urgentSp p1 p2 p3).2.2.1), .int ((f_X0_carryOut rm fm rq fr day spent spentIn spendings urgentSp p1 p2 p3).2.2.2.1), .int ((f_X0_carryOut rm fm rq fr day spent spentIn spendings urgentSp p1 p2 p3).2.2.2.2.1), .int dropped, .int lapsedLate])), (h1, .inr (2, [.ref h2])), (h2, .inr (3, [.ref h3, .int 12, .int 8, .int rm])), (h3, .inl (cI, 96, .inl ((f_X0_carryOut rm fm rq fr day spent spentIn spendings urgentSp p1 p2 p3).2.2.2.2.2.1))), (h4, .inr (3, [.ref h5, .int 6, .int 6, .int ((f_X0_carryOut rm fm rq fr day spent spentIn spendings urgentSp p1 p2 p3).2.2.2.2.2.2.1)])), (h5, .inl (cI, 36, .inl ((f_X0_carryOut rm fm rq fr day spent spentIn spendings urgentSp p1 p2 p3).2.2.2.2.2.2.2))), (h6, .inl (cI, 8, .inl ap))] t.heap) (va_A [(h0, .inr (0, [.ref h1, .ref h4, .ref h6, .int day, .int grace, .int longest, .int spent, .int spentIn, .int spendings, .int urgentSp, .int dropped, .int lapsedLate])), (h1, .inr (2, [.ref h2])), (h2, .inr (3, [.ref h3, .int 12, .int 8, .int rm])), (h3, .inl (cI, 96, .inl fm)), (h4, .inr (3, [.ref h5, .int 6, .int 6, .int rq])), (h5, .inl (cI, 36, .inl fr)), (h6, .inl (cI, 8, .inl ap))] sz)) 0 0 (va_A [(h0, .inr (0, [.ref h1, .ref h4, .ref h6, .int day, .int grace, .int longest, .int spent, .int spentIn, .int spendings, .int urgentSp, .int dropped, .int lapsedLate])), (h1, .inr (2, [.ref h2])), (h2, .inr (3, [.ref h3, .int 12, .int 8, .int rm])), (h3, .inl (cI, 96, .inl fm)), (h4, .inr (3, [.ref h5, .int 6, .int 6, .int rq])), (h5, .inl (cI, 36, .inl fr)), (h6, .inl (cI, 8, .inl ap))] sz) := by
  refine Met.ofW (cc := cX0_carryOut) (maxL := 5) (ret := (some .int)) (by decide) rfl ?_
  intro p e s m args below meth c s₁ B hml hv
  obtain ⟨rfl, hsz, hP, hK, hN, hD0⟩ := hv
  have hx := B.exec
  have hb := B.bytes
  have hr := B.returns
  have hts := atoms_spec (ws := wsX0_carryOut) B.pre
  have hown : s.vm.findClass RX0 = some m.cls := findClass_of_methodNamed B.named
  have hlocks := B.notSynchronized
  subst hsz
  have hD := hD0.self (sz := s.heap.size)
  generalize hAe : va_A [(h0, .inr (0, [.ref h1, .ref h4, .ref h6, .int day, .int grace, .int longest, .int spent, .int spentIn, .int spendings, .int urgentSp, .int dropped, .int lapsedLate])), (h1, .inr (2, [.ref h2])), (h2, .inr (3, [.ref h3, .int 12, .int 8, .int rm])), (h3, .inl (cI, 96, .inl fm)), (h4, .inr (3, [.ref h5, .int 6, .int 6, .int rq])), (h5, .inl (cI, 36, .inl fr)), (h6, .inl (cI, 8, .inl ap))] s.heap.size = A at hD ⊢
  have hA : ∀ q : Nat, s.heap.size ≤ q → A q := fun q h => by rw [← hAe]; exact Or.inr h
  have hS : va_S A s.heap s.heap [] := va_S.rf
  have hP : va_P (dC, dI) vwCl [(h0, .inr (0, [.ref h1, .ref h4, .ref h6, .int day, .int grace, .int longest, .int spent, .int spentIn, .int spendings, .int urgentSp, .int dropped, .int lapsedLate])), (h1, .inr (2, [.ref h2])), (h2, .inr (3, [.ref h3, .int 12, .int 8, .int rm])), (h3, .inl (cI, 96, .inl fm)), (h4, .inr (3, [.ref h5, .int 6, .int 6, .int rq])), (h5, .inl (cI, 36, .inl fr)), (h6, .inl (cI, 8, .inl ap))] s.heap := hP
  have kw1 := hts (.fieldLink RX0 12 "LapseMandates$Book" "mandates" "LLapseMandates$Mandates;") (List.mem_of_getElem? (i := 1) rfl)
  have kw2 := hts (.fieldLink RX0 57 "LapseMandates$Book" "urgentSpendings" "I") (List.mem_of_getElem? (i := 2) rfl)
  have iwsX00 : ∀ w ∈ wsX00, w ∈ wsX0_carryOut := fun w h => List.mem_cons_of_mem _ (List.mem_append_left _ (List.mem_append_left _ (List.mem_append_right _ h)))
  generalize hrr : f_X0_carryOut rm fm rq fr day spent spentIn spendings urgentSp p1 p2 p3 = rr
  have eF := hrr.symm
  have hl := lv_entry ([.ref h0, .int p1, .int p2, .int p3]) (n := 5) (Nat.le_of_ble_eq_true rfl)
  rw [lg_entry_eq]
  generalize (lg_sl ([.ref h0, .int p1, .int p2, .int p3]) ++ List.replicate (5 - (lg_sl ([.ref h0, .int p1, .int p2, .int p3])).length) Slot.unset).toArray = ls at hl ⊢
  have hl : lv_has ls 5 [(0, .ref h0), (1, .int p1), (2, .int p2), (3, .int p3)] := hl
  have hJ40 : ∀ (spent_40 : Int32) (spentIn_40 : Int32) (spendings_40 : Int32) (urgentSp_40 : Int32) (fm_40 : Nat → Int32), rr = f_X0_carryOut_j40 rm fm rq fr day p1 p2 p3 spent_40 spentIn_40 spendings_40 urgentSp_40 fm_40 → ∀ (H : Heap) (locs : List Loc), va_P (dC, dI) vwCl [(h0, .inr (0, [.ref h1, .ref h4, .ref h6, .int day, .int grace, .int longest, .int spent_40, .int spentIn_40, .int spendings_40, .int urgentSp_40, .int dropped, .int lapsedLate])), (h1, .inr (2, [.ref h2])), (h2, .inr (3, [.ref h3, .int 12, .int 8, .int rm])), (h3, .inl (cI, 96, .inl fm_40)), (h4, .inr (3, [.ref h5, .int 6, .int 6, .int rq])), (h5, .inl (cI, 36, .inl fr)), (h6, .inl (cI, 8, .inl ap))] H → va_D A [(h0, .inr (0, [.ref h1, .ref h4, .ref h6, .int day, .int grace, .int longest, .int spent_40, .int spentIn_40, .int spendings_40, .int urgentSp_40, .int dropped, .int lapsedLate])), (h1, .inr (2, [.ref h2])), (h2, .inr (3, [.ref h3, .int 12, .int 8, .int rm])), (h3, .inl (cI, 96, .inl fm_40)), (h4, .inr (3, [.ref h5, .int 6, .int 6, .int rq])), (h5, .inl (cI, 36, .inl fr)), (h6, .inl (cI, 8, .inl ap))] → va_S A s.heap H locs → ∀ (ls : Array Slot), lv_has ls 5 [(0, .ref h0), (1, .int p1), (2, .int p2), (3, .int p3), (4, .int (f_X2_get rm fm p1 4))] → W p l e (headSpec wsX0_carryOut ({ frames := 3, cells := 0, slots := 0, locals := 71 })).room s m ([.ref h0, .int p1, .int p2, .int p3] : List Value).toArray below meth c H locs 0 0 (MQ below (va_Qi (fun (r9 : Int32) (_ : Unit) => r9 = rr.1) (fun _ t => va_P (dC, dI) vwCl [(h0, .inr (0, [.ref h1, .ref h4, .ref h6, .int day, .int grace, .int longest, .int rr.2.1, .int rr.2.2.1, .int rr.2.2.2.1, .int rr.2.2.2.2.1, .int dropped, .int lapsedLate])), (h1, .inr (2, [.ref h2])), (h2, .inr (3, [.ref h3, .int 12, .int 8, .int rm])), (h3, .inl (cI, 96, .inl rr.2.2.2.2.2.1)), (h4, .inr (3, [.ref h5, .int 6, .int 6, .int rr.2.2.2.2.2.2.1])), (h5, .inl (cI, 36, .inl rr.2.2.2.2.2.2.2)), (h6, .inl (cI, 8, .inl ap))] t.heap) A) ([.ref h0, .int p1, .int p2, .int p3] : List Value).toArray s 0 0 A) (F0 m 40 ls []) := by
    intro spent_40 spentIn_40 spendings_40 urgentSp_40 fm_40 eF H locs hP hD hS ls hl
    refine lv_iload hx hb dX0_carryOut_40 (lv_at hl 4 rfl) ?_
    refine lv_if_ne (tgt := 47) hx hb dX0_carryOut_42 (by decide) (fun c_1 => ?_) (fun c_1 => ?_)
    · refine lv_aload_n hx hb dX0_carryOut_47 rfl (lv_at hl 0 rfl) ?_
      refine lv_iload_n hx hb dX0_carryOut_48 rfl (lv_at hl 1 rfl) ?_
      refine lv_iload_n hx hb dX0_carryOut_49 rfl (lv_at hl 2 rfl) ?_
      refine lv_iload_n hx hb dX0_carryOut_50 rfl (lv_at hl 3 rfl) ?_
      refine lv_iload hx hb dX0_carryOut_51 (lv_at hl 4 rfl) ?_
      refine vm_rwVv (As := [.int p1, .int p2, .int p3, .int (f_X2_get rm fm p1 4)]) (rest := []) (T := TX0) (N := 12) (wc := [(h0, .inr (0, [.ref h1, .ref h4, .ref h6, .int day, .int grace, .int longest, .int spent_40, .int spentIn_40, .int spendings_40, .int urgentSp_40, .int dropped, .int lapsedLate])), (h1, .inr (2, [.ref h2])), (h2, .inr (3, [.ref h3, .int 12, .int 8, .int rm])), (h3, .inl (cI, 96, .inl fm_40)), (h4, .inr (3, [.ref h5, .int 6, .int 6, .int rq])), (h5, .inl (cI, 36, .inl fr)), (h6, .inl (cI, 8, .inl ap))]) (w1 := [(h0, .inr (0, [.ref h1, .ref h4, .ref h6, .int day, .int grace, .int longest, .int spent_40, .int spentIn_40, .int spendings_40, .int urgentSp_40, .int dropped, .int lapsedLate])), (h1, .inr (2, [.ref h2])), (h2, .inr (3, [.ref h3, .int 12, .int 8, .int rm])), (h3, .inl (cI, 96, .inl fm_40)), (h4, .inr (3, [.ref h5, .int 6, .int 6, .int ((f_X0_addRequest rq fr day p1 p2 p3 (f_X2_get rm fm p1 4)).1)])), (h5, .inl (cI, 36, .inl ((f_X0_addRequest rq fr day p1 p2 p3 (f_X2_get rm fm p1 4)).2))), (h6, .inl (cI, 8, .inl ap))]) ⟨hx, hb, hml, hown, hts⟩ hK hN hP hD hS hA hl.1 ⟨Nat.le_of_ble_eq_true rfl, Nat.le_of_ble_eq_true rfl⟩ (c_X0_addRequest l dC dI cI cB h0 h1 h2 h3 h4 h5 h6 _ rm fm_40 rq fr ap day grace longest spent_40 spentIn_40 spendings_40 urgentSp_40 dropped lapsedLate p1 p2 p3 (f_X2_get rm fm p1 4)) (cwV 4 hts gX0_carryOut_X0_addRequest rfl rfl rfl yd_X0_addRequest ⟨Nat.le_of_ble_eq_true rfl, Nat.le_of_ble_eq_true rfl⟩) [0, 1, 2, 3, 4, 5, 6] rfl rfl rfl 0 rfl rfl rfl rfl (Nat.le_of_ble_eq_true rfl) dX0_carryOut_53 (fun H locs hP hD hS => ?_)
      have hP : va_P (dC, dI) vwCl [(h0, .inr (0, [.ref h1, .ref h4, .ref h6, .int day, .int grace, .int longest, .int spent_40, .int spentIn_40, .int spendings_40, .int urgentSp_40, .int dropped, .int lapsedLate])), (h1, .inr (2, [.ref h2])), (h2, .inr (3, [.ref h3, .int 12, .int 8, .int rm])), (h3, .inl (cI, 96, .inl fm_40)), (h4, .inr (3, [.ref h5, .int 6, .int 6, .int ((f_X0_addRequest rq fr day p1 p2 p3 (f_X2_get rm fm p1 4)).1)])), (h5, .inl (cI, 36, .inl ((f_X0_addRequest rq fr day p1 p2 p3 (f_X2_get rm fm p1 4)).2))), (h6, .inl (cI, 8, .inl ap))] H := hP
      have hD : va_D A [(h0, .inr (0, [.ref h1, .ref h4, .ref h6, .int day, .int grace, .int longest, .int spent_40, .int spentIn_40, .int spendings_40, .int urgentSp_40, .int dropped, .int lapsedLate])), (h1, .inr (2, [.ref h2])), (h2, .inr (3, [.ref h3, .int 12, .int 8, .int rm])), (h3, .inl (cI, 96, .inl fm_40)), (h4, .inr (3, [.ref h5, .int 6, .int 6, .int ((f_X0_addRequest rq fr day p1 p2 p3 (f_X2_get rm fm p1 4)).1)])), (h5, .inl (cI, 36, .inl ((f_X0_addRequest rq fr day p1 p2 p3 (f_X2_get rm fm p1 4)).2))), (h6, .inl (cI, 8, .inl ap))] := hD
      obtain ⟨rq_c56, erq_c56⟩ : ∃ z, z = (f_X0_addRequest rq fr day p1 p2 p3 (f_X2_get rm fm p1 4)).1 := ⟨_, rfl⟩
      rw [← erq_c56] at hP hD
      obtain ⟨fr_c56, efr_c56⟩ : ∃ z, z = (f_X0_addRequest rq fr day p1 p2 p3 (f_X2_get rm fm p1 4)).2 := ⟨_, rfl⟩
      rw [← efr_c56] at hP hD
      have eF : rr = f_X0_carryOut_c56 spent_40 spentIn_40 spendings_40 urgentSp_40 fm_40 rq_c56 fr_c56 := eF.trans (by rw [f_X0_carryOut_j40, if_neg c_1, erq_c56, efr_c56])
      refine lv_iconst (v := 1) hx hb dX0_carryOut_56 (by decide) ?_
      have e9 : rr = (1, spent_40, spentIn_40, spendings_40, urgentSp_40, fm_40, rq_c56, fr_c56) := eF.trans (by rw [f_X0_carryOut_c56])
      exact W.iret (v := 1) hx hb hr (fun t ht hW => ⟨⟨_, (), rfl, by rw [e9], (by rw [e9]; show va_P _ _ _ t.heap; rw [ht]; exact hP)⟩, hS.F ht⟩) hS.2.2 dX0_carryOut_57
    · refine lv_iconst (v := 0) hx hb dX0_carryOut_45 (by decide) ?_
      have e9 : rr = (0, spent_40, spentIn_40, spendings_40, urgentSp_40, fm_40, rq, fr) := eF.trans (by rw [f_X0_carryOut_j40, if_pos c_1])
      exact W.iret (v := 0) hx hb hr (fun t ht hW => ⟨⟨_, (), rfl, by rw [e9], (by rw [e9]; show va_P _ _ _ t.heap; rw [ht]; exact hP)⟩, hS.F ht⟩) hS.2.2 dX0_carryOut_46
  have hJ26 : rr = f_X0_carryOut_j26 rm fm rq fr day spent spentIn spendings urgentSp p1 p2 p3 → ∀ (H : Heap) (locs : List Loc), va_P (dC, dI) vwCl [(h0, .inr (0, [.ref h1, .ref h4, .ref h6, .int day, .int grace, .int longest, .int spent, .int spentIn, .int spendings, .int urgentSp, .int dropped, .int lapsedLate])), (h1, .inr (2, [.ref h2])), (h2, .inr (3, [.ref h3, .int 12, .int 8, .int rm])), (h3, .inl (cI, 96, .inl fm)), (h4, .inr (3, [.ref h5, .int 6, .int 6, .int rq])), (h5, .inl (cI, 36, .inl fr)), (h6, .inl (cI, 8, .inl ap))] H → va_D A [(h0, .inr (0, [.ref h1, .ref h4, .ref h6, .int day, .int grace, .int longest, .int spent, .int spentIn, .int spendings, .int urgentSp, .int dropped, .int lapsedLate])), (h1, .inr (2, [.ref h2])), (h2, .inr (3, [.ref h3, .int 12, .int 8, .int rm])), (h3, .inl (cI, 96, .inl fm)), (h4, .inr (3, [.ref h5, .int 6, .int 6, .int rq])), (h5, .inl (cI, 36, .inl fr)), (h6, .inl (cI, 8, .inl ap))] → va_S A s.heap H locs → ∀ (ls : Array Slot), lv_has ls 5 [(0, .ref h0), (1, .int p1), (2, .int p2), (3, .int p3), (4, .int (f_X2_get rm fm p1 4))] → W p l e (headSpec wsX0_carryOut ({ frames := 3, cells := 0, slots := 0, locals := 71 })).room s m ([.ref h0, .int p1, .int p2, .int p3] : List Value).toArray below meth c H locs 0 0 (MQ below (va_Qi (fun (r9 : Int32) (_ : Unit) => r9 = rr.1) (fun _ t => va_P (dC, dI) vwCl [(h0, .inr (0, [.ref h1, .ref h4, .ref h6, .int day, .int grace, .int longest, .int rr.2.1, .int rr.2.2.1, .int rr.2.2.2.1, .int rr.2.2.2.2.1, .int dropped, .int lapsedLate])), (h1, .inr (2, [.ref h2])), (h2, .inr (3, [.ref h3, .int 12, .int 8, .int rm])), (h3, .inl (cI, 96, .inl rr.2.2.2.2.2.1)), (h4, .inr (3, [.ref h5, .int 6, .int 6, .int rr.2.2.2.2.2.2.1])), (h5, .inl (cI, 36, .inl rr.2.2.2.2.2.2.2)), (h6, .inl (cI, 8, .inl ap))] t.heap) A) ([.ref h0, .int p1, .int p2, .int p3] : List Value).toArray s 0 0 A) (F0 m 26 ls []) := by
    intro eF H locs hP hD hS ls hl
    refine lv_iload_n hx hb dX0_carryOut_26 rfl (lv_at hl 3 rfl) ?_
    refine lv_if_eq (tgt := 40) hx hb dX0_carryOut_27 (by decide) (fun c_2 => ?_) (fun c_2 => ?_)
    · exact hJ40 spent spentIn spendings urgentSp fm (eF.trans (by rw [f_X0_carryOut_j26, if_pos c_2])) _ _ hP hD hS ls (lv_sub hl [0, 1, 2, 3, 4] rfl)
    · refine lv_aload_n hx hb dX0_carryOut_30 rfl (lv_at hl 0 rfl) ?_
      refine lv_dup hx hb dX0_carryOut_31 rfl ?_
      refine va_get (D := (dC, dI)) (ci := 0) (v := .int urgentSp) (C := RX0) (T := TX0) (N := 12) hx hb hts iwsX00 hown hK hP 0 rfl rfl 9 (by decide) kw2 (fun _ h9 => h9) rfl dX0_carryOut_32 ?_
      refine lv_iconst (v := 1) hx hb dX0_carryOut_35 (by decide) ?_
      refine lv_iadd hx hb dX0_carryOut_36 ?_
      refine va_put (D := (dC, dI)) (ci := 0) (v := .int (urgentSp + 1)) (ty := .int) (C := RX0) (T := TX0) (N := 12) hx hb hts iwsX00 tyX0 tyX0_ok nmX0 hown hK hP hD hS 0 rfl rfl 9 (by decide) kw2 (fun _ h9 => h9) rfl (by decide +kernel) rfl rfl (Nat.le_of_ble_eq_true rfl) dX0_carryOut_37 (fun H locs hP hD hS => ?_)
      have hP : va_P (dC, dI) vwCl [(h0, .inr (0, [.ref h1, .ref h4, .ref h6, .int day, .int grace, .int longest, .int spent, .int spentIn, .int spendings, .int (urgentSp + 1), .int dropped, .int lapsedLate])), (h1, .inr (2, [.ref h2])), (h2, .inr (3, [.ref h3, .int 12, .int 8, .int rm])), (h3, .inl (cI, 96, .inl fm)), (h4, .inr (3, [.ref h5, .int 6, .int 6, .int rq])), (h5, .inl (cI, 36, .inl fr)), (h6, .inl (cI, 8, .inl ap))] H := hP
      have hD : va_D A [(h0, .inr (0, [.ref h1, .ref h4, .ref h6, .int day, .int grace, .int longest, .int spent, .int spentIn, .int spendings, .int (urgentSp + 1), .int dropped, .int lapsedLate])), (h1, .inr (2, [.ref h2])), (h2, .inr (3, [.ref h3, .int 12, .int 8, .int rm])), (h3, .inl (cI, 96, .inl fm)), (h4, .inr (3, [.ref h5, .int 6, .int 6, .int rq])), (h5, .inl (cI, 36, .inl fr)), (h6, .inl (cI, 8, .inl ap))] := hD
      exact hJ40 spent spentIn spendings (urgentSp + 1) fm (eF.trans (by rw [f_X0_carryOut_j26, if_neg c_2])) _ _ hP hD hS ls (lv_sub hl [0, 1, 2, 3, 4] rfl)
  have hJ20 : rr = f_X0_carryOut_j20 rm fm rq fr day spent spentIn spendings urgentSp p1 p2 p3 → ∀ (H : Heap) (locs : List Loc), va_P (dC, dI) vwCl [(h0, .inr (0, [.ref h1, .ref h4, .ref h6, .int day, .int grace, .int longest, .int spent, .int spentIn, .int spendings, .int urgentSp, .int dropped, .int lapsedLate])), (h1, .inr (2, [.ref h2])), (h2, .inr (3, [.ref h3, .int 12, .int 8, .int rm])), (h3, .inl (cI, 96, .inl fm)), (h4, .inr (3, [.ref h5, .int 6, .int 6, .int rq])), (h5, .inl (cI, 36, .inl fr)), (h6, .inl (cI, 8, .inl ap))] H → va_D A [(h0, .inr (0, [.ref h1, .ref h4, .ref h6, .int day, .int grace, .int longest, .int spent, .int spentIn, .int spendings, .int urgentSp, .int dropped, .int lapsedLate])), (h1, .inr (2, [.ref h2])), (h2, .inr (3, [.ref h3, .int 12, .int 8, .int rm])), (h3, .inl (cI, 96, .inl fm)), (h4, .inr (3, [.ref h5, .int 6, .int 6, .int rq])), (h5, .inl (cI, 36, .inl fr)), (h6, .inl (cI, 8, .inl ap))] → va_S A s.heap H locs → ∀ (ls : Array Slot), lv_has ls 5 [(0, .ref h0), (1, .int p1), (2, .int p2), (3, .int p3), (4, .int (f_X2_get rm fm p1 4))] → W p l e (headSpec wsX0_carryOut ({ frames := 3, cells := 0, slots := 0, locals := 71 })).room s m ([.ref h0, .int p1, .int p2, .int p3] : List Value).toArray below meth c H locs 0 0 (MQ below (va_Qi (fun (r9 : Int32) (_ : Unit) => r9 = rr.1) (fun _ t => va_P (dC, dI) vwCl [(h0, .inr (0, [.ref h1, .ref h4, .ref h6, .int day, .int grace, .int longest, .int rr.2.1, .int rr.2.2.1, .int rr.2.2.2.1, .int rr.2.2.2.2.1, .int dropped, .int lapsedLate])), (h1, .inr (2, [.ref h2])), (h2, .inr (3, [.ref h3, .int 12, .int 8, .int rm])), (h3, .inl (cI, 96, .inl rr.2.2.2.2.2.1)), (h4, .inr (3, [.ref h5, .int 6, .int 6, .int rr.2.2.2.2.2.2.1])), (h5, .inl (cI, 36, .inl rr.2.2.2.2.2.2.2)), (h6, .inl (cI, 8, .inl ap))] t.heap) A) ([.ref h0, .int p1, .int p2, .int p3] : List Value).toArray s 0 0 A) (F0 m 20 ls []) := by
    intro eF H locs hP hD hS ls hl
    refine lv_aload_n hx hb dX0_carryOut_20 rfl (lv_at hl 0 rfl) ?_
    refine lv_iload_n hx hb dX0_carryOut_21 rfl (lv_at hl 1 rfl) ?_
    refine lv_iload_n hx hb dX0_carryOut_22 rfl (lv_at hl 2 rfl) ?_
    refine vm_rwVv (As := [.int p1, .int p2]) (rest := []) (T := TX0) (N := 12) (wc := [(h0, .inr (0, [.ref h1, .ref h4, .ref h6, .int day, .int grace, .int longest, .int spent, .int spentIn, .int spendings, .int urgentSp, .int dropped, .int lapsedLate])), (h1, .inr (2, [.ref h2])), (h2, .inr (3, [.ref h3, .int 12, .int 8, .int rm])), (h3, .inl (cI, 96, .inl fm)), (h4, .inr (3, [.ref h5, .int 6, .int 6, .int rq])), (h5, .inl (cI, 36, .inl fr)), (h6, .inl (cI, 8, .inl ap))]) (w1 := [(h0, .inr (0, [.ref h1, .ref h4, .ref h6, .int day, .int grace, .int longest, .int ((f_X0_makeSpending rm fm spent spentIn spendings p1 p2).1), .int ((f_X0_makeSpending rm fm spent spentIn spendings p1 p2).2.1), .int ((f_X0_makeSpending rm fm spent spentIn spendings p1 p2).2.2.1), .int urgentSp, .int dropped, .int lapsedLate])), (h1, .inr (2, [.ref h2])), (h2, .inr (3, [.ref h3, .int 12, .int 8, .int rm])), (h3, .inl (cI, 96, .inl ((f_X0_makeSpending rm fm spent spentIn spendings p1 p2).2.2.2))), (h4, .inr (3, [.ref h5, .int 6, .int 6, .int rq])), (h5, .inl (cI, 36, .inl fr)), (h6, .inl (cI, 8, .inl ap))]) ⟨hx, hb, hml, hown, hts⟩ hK hN hP hD hS hA hl.1 ⟨Nat.le_of_ble_eq_true rfl, Nat.le_of_ble_eq_true rfl⟩ (c_X0_makeSpending l dC dI cI cB h0 h1 h2 h3 h4 h5 h6 _ rm fm rq fr ap day grace longest spent spentIn spendings urgentSp dropped lapsedLate p1 p2) (cwV 2 hts gX0_carryOut_X0_makeSpending rfl rfl rfl yd_X0_makeSpending ⟨Nat.le_of_ble_eq_true rfl, Nat.le_of_ble_eq_true rfl⟩) [0, 1, 2, 3, 4, 5, 6] rfl rfl rfl 0 rfl rfl rfl rfl (Nat.le_of_ble_eq_true rfl) dX0_carryOut_23 (fun H locs hP hD hS => ?_)
    have hP : va_P (dC, dI) vwCl [(h0, .inr (0, [.ref h1, .ref h4, .ref h6, .int day, .int grace, .int longest, .int ((f_X0_makeSpending rm fm spent spentIn spendings p1 p2).1), .int ((f_X0_makeSpending rm fm spent spentIn spendings p1 p2).2.1), .int ((f_X0_makeSpending rm fm spent spentIn spendings p1 p2).2.2.1), .int urgentSp, .int dropped, .int lapsedLate])), (h1, .inr (2, [.ref h2])), (h2, .inr (3, [.ref h3, .int 12, .int 8, .int rm])), (h3, .inl (cI, 96, .inl ((f_X0_makeSpending rm fm spent spentIn spendings p1 p2).2.2.2))), (h4, .inr (3, [.ref h5, .int 6, .int 6, .int rq])), (h5, .inl (cI, 36, .inl fr)), (h6, .inl (cI, 8, .inl ap))] H := hP
    have hD : va_D A [(h0, .inr (0, [.ref h1, .ref h4, .ref h6, .int day, .int grace, .int longest, .int ((f_X0_makeSpending rm fm spent spentIn spendings p1 p2).1), .int ((f_X0_makeSpending rm fm spent spentIn spendings p1 p2).2.1), .int ((f_X0_makeSpending rm fm spent spentIn spendings p1 p2).2.2.1), .int urgentSp, .int dropped, .int lapsedLate])), (h1, .inr (2, [.ref h2])), (h2, .inr (3, [.ref h3, .int 12, .int 8, .int rm])), (h3, .inl (cI, 96, .inl ((f_X0_makeSpending rm fm spent spentIn spendings p1 p2).2.2.2))), (h4, .inr (3, [.ref h5, .int 6, .int 6, .int rq])), (h5, .inl (cI, 36, .inl fr)), (h6, .inl (cI, 8, .inl ap))] := hD
    obtain ⟨spent_c26, espent_c26⟩ : ∃ z, z = (f_X0_makeSpending rm fm spent spentIn spendings p1 p2).1 := ⟨_, rfl⟩
    rw [← espent_c26] at hP hD
    obtain ⟨spentIn_c26, espentIn_c26⟩ : ∃ z, z = (f_X0_makeSpending rm fm spent spentIn spendings p1 p2).2.1 := ⟨_, rfl⟩
    rw [← espentIn_c26] at hP hD
    obtain ⟨spendings_c26, espendings_c26⟩ : ∃ z, z = (f_X0_makeSpending rm fm spent spentIn spendings p1 p2).2.2.1 := ⟨_, rfl⟩
    rw [← espendings_c26] at hP hD
    obtain ⟨fm_c26, efm_c26⟩ : ∃ z, z = (f_X0_makeSpending rm fm spent spentIn spendings p1 p2).2.2.2 := ⟨_, rfl⟩
    rw [← efm_c26] at hP hD
    have eF : rr = f_X0_carryOut_c26 rm fm rq fr day urgentSp p1 p2 p3 spent_c26 spentIn_c26 spendings_c26 fm_c26 := eF.trans (by rw [f_X0_carryOut_j20, espent_c26, espentIn_c26, espendings_c26, efm_c26])
    refine lv_iload_n hx hb dX0_carryOut_26 rfl (lv_at hl 3 rfl) ?_
    refine lv_if_eq (tgt := 40) hx hb dX0_carryOut_27 (by decide) (fun c_3 => ?_) (fun c_3 => ?_)
    · exact hJ40 spent_c26 spentIn_c26 spendings_c26 urgentSp fm_c26 (eF.trans (by rw [f_X0_carryOut_c26, if_pos c_3])) _ _ hP hD hS ls (lv_sub hl [0, 1, 2, 3, 4] rfl)
    · refine lv_aload_n hx hb dX0_carryOut_30 rfl (lv_at hl 0 rfl) ?_
      refine lv_dup hx hb dX0_carryOut_31 rfl ?_
      refine va_get (D := (dC, dI)) (ci := 0) (v := .int urgentSp) (C := RX0) (T := TX0) (N := 12) hx hb hts iwsX00 hown hK hP 0 rfl rfl 9 (by decide) kw2 (fun _ h9 => h9) rfl dX0_carryOut_32 ?_
      refine lv_iconst (v := 1) hx hb dX0_carryOut_35 (by decide) ?_
      refine lv_iadd hx hb dX0_carryOut_36 ?_
      refine va_put (D := (dC, dI)) (ci := 0) (v := .int (urgentSp + 1)) (ty := .int) (C := RX0) (T := TX0) (N := 12) hx hb hts iwsX00 tyX0 tyX0_ok nmX0 hown hK hP hD hS 0 rfl rfl 9 (by decide) kw2 (fun _ h9 => h9) rfl (by decide +kernel) rfl rfl (Nat.le_of_ble_eq_true rfl) dX0_carryOut_37 (fun H locs hP hD hS => ?_)
      have hP : va_P (dC, dI) vwCl [(h0, .inr (0, [.ref h1, .ref h4, .ref h6, .int day, .int grace, .int longest, .int spent_c26, .int spentIn_c26, .int spendings_c26, .int (urgentSp + 1), .int dropped, .int lapsedLate])), (h1, .inr (2, [.ref h2])), (h2, .inr (3, [.ref h3, .int 12, .int 8, .int rm])), (h3, .inl (cI, 96, .inl fm_c26)), (h4, .inr (3, [.ref h5, .int 6, .int 6, .int rq])), (h5, .inl (cI, 36, .inl fr)), (h6, .inl (cI, 8, .inl ap))] H := hP
      have hD : va_D A [(h0, .inr (0, [.ref h1, .ref h4, .ref h6, .int day, .int grace, .int longest, .int spent_c26, .int spentIn_c26, .int spendings_c26, .int (urgentSp + 1), .int dropped, .int lapsedLate])), (h1, .inr (2, [.ref h2])), (h2, .inr (3, [.ref h3, .int 12, .int 8, .int rm])), (h3, .inl (cI, 96, .inl fm_c26)), (h4, .inr (3, [.ref h5, .int 6, .int 6, .int rq])), (h5, .inl (cI, 36, .inl fr)), (h6, .inl (cI, 8, .inl ap))] := hD
      exact hJ40 spent_c26 spentIn_c26 spendings_c26 (urgentSp + 1) fm_c26 (eF.trans (by rw [f_X0_carryOut_c26, if_neg c_3])) _ _ hP hD hS ls (lv_sub hl [0, 1, 2, 3, 4] rfl)
  refine lv_aload_n hx hb dX0_carryOut_0 rfl (lv_at hl 0 rfl) ?_
  refine va_get (D := (dC, dI)) (ci := 0) (v := .ref h1) (C := RX0) (T := TX0) (N := 12) hx hb hts iwsX00 hown hK hP 0 rfl rfl 0 (by decide) kw1 (fun _ h9 => h9) rfl dX0_carryOut_1 ?_
  refine lv_iload_n hx hb dX0_carryOut_4 rfl (lv_at hl 1 rfl) ?_
  refine lv_iconst (v := 4) hx hb dX0_carryOut_5 (by decide) ?_
  refine vm_roVx (v := (f_X2_get rm fm p1 4)) (As := [.int p1, .int 4]) (rest := []) (T := TX2) (N := 1) (wc := [(h1, .inr (2, [.ref h2])), (h2, .inr (3, [.ref h3, .int 12, .int 8, .int rm])), (h3, .inl (cI, 96, .inl fm))]) ⟨hx, hb, hml, hown, hts⟩ hK hN hP hl.1 ⟨Nat.le_of_ble_eq_true rfl, Nat.le_of_ble_eq_true rfl⟩ (c_X2_get l dC dI cI cB h1 h2 h3 rm fm p1 4) (cwV 2 hts gX0_carryOut_X2_get rfl rfl rfl yd_X2_get ⟨Nat.le_of_ble_eq_true rfl, Nat.le_of_ble_eq_true rfl⟩) [1, 2, 3] rfl 2 rfl rfl rfl rfl (Nat.le_of_ble_eq_true rfl) dX0_carryOut_6 ?_
  refine lv_istore (lv' := [(4, .int (f_X2_get rm fm p1 4)), (0, .ref h0), (1, .int p1), (2, .int p2), (3, .int p3)]) hx hb dX0_carryOut_9 hl (by decide) rfl (fun ls hl => ?_)
  refine lv_iload_n hx hb dX0_carryOut_11 rfl (lv_at hl 4 rfl) ?_
  refine lv_if_ne (tgt := 20) hx hb dX0_carryOut_12 (by decide) (fun c_4 => ?_) (fun c_4 => ?_)
  · exact hJ20 (eF.trans (by rw [f_X0_carryOut, if_neg c_4])) _ _ hP hD hS ls (lv_sub hl [1, 2, 3, 4, 0] rfl)
  · refine lv_iload hx hb dX0_carryOut_15 (lv_at hl 0 rfl) ?_
    refine lv_if_ne (tgt := 26) hx hb dX0_carryOut_17 (by decide) (fun c_5 => ?_) (fun c_5 => ?_)
    · exact hJ26 (eF.trans (by rw [f_X0_carryOut, if_pos c_4, if_neg c_5])) _ _ hP hD hS ls (lv_sub hl [1, 2, 3, 4, 0] rfl)
    · exact hJ20 (eF.trans (by rw [f_X0_carryOut, if_pos c_4, if_pos c_5])) _ _ hP hD hS ls (lv_sub hl [1, 2, 3, 4, 0] rfl)

def f_X0_isPersonIn (p1 : Int32) (p2 : Int32) : Bool :=
  if p2 < 0 then
    false
  else
    if 8 ≤ p2 then
      false
    else
      if ((p1 >>> (p2 &&& 31)) &&& 1) = 1 then
        true
      else
        false
theorem yd_X0_isPersonIn : yX0_isPersonIn.cls ≠ "java/lang/invoke/MethodHandle" ∧ yX0_isPersonIn.cls ≠ "java/lang/invoke/VarHandle" ∧ (parseMethodDescriptor yX0_isPersonIn.desc).map (fun d => d.parameters.length) = some 2 := by decide +kernel
set_option maxHeartbeats 4000000 in
set_option maxRecDepth 100000 in
theorem c_X0_isPersonIn (l : Launch) (dC : Nat → ClassId) (dI : Nat → Nat → Nat) (cI cB : ClassId) (p1 : Int32) (p2 : Int32) : Met l yX0_isPersonIn wsX0_isPersonIn ({ frames := 0, cells := 0, slots := 0, locals := 0 }) (vm_pre [.int p1, .int p2] (dC, dI) [] cI cB) (vp_Si (fun r9 : Int32 => r9 = vm_bi (f_X0_isPersonIn p1 p2))) 0 0 (fun _ => False) := by
  refine Met.ofW (cc := cX0_isPersonIn) (maxL := 2) (ret := (some .boolean)) (by decide) rfl ?_
  intro p e s m args below meth c s₁ B hml hv
  obtain ⟨rfl, hP, hK, hN⟩ := hv
  have hx := B.exec
  have hb := B.bytes
  have hr := B.returns
  have hts := atoms_spec (ws := wsX0_isPersonIn) B.pre
  have hown : s.vm.findClass RX0 = some m.cls := findClass_of_methodNamed B.named
  have hlocks := B.notSynchronized
  generalize hrr : f_X0_isPersonIn p1 p2 = rr
  have eF := hrr.symm
  have hl := lv_entry ([.int p1, .int p2]) (n := 2) (Nat.le_of_ble_eq_true rfl)
  rw [lg_entry_eq]
  generalize (lg_sl ([.int p1, .int p2]) ++ List.replicate (2 - (lg_sl ([.int p1, .int p2])).length) Slot.unset).toArray = ls at hl ⊢
  have hl : lv_has ls 2 [(0, .int p1), (1, .int p2)] := hl
  refine lv_iload_n hx hb dX0_isPersonIn_0 rfl (lv_at hl 1 rfl) ?_
  refine lv_if_lt (tgt := 23) hx hb dX0_isPersonIn_1 (by decide) (fun c_1 => ?_) (fun c_1 => ?_)
  · refine lv_iconst (v := 0) hx hb dX0_isPersonIn_23 (by decide) ?_
    have e9 : rr = false := eF.trans (by rw [f_X0_isPersonIn, if_pos c_1])
    exact W.zret (v := 0) hx hb hr rfl (fun t ht hW => ⟨_, rfl, by rw [e9] <;> rfl, ht⟩) (fun _ hq => by cases hq) dX0_isPersonIn_24
  · refine lv_iload_n hx hb dX0_isPersonIn_4 rfl (lv_at hl 1 rfl) ?_
    refine lv_bipush (v := 8) hx hb dX0_isPersonIn_5 (by decide) ?_
    refine lv_icmp_ge (tgt := 23) hx hb dX0_isPersonIn_7 (by decide) (fun c_2 => ?_) (fun c_2 => ?_)
    · refine lv_iconst (v := 0) hx hb dX0_isPersonIn_23 (by decide) ?_
      have e9 : rr = false := eF.trans (by rw [f_X0_isPersonIn, if_neg c_1, if_pos c_2])
      exact W.zret (v := 0) hx hb hr rfl (fun t ht hW => ⟨_, rfl, by rw [e9] <;> rfl, ht⟩) (fun _ hq => by cases hq) dX0_isPersonIn_24
    · refine lv_iload_n hx hb dX0_isPersonIn_10 rfl (lv_at hl 0 rfl) ?_
      refine lv_iload_n hx hb dX0_isPersonIn_11 rfl (lv_at hl 1 rfl) ?_
      refine lv_ishr hx hb dX0_isPersonIn_12 ?_
      refine lv_iconst (v := 1) hx hb dX0_isPersonIn_13 (by decide) ?_
      refine lv_iand hx hb dX0_isPersonIn_14 ?_
      refine lv_iconst (v := 1) hx hb dX0_isPersonIn_15 (by decide) ?_
      refine lv_icmp_ne (tgt := 23) hx hb dX0_isPersonIn_16 (by decide) (fun c_3 => ?_) (fun c_3 => ?_)
      · refine lv_iconst (v := 0) hx hb dX0_isPersonIn_23 (by decide) ?_
        have e9 : rr = false := eF.trans (by rw [f_X0_isPersonIn, if_neg c_1, if_neg c_2, if_neg c_3])
        exact W.zret (v := 0) hx hb hr rfl (fun t ht hW => ⟨_, rfl, by rw [e9] <;> rfl, ht⟩) (fun _ hq => by cases hq) dX0_isPersonIn_24
      · refine lv_iconst (v := 1) hx hb dX0_isPersonIn_19 (by decide) ?_
        refine lv_goto (tgt := 24) hx hb dX0_isPersonIn_20 (by decide) ?_
        have e9 : rr = true := eF.trans (by rw [f_X0_isPersonIn, if_neg c_1, if_neg c_2, if_pos c_3])
        exact W.zret (v := 1) hx hb hr rfl (fun t ht hW => ⟨_, rfl, by rw [e9] <;> rfl, ht⟩) (fun _ hq => by cases hq) dX0_isPersonIn_24

def f_X0_couldApproveNow (rm : Int32) (fm : Nat → Int32) (rq : Int32) (fr : Nat → Int32) (p1 : Int32) : Int32 :=
  ((f_X2_approversOf rm fm (f_X3_get 6 rq 36 fr p1 0)) &&& ((f_X3_get 6 rq 36 fr p1 5) ^^^ (-1)))
theorem yd_X0_couldApproveNow : yX0_couldApproveNow.cls = RX0 ∧ yX0_couldApproveNow.cls ≠ "java/lang/invoke/MethodHandle" ∧ yX0_couldApproveNow.cls ≠ "java/lang/invoke/VarHandle" ∧ (parseMethodDescriptor yX0_couldApproveNow.desc).map (fun d => d.parameters.length) = some 1 := by decide +kernel
set_option maxHeartbeats 4000000 in
set_option maxRecDepth 100000 in
theorem c_X0_couldApproveNow (l : Launch) (dC : Nat → ClassId) (dI : Nat → Nat → Nat) (cI cB : ClassId) (h0 h1 h2 h3 h4 h5 h6 : Nat) (rm : Int32) (fm : Nat → Int32) (rq : Int32) (fr : Nat → Int32) (ap : Nat → Int32) (day : Int32) (grace : Int32) (longest : Int32) (spent : Int32) (spentIn : Int32) (spendings : Int32) (urgentSp : Int32) (dropped : Int32) (lapsedLate : Int32) (p1 : Int32) : Met l yX0_couldApproveNow wsX0_couldApproveNow ({ frames := 2, cells := 0, slots := 0, locals := 47 }) (vm_pre [.ref h0, .int p1] (dC, dI) [(h0, .inr (0, [.ref h1, .ref h4, .ref h6, .int day, .int grace, .int longest, .int spent, .int spentIn, .int spendings, .int urgentSp, .int dropped, .int lapsedLate])), (h1, .inr (2, [.ref h2])), (h2, .inr (3, [.ref h3, .int 12, .int 8, .int rm])), (h3, .inl (cI, 96, .inl fm)), (h4, .inr (3, [.ref h5, .int 6, .int 6, .int rq])), (h5, .inl (cI, 36, .inl fr)), (h6, .inl (cI, 8, .inl ap))] cI cB) (vp_Si (fun r9 : Int32 => r9 = (f_X0_couldApproveNow rm fm rq fr p1))) 0 0 (fun _ => False) := by
  refine Met.ofW (cc := cX0_couldApproveNow) (maxL := 2) (ret := (some .int)) (by decide) rfl ?_
  intro p e s m args below meth c s₁ B hml hv
  obtain ⟨rfl, hP, hK, hN⟩ := hv
  have hx := B.exec
  have hb := B.bytes
  have hr := B.returns
  have hts := atoms_spec (ws := wsX0_couldApproveNow) B.pre
  have hown : s.vm.findClass RX0 = some m.cls := findClass_of_methodNamed B.named
  have hlocks := B.notSynchronized
  have kw1 := hts (.fieldLink RX0 12 "LapseMandates$Book" "mandates" "LLapseMandates$Mandates;") (List.mem_of_getElem? (i := 1) rfl)
  have kw2 := hts (.fieldLink RX0 23 "LapseMandates$Book" "requests" "LLapseMandates$Table;") (List.mem_of_getElem? (i := 2) rfl)
  have iwsX00 : ∀ w ∈ wsX00, w ∈ wsX0_couldApproveNow := fun w h => List.mem_cons_of_mem _ (List.mem_append_left _ (List.mem_append_left _ (List.mem_append_right _ h)))
  generalize hrr : f_X0_couldApproveNow rm fm rq fr p1 = rr
  have eF := hrr.symm
  have hl := lv_entry ([.ref h0, .int p1]) (n := 2) (Nat.le_of_ble_eq_true rfl)
  rw [lg_entry_eq]
  generalize (lg_sl ([.ref h0, .int p1]) ++ List.replicate (2 - (lg_sl ([.ref h0, .int p1])).length) Slot.unset).toArray = ls at hl ⊢
  have hl : lv_has ls 2 [(0, .ref h0), (1, .int p1)] := hl
  refine lv_aload_n hx hb dX0_couldApproveNow_0 rfl (lv_at hl 0 rfl) ?_
  refine va_get (D := (dC, dI)) (ci := 0) (v := .ref h1) (C := RX0) (T := TX0) (N := 12) hx hb hts iwsX00 hown hK hP 0 rfl rfl 0 (by decide) kw1 (fun _ h9 => h9) rfl dX0_couldApproveNow_1 ?_
  refine lv_aload_n hx hb dX0_couldApproveNow_4 rfl (lv_at hl 0 rfl) ?_
  refine va_get (D := (dC, dI)) (ci := 0) (v := .ref h4) (C := RX0) (T := TX0) (N := 12) hx hb hts iwsX00 hown hK hP 0 rfl rfl 1 (by decide) kw2 (fun _ h9 => h9) rfl dX0_couldApproveNow_5 ?_
  refine lv_iload_n hx hb dX0_couldApproveNow_8 rfl (lv_at hl 1 rfl) ?_
  refine lv_iconst (v := 0) hx hb dX0_couldApproveNow_9 (by decide) ?_
  refine vm_roVx (v := (f_X3_get 6 rq 36 fr p1 0)) (As := [.int p1, .int 0]) (rest := [.ref h1]) (T := TX3) (N := 4) (wc := [(h4, .inr (3, [.ref h5, .int 6, .int 6, .int rq])), (h5, .inl (cI, 36, .inl fr))]) ⟨hx, hb, hml, hown, hts⟩ hK hN hP hl.1 ⟨Nat.le_of_ble_eq_true rfl, Nat.le_of_ble_eq_true rfl⟩ (c_X3_get l dC dI cI cB h4 h5 6 6 rq 36 fr p1 0 (by decide)) (cwV 2 hts gX0_couldApproveNow_X3_get rfl rfl rfl yd_X3_get ⟨Nat.le_of_ble_eq_true rfl, Nat.le_of_ble_eq_true rfl⟩) [4, 5] rfl 3 rfl rfl rfl rfl (Nat.le_of_ble_eq_true rfl) dX0_couldApproveNow_10 ?_
  refine vm_roVx (v := (f_X2_approversOf rm fm (f_X3_get 6 rq 36 fr p1 0))) (As := [.int (f_X3_get 6 rq 36 fr p1 0)]) (rest := []) (T := TX2) (N := 1) (wc := [(h1, .inr (2, [.ref h2])), (h2, .inr (3, [.ref h3, .int 12, .int 8, .int rm])), (h3, .inl (cI, 96, .inl fm))]) ⟨hx, hb, hml, hown, hts⟩ hK hN hP hl.1 ⟨Nat.le_of_ble_eq_true rfl, Nat.le_of_ble_eq_true rfl⟩ (c_X2_approversOf l dC dI cI cB h1 h2 h3 rm fm (f_X3_get 6 rq 36 fr p1 0)) (cwV 1 hts gX0_couldApproveNow_X2_approversOf rfl rfl rfl yd_X2_approversOf ⟨Nat.le_of_ble_eq_true rfl, Nat.le_of_ble_eq_true rfl⟩) [1, 2, 3] rfl 2 rfl rfl rfl rfl (Nat.le_of_ble_eq_true rfl) dX0_couldApproveNow_13 ?_
  refine lv_aload_n hx hb dX0_couldApproveNow_16 rfl (lv_at hl 0 rfl) ?_
  refine va_get (D := (dC, dI)) (ci := 0) (v := .ref h4) (C := RX0) (T := TX0) (N := 12) hx hb hts iwsX00 hown hK hP 0 rfl rfl 1 (by decide) kw2 (fun _ h9 => h9) rfl dX0_couldApproveNow_17 ?_
  refine lv_iload_n hx hb dX0_couldApproveNow_20 rfl (lv_at hl 1 rfl) ?_
  refine lv_iconst (v := 5) hx hb dX0_couldApproveNow_21 (by decide) ?_
  refine vm_roVx (v := (f_X3_get 6 rq 36 fr p1 5)) (As := [.int p1, .int 5]) (rest := [.int (f_X2_approversOf rm fm (f_X3_get 6 rq 36 fr p1 0))]) (T := TX3) (N := 4) (wc := [(h4, .inr (3, [.ref h5, .int 6, .int 6, .int rq])), (h5, .inl (cI, 36, .inl fr))]) ⟨hx, hb, hml, hown, hts⟩ hK hN hP hl.1 ⟨Nat.le_of_ble_eq_true rfl, Nat.le_of_ble_eq_true rfl⟩ (c_X3_get l dC dI cI cB h4 h5 6 6 rq 36 fr p1 5 (by decide)) (cwV 2 hts gX0_couldApproveNow_X3_get rfl rfl rfl yd_X3_get ⟨Nat.le_of_ble_eq_true rfl, Nat.le_of_ble_eq_true rfl⟩) [4, 5] rfl 3 rfl rfl rfl rfl (Nat.le_of_ble_eq_true rfl) dX0_couldApproveNow_22 ?_
  refine lv_iconst (v := (-1)) hx hb dX0_couldApproveNow_25 (by decide) ?_
  refine lv_ixor hx hb dX0_couldApproveNow_26 ?_
  refine lv_iand hx hb dX0_couldApproveNow_27 ?_
  have e9 : rr = ((f_X2_approversOf rm fm (f_X3_get 6 rq 36 fr p1 0)) &&& ((f_X3_get 6 rq 36 fr p1 5) ^^^ (-1))) := eF.trans (by rw [f_X0_couldApproveNow])
  exact W.iret (v := ((f_X2_approversOf rm fm (f_X3_get 6 rq 36 fr p1 0)) &&& ((f_X3_get 6 rq 36 fr p1 5) ^^^ (-1)))) hx hb hr (fun t ht hW => ⟨_, rfl, e9.symm, ht⟩) (fun _ hq => by cases hq) dX0_couldApproveNow_28

def f_X0_couldApprove (rm : Int32) (fm : Nat → Int32) (rq : Int32) (fr : Nat → Int32) (p1 : Int32) (p2 : Int32) : Bool :=
  (f_X0_isPersonIn (f_X0_couldApproveNow rm fm rq fr p1) p2)
theorem yd_X0_couldApprove : yX0_couldApprove.cls = RX0 ∧ yX0_couldApprove.cls ≠ "java/lang/invoke/MethodHandle" ∧ yX0_couldApprove.cls ≠ "java/lang/invoke/VarHandle" ∧ (parseMethodDescriptor yX0_couldApprove.desc).map (fun d => d.parameters.length) = some 2 := by decide +kernel
set_option maxHeartbeats 4000000 in
set_option maxRecDepth 100000 in
theorem c_X0_couldApprove (l : Launch) (dC : Nat → ClassId) (dI : Nat → Nat → Nat) (cI cB : ClassId) (h0 h1 h2 h3 h4 h5 h6 : Nat) (rm : Int32) (fm : Nat → Int32) (rq : Int32) (fr : Nat → Int32) (ap : Nat → Int32) (day : Int32) (grace : Int32) (longest : Int32) (spent : Int32) (spentIn : Int32) (spendings : Int32) (urgentSp : Int32) (dropped : Int32) (lapsedLate : Int32) (p1 : Int32) (p2 : Int32) : Met l yX0_couldApprove wsX0_couldApprove ({ frames := 3, cells := 0, slots := 0, locals := 68 }) (vm_pre [.ref h0, .int p1, .int p2] (dC, dI) [(h0, .inr (0, [.ref h1, .ref h4, .ref h6, .int day, .int grace, .int longest, .int spent, .int spentIn, .int spendings, .int urgentSp, .int dropped, .int lapsedLate])), (h1, .inr (2, [.ref h2])), (h2, .inr (3, [.ref h3, .int 12, .int 8, .int rm])), (h3, .inl (cI, 96, .inl fm)), (h4, .inr (3, [.ref h5, .int 6, .int 6, .int rq])), (h5, .inl (cI, 36, .inl fr)), (h6, .inl (cI, 8, .inl ap))] cI cB) (vp_Si (fun r9 : Int32 => r9 = vm_bi (f_X0_couldApprove rm fm rq fr p1 p2))) 0 0 (fun _ => False) := by
  refine Met.ofW (cc := cX0_couldApprove) (maxL := 3) (ret := (some .boolean)) (by decide) rfl ?_
  intro p e s m args below meth c s₁ B hml hv
  obtain ⟨rfl, hP, hK, hN⟩ := hv
  have hx := B.exec
  have hb := B.bytes
  have hr := B.returns
  have hts := atoms_spec (ws := wsX0_couldApprove) B.pre
  have hown : s.vm.findClass RX0 = some m.cls := findClass_of_methodNamed B.named
  have hlocks := B.notSynchronized
  generalize hrr : f_X0_couldApprove rm fm rq fr p1 p2 = rr
  have eF := hrr.symm
  have hl := lv_entry ([.ref h0, .int p1, .int p2]) (n := 3) (Nat.le_of_ble_eq_true rfl)
  rw [lg_entry_eq]
  generalize (lg_sl ([.ref h0, .int p1, .int p2]) ++ List.replicate (3 - (lg_sl ([.ref h0, .int p1, .int p2])).length) Slot.unset).toArray = ls at hl ⊢
  have hl : lv_has ls 3 [(0, .ref h0), (1, .int p1), (2, .int p2)] := hl
  refine lv_aload_n hx hb dX0_couldApprove_0 rfl (lv_at hl 0 rfl) ?_
  refine lv_iload_n hx hb dX0_couldApprove_1 rfl (lv_at hl 1 rfl) ?_
  refine vm_roVx (v := (f_X0_couldApproveNow rm fm rq fr p1)) (As := [.int p1]) (rest := []) (T := TX0) (N := 12) (wc := [(h0, .inr (0, [.ref h1, .ref h4, .ref h6, .int day, .int grace, .int longest, .int spent, .int spentIn, .int spendings, .int urgentSp, .int dropped, .int lapsedLate])), (h1, .inr (2, [.ref h2])), (h2, .inr (3, [.ref h3, .int 12, .int 8, .int rm])), (h3, .inl (cI, 96, .inl fm)), (h4, .inr (3, [.ref h5, .int 6, .int 6, .int rq])), (h5, .inl (cI, 36, .inl fr)), (h6, .inl (cI, 8, .inl ap))]) ⟨hx, hb, hml, hown, hts⟩ hK hN hP hl.1 ⟨Nat.le_of_ble_eq_true rfl, Nat.le_of_ble_eq_true rfl⟩ (c_X0_couldApproveNow l dC dI cI cB h0 h1 h2 h3 h4 h5 h6 rm fm rq fr ap day grace longest spent spentIn spendings urgentSp dropped lapsedLate p1) (cwV 1 hts gX0_couldApprove_X0_couldApproveNow rfl rfl rfl yd_X0_couldApproveNow ⟨Nat.le_of_ble_eq_true rfl, Nat.le_of_ble_eq_true rfl⟩) [0, 1, 2, 3, 4, 5, 6] rfl 0 rfl rfl rfl rfl (Nat.le_of_ble_eq_true rfl) dX0_couldApprove_2 ?_
  refine lv_iload_n hx hb dX0_couldApprove_5 rfl (lv_at hl 2 rfl) ?_
  refine vm_roSx (v := vm_bi (f_X0_isPersonIn (f_X0_couldApproveNow rm fm rq fr p1) p2)) (As := [.int (f_X0_couldApproveNow rm fm rq fr p1), .int p2]) (rest := []) ⟨hx, hb, hml, hown, hts⟩ hK hN hP hl.1 ⟨Nat.le_of_ble_eq_true rfl, Nat.le_of_ble_eq_true rfl⟩ (c_X0_isPersonIn l dC dI cI cB (f_X0_couldApproveNow rm fm rq fr p1) p2) (va_cwS 2 hts gX0_couldApprove_X0_isPersonIn rfl rfl rfl yd_X0_isPersonIn ⟨Nat.le_of_ble_eq_true rfl, Nat.le_of_ble_eq_true rfl⟩) rfl rfl (Nat.le_of_ble_eq_true rfl) dX0_couldApprove_6 ?_
  have e9 : rr = (f_X0_isPersonIn (f_X0_couldApproveNow rm fm rq fr p1) p2) := eF.trans (by rw [f_X0_couldApprove])
  exact W.zret (v := vm_bi (f_X0_isPersonIn (f_X0_couldApproveNow rm fm rq fr p1) p2)) hx hb hr (vm_bi_nw _) (fun t ht hW => ⟨_, rfl, by rw [e9] <;> rfl, ht⟩) (fun _ hq => by cases hq) dX0_couldApprove_9

def f_X0_removeRequest_c18 (rq : Int32) (fr : Nat → Int32) (p1 : Int32) (rq_c18 : Int32) (fr_c18 : Nat → Int32) : Int32 × Int32 × (Nat → Int32) :=
  ((f_X3_get 6 rq 36 fr p1 1), rq_c18, fr_c18)
def f_X0_removeRequest (rq : Int32) (fr : Nat → Int32) (p1 : Int32) : Int32 × Int32 × (Nat → Int32) :=
  f_X0_removeRequest_c18 rq fr p1 ((f_X3_removeRow 6 rq 36 fr p1).1) ((f_X3_removeRow 6 rq 36 fr p1).2)
theorem yd_X0_removeRequest : yX0_removeRequest.cls = RX0 ∧ yX0_removeRequest.cls ≠ "java/lang/invoke/MethodHandle" ∧ yX0_removeRequest.cls ≠ "java/lang/invoke/VarHandle" ∧ (parseMethodDescriptor yX0_removeRequest.desc).map (fun d => d.parameters.length) = some 1 := by decide +kernel
set_option maxHeartbeats 4000000 in
set_option maxRecDepth 100000 in
theorem c_X0_removeRequest (l : Launch) (dC : Nat → ClassId) (dI : Nat → Nat → Nat) (cI cB : ClassId) (h0 h1 h2 h3 h4 h5 h6 : Nat) (sz : Nat) (rm : Int32) (fm : Nat → Int32) (rq : Int32) (fr : Nat → Int32) (ap : Nat → Int32) (day : Int32) (grace : Int32) (longest : Int32) (spent : Int32) (spentIn : Int32) (spendings : Int32) (urgentSp : Int32) (dropped : Int32) (lapsedLate : Int32) (p1 : Int32) : Met l yX0_removeRequest wsX0_removeRequest ({ frames := 2, cells := 0, slots := 0, locals := 47 }) (vm_prw [.ref h0, .int p1] (dC, dI) [(h0, .inr (0, [.ref h1, .ref h4, .ref h6, .int day, .int grace, .int longest, .int spent, .int spentIn, .int spendings, .int urgentSp, .int dropped, .int lapsedLate])), (h1, .inr (2, [.ref h2])), (h2, .inr (3, [.ref h3, .int 12, .int 8, .int rm])), (h3, .inl (cI, 96, .inl fm)), (h4, .inr (3, [.ref h5, .int 6, .int 6, .int rq])), (h5, .inl (cI, 36, .inl fr)), (h6, .inl (cI, 8, .inl ap))] cI cB sz) (va_Qi (fun (r9 : Int32) (_ : Unit) => r9 = (f_X0_removeRequest rq fr p1).1) (fun _ t => va_P (dC, dI) vwCl [(h0, .inr (0, [.ref h1, .ref h4, .ref h6, .int day, .int grace, .int longest, .int spent, .int spentIn, .int spendings, .int urgentSp, .int dropped, .int lapsedLate])), (h1, .inr (2, [.ref h2])), (h2, .inr (3, [.ref h3, .int 12, .int 8, .int rm])), (h3, .inl (cI, 96, .inl fm)), (h4, .inr (3, [.ref h5, .int 6, .int 6, .int ((f_X0_removeRequest rq fr p1).2.1)])), (h5, .inl (cI, 36, .inl ((f_X0_removeRequest rq fr p1).2.2))), (h6, .inl (cI, 8, .inl ap))] t.heap) (va_A [(h0, .inr (0, [.ref h1, .ref h4, .ref h6, .int day, .int grace, .int longest, .int spent, .int spentIn, .int spendings, .int urgentSp, .int dropped, .int lapsedLate])), (h1, .inr (2, [.ref h2])), (h2, .inr (3, [.ref h3, .int 12, .int 8, .int rm])), (h3, .inl (cI, 96, .inl fm)), (h4, .inr (3, [.ref h5, .int 6, .int 6, .int rq])), (h5, .inl (cI, 36, .inl fr)), (h6, .inl (cI, 8, .inl ap))] sz)) 0 0 (va_A [(h0, .inr (0, [.ref h1, .ref h4, .ref h6, .int day, .int grace, .int longest, .int spent, .int spentIn, .int spendings, .int urgentSp, .int dropped, .int lapsedLate])), (h1, .inr (2, [.ref h2])), (h2, .inr (3, [.ref h3, .int 12, .int 8, .int rm])), (h3, .inl (cI, 96, .inl fm)), (h4, .inr (3, [.ref h5, .int 6, .int 6, .int rq])), (h5, .inl (cI, 36, .inl fr)), (h6, .inl (cI, 8, .inl ap))] sz) := by
  refine Met.ofW (cc := cX0_removeRequest) (maxL := 3) (ret := (some .int)) (by decide) rfl ?_
  intro p e s m args below meth c s₁ B hml hv
  obtain ⟨rfl, hsz, hP, hK, hN, hD0⟩ := hv
  have hx := B.exec
  have hb := B.bytes
  have hr := B.returns
  have hts := atoms_spec (ws := wsX0_removeRequest) B.pre
  have hown : s.vm.findClass RX0 = some m.cls := findClass_of_methodNamed B.named
  have hlocks := B.notSynchronized
  subst hsz
  have hD := hD0.self (sz := s.heap.size)
  generalize hAe : va_A [(h0, .inr (0, [.ref h1, .ref h4, .ref h6, .int day, .int grace, .int longest, .int spent, .int spentIn, .int spendings, .int urgentSp, .int dropped, .int lapsedLate])), (h1, .inr (2, [.ref h2])), (h2, .inr (3, [.ref h3, .int 12, .int 8, .int rm])), (h3, .inl (cI, 96, .inl fm)), (h4, .inr (3, [.ref h5, .int 6, .int 6, .int rq])), (h5, .inl (cI, 36, .inl fr)), (h6, .inl (cI, 8, .inl ap))] s.heap.size = A at hD ⊢
  have hA : ∀ q : Nat, s.heap.size ≤ q → A q := fun q h => by rw [← hAe]; exact Or.inr h
  have hS : va_S A s.heap s.heap [] := va_S.rf
  have hP : va_P (dC, dI) vwCl [(h0, .inr (0, [.ref h1, .ref h4, .ref h6, .int day, .int grace, .int longest, .int spent, .int spentIn, .int spendings, .int urgentSp, .int dropped, .int lapsedLate])), (h1, .inr (2, [.ref h2])), (h2, .inr (3, [.ref h3, .int 12, .int 8, .int rm])), (h3, .inl (cI, 96, .inl fm)), (h4, .inr (3, [.ref h5, .int 6, .int 6, .int rq])), (h5, .inl (cI, 36, .inl fr)), (h6, .inl (cI, 8, .inl ap))] s.heap := hP
  have kw1 := hts (.fieldLink RX0 23 "LapseMandates$Book" "requests" "LLapseMandates$Table;") (List.mem_of_getElem? (i := 1) rfl)
  have iwsX00 : ∀ w ∈ wsX00, w ∈ wsX0_removeRequest := fun w h => List.mem_cons_of_mem _ (List.mem_append_left _ (List.mem_append_right _ h))
  generalize hrr : f_X0_removeRequest rq fr p1 = rr
  have eF := hrr.symm
  have hl := lv_entry ([.ref h0, .int p1]) (n := 3) (Nat.le_of_ble_eq_true rfl)
  rw [lg_entry_eq]
  generalize (lg_sl ([.ref h0, .int p1]) ++ List.replicate (3 - (lg_sl ([.ref h0, .int p1])).length) Slot.unset).toArray = ls at hl ⊢
  have hl : lv_has ls 3 [(0, .ref h0), (1, .int p1)] := hl
  refine lv_aload_n hx hb dX0_removeRequest_0 rfl (lv_at hl 0 rfl) ?_
  refine va_get (D := (dC, dI)) (ci := 0) (v := .ref h4) (C := RX0) (T := TX0) (N := 12) hx hb hts iwsX00 hown hK hP 0 rfl rfl 1 (by decide) kw1 (fun _ h9 => h9) rfl dX0_removeRequest_1 ?_
  refine lv_iload_n hx hb dX0_removeRequest_4 rfl (lv_at hl 1 rfl) ?_
  refine lv_iconst (v := 1) hx hb dX0_removeRequest_5 (by decide) ?_
  refine vm_roVx (v := (f_X3_get 6 rq 36 fr p1 1)) (As := [.int p1, .int 1]) (rest := []) (T := TX3) (N := 4) (wc := [(h4, .inr (3, [.ref h5, .int 6, .int 6, .int rq])), (h5, .inl (cI, 36, .inl fr))]) ⟨hx, hb, hml, hown, hts⟩ hK hN hP hl.1 ⟨Nat.le_of_ble_eq_true rfl, Nat.le_of_ble_eq_true rfl⟩ (c_X3_get l dC dI cI cB h4 h5 6 6 rq 36 fr p1 1 (by decide)) (cwV 2 hts gX0_removeRequest_X3_get rfl rfl rfl yd_X3_get ⟨Nat.le_of_ble_eq_true rfl, Nat.le_of_ble_eq_true rfl⟩) [4, 5] rfl 3 rfl rfl rfl rfl (Nat.le_of_ble_eq_true rfl) dX0_removeRequest_6 ?_
  refine lv_istore_n (lv' := [(2, .int (f_X3_get 6 rq 36 fr p1 1)), (0, .ref h0), (1, .int p1)]) hx hb dX0_removeRequest_9 rfl hl (by decide) rfl (fun ls hl => ?_)
  refine lv_aload_n hx hb dX0_removeRequest_10 rfl (lv_at hl 1 rfl) ?_
  refine va_get (D := (dC, dI)) (ci := 0) (v := .ref h4) (C := RX0) (T := TX0) (N := 12) hx hb hts iwsX00 hown hK hP 0 rfl rfl 1 (by decide) kw1 (fun _ h9 => h9) rfl dX0_removeRequest_11 ?_
  refine lv_iload_n hx hb dX0_removeRequest_14 rfl (lv_at hl 2 rfl) ?_
  refine vm_rwVv (As := [.int p1]) (rest := []) (T := TX3) (N := 4) (wc := [(h4, .inr (3, [.ref h5, .int 6, .int 6, .int rq])), (h5, .inl (cI, 36, .inl fr))]) (w1 := [(h4, .inr (3, [.ref h5, .int 6, .int 6, .int ((f_X3_removeRow 6 rq 36 fr p1).1)])), (h5, .inl (cI, 36, .inl ((f_X3_removeRow 6 rq 36 fr p1).2)))]) ⟨hx, hb, hml, hown, hts⟩ hK hN hP hD hS hA hl.1 ⟨Nat.le_of_ble_eq_true rfl, Nat.le_of_ble_eq_true rfl⟩ (c_X3_removeRow l dC dI cI cB h4 h5 _ 6 6 rq 36 fr p1 (by decide)) (cwV 1 hts gX0_removeRequest_X3_removeRow rfl rfl rfl yd_X3_removeRow ⟨Nat.le_of_ble_eq_true rfl, Nat.le_of_ble_eq_true rfl⟩) [4, 5] rfl rfl rfl 3 rfl rfl rfl rfl (Nat.le_of_ble_eq_true rfl) dX0_removeRequest_15 (fun H locs hP hD hS => ?_)
  have hP : va_P (dC, dI) vwCl [(h0, .inr (0, [.ref h1, .ref h4, .ref h6, .int day, .int grace, .int longest, .int spent, .int spentIn, .int spendings, .int urgentSp, .int dropped, .int lapsedLate])), (h1, .inr (2, [.ref h2])), (h2, .inr (3, [.ref h3, .int 12, .int 8, .int rm])), (h3, .inl (cI, 96, .inl fm)), (h4, .inr (3, [.ref h5, .int 6, .int 6, .int ((f_X3_removeRow 6 rq 36 fr p1).1)])), (h5, .inl (cI, 36, .inl ((f_X3_removeRow 6 rq 36 fr p1).2))), (h6, .inl (cI, 8, .inl ap))] H := hP
  have hD : va_D A [(h0, .inr (0, [.ref h1, .ref h4, .ref h6, .int day, .int grace, .int longest, .int spent, .int spentIn, .int spendings, .int urgentSp, .int dropped, .int lapsedLate])), (h1, .inr (2, [.ref h2])), (h2, .inr (3, [.ref h3, .int 12, .int 8, .int rm])), (h3, .inl (cI, 96, .inl fm)), (h4, .inr (3, [.ref h5, .int 6, .int 6, .int ((f_X3_removeRow 6 rq 36 fr p1).1)])), (h5, .inl (cI, 36, .inl ((f_X3_removeRow 6 rq 36 fr p1).2))), (h6, .inl (cI, 8, .inl ap))] := hD
  obtain ⟨rq_c18, erq_c18⟩ : ∃ z, z = (f_X3_removeRow 6 rq 36 fr p1).1 := ⟨_, rfl⟩
  rw [← erq_c18] at hP hD
  obtain ⟨fr_c18, efr_c18⟩ : ∃ z, z = (f_X3_removeRow 6 rq 36 fr p1).2 := ⟨_, rfl⟩
  rw [← efr_c18] at hP hD
  have eF : rr = f_X0_removeRequest_c18 rq fr p1 rq_c18 fr_c18 := eF.trans (by rw [f_X0_removeRequest, erq_c18, efr_c18])
  refine lv_iload_n hx hb dX0_removeRequest_18 rfl (lv_at hl 0 rfl) ?_
  have e9 : rr = ((f_X3_get 6 rq 36 fr p1 1), rq_c18, fr_c18) := eF.trans (by rw [f_X0_removeRequest_c18])
  exact W.iret (v := (f_X3_get 6 rq 36 fr p1 1)) hx hb hr (fun t ht hW => ⟨⟨_, (), rfl, by rw [e9], (by rw [e9]; show va_P _ _ _ t.heap; rw [ht]; exact hP)⟩, hS.F ht⟩) hS.2.2 dX0_removeRequest_19

def f_X0_settle_c61 (dropped : Int32) (rq_c21 : Int32) (fr_c21 : Nat → Int32) (spent_c61 : Int32) (spentIn_c61 : Int32) (spendings_c61 : Int32) (fm_c61 : Nat → Int32) : Int32 × Int32 × Int32 × Int32 × Int32 × (Nat → Int32) × Int32 × (Nat → Int32) :=
  (1, dropped, spent_c61, spentIn_c61, spendings_c61, fm_c61, rq_c21, fr_c21)
def f_X0_settle_c21 (rm : Int32) (fm : Nat → Int32) (rq : Int32) (fr : Nat → Int32) (spent : Int32) (spentIn : Int32) (spendings : Int32) (dropped : Int32) (p1 : Int32) (y21 : Int32) (rq_c21 : Int32) (fr_c21 : Nat → Int32) : Int32 × Int32 × Int32 × Int32 × Int32 × (Nat → Int32) × Int32 × (Nat → Int32) :=
  if (vm_bi (f_X0_isUrgent rq fr p1)) = 0 then
    if (f_X2_refusal rm fm (f_X3_get 6 rq 36 fr p1 0) y21) = 0 then
      f_X0_settle_c61 dropped rq_c21 fr_c21 ((f_X0_makeSpending rm fm spent spentIn spendings (f_X3_get 6 rq 36 fr p1 0) y21).1) ((f_X0_makeSpending rm fm spent spentIn spendings (f_X3_get 6 rq 36 fr p1 0) y21).2.1) ((f_X0_makeSpending rm fm spent spentIn spendings (f_X3_get 6 rq 36 fr p1 0) y21).2.2.1) ((f_X0_makeSpending rm fm spent spentIn spendings (f_X3_get 6 rq 36 fr p1 0) y21).2.2.2)
    else
      (2, (dropped + 1), spent, spentIn, spendings, fm, rq_c21, fr_c21)
  else
    (1, dropped, spent, spentIn, spendings, fm, rq_c21, fr_c21)
def f_X0_settle (rm : Int32) (fm : Nat → Int32) (rq : Int32) (fr : Nat → Int32) (spent : Int32) (spentIn : Int32) (spendings : Int32) (dropped : Int32) (p1 : Int32) : Int32 × Int32 × Int32 × Int32 × Int32 × (Nat → Int32) × Int32 × (Nat → Int32) :=
  f_X0_settle_c21 rm fm rq fr spent spentIn spendings dropped p1 ((f_X0_removeRequest rq fr p1).1) ((f_X0_removeRequest rq fr p1).2.1) ((f_X0_removeRequest rq fr p1).2.2)
theorem yd_X0_settle : yX0_settle.cls = RX0 ∧ yX0_settle.cls ≠ "java/lang/invoke/MethodHandle" ∧ yX0_settle.cls ≠ "java/lang/invoke/VarHandle" ∧ (parseMethodDescriptor yX0_settle.desc).map (fun d => d.parameters.length) = some 1 := by decide +kernel
set_option maxHeartbeats 4000000 in
set_option maxRecDepth 100000 in
theorem c_X0_settle (l : Launch) (dC : Nat → ClassId) (dI : Nat → Nat → Nat) (cI cB : ClassId) (h0 h1 h2 h3 h4 h5 h6 : Nat) (sz : Nat) (rm : Int32) (fm : Nat → Int32) (rq : Int32) (fr : Nat → Int32) (ap : Nat → Int32) (day : Int32) (grace : Int32) (longest : Int32) (spent : Int32) (spentIn : Int32) (spendings : Int32) (urgentSp : Int32) (dropped : Int32) (lapsedLate : Int32) (p1 : Int32) : Met l yX0_settle wsX0_settle ({ frames := 4, cells := 0, slots := 0, locals := 90 }) (vm_prw [.ref h0, .int p1] (dC, dI) [(h0, .inr (0, [.ref h1, .ref h4, .ref h6, .int day, .int grace, .int longest, .int spent, .int spentIn, .int spendings, .int urgentSp, .int dropped, .int lapsedLate])), (h1, .inr (2, [.ref h2])), (h2, .inr (3, [.ref h3, .int 12, .int 8, .int rm])), (h3, .inl (cI, 96, .inl fm)), (h4, .inr (3, [.ref h5, .int 6, .int 6, .int rq])), (h5, .inl (cI, 36, .inl fr)), (h6, .inl (cI, 8, .inl ap))] cI cB sz) (va_Qi (fun (r9 : Int32) (_ : Unit) => r9 = (f_X0_settle rm fm rq fr spent spentIn spendings dropped p1).1) (fun _ t => va_P (dC, dI) vwCl [(h0, .inr (0, [.ref h1, .ref h4, .ref h6, .int day, .int grace, .int longest, .int ((f_X0_settle rm fm rq fr spent spentIn spendings dropped p1).2.2.1), .int ((f_X0_settle rm fm rq fr spent spentIn spendings dropped p1).2.2.2.1), .int ((f_X0_settle rm fm rq fr spent spentIn spendings dropped p1).2.2.2.2.1), .int urgentSp, .int ((f_X0_settle rm fm rq fr spent spentIn spendings dropped p1).2.1), .int lapsedLate])), (h1, .inr (2, [.ref h2])), (h2, .inr (3, [.ref h3, .int 12, .int 8, .int rm])), (h3, .inl (cI, 96, .inl ((f_X0_settle rm fm rq fr spent spentIn spendings dropped p1).2.2.2.2.2.1))), (h4, .inr (3, [.ref h5, .int 6, .int 6, .int ((f_X0_settle rm fm rq fr spent spentIn spendings dropped p1).2.2.2.2.2.2.1)])), (h5, .inl (cI, 36, .inl ((f_X0_settle rm fm rq fr spent spentIn spendings dropped p1).2.2.2.2.2.2.2))), (h6, .inl (cI, 8, .inl ap))] t.heap) (va_A [(h0, .inr (0, [.ref h1, .ref h4, .ref h6, .int day, .int grace, .int longest, .int spent, .int spentIn, .int spendings, .int urgentSp, .int dropped, .int lapsedLate])), (h1, .inr (2, [.ref h2])), (h2, .inr (3, [.ref h3, .int 12, .int 8, .int rm])), (h3, .inl (cI, 96, .inl fm)), (h4, .inr (3, [.ref h5, .int 6, .int 6, .int rq])), (h5, .inl (cI, 36, .inl fr)), (h6, .inl (cI, 8, .inl ap))] sz)) 0 0 (va_A [(h0, .inr (0, [.ref h1, .ref h4, .ref h6, .int day, .int grace, .int longest, .int spent, .int spentIn, .int spendings, .int urgentSp, .int dropped, .int lapsedLate])), (h1, .inr (2, [.ref h2])), (h2, .inr (3, [.ref h3, .int 12, .int 8, .int rm])), (h3, .inl (cI, 96, .inl fm)), (h4, .inr (3, [.ref h5, .int 6, .int 6, .int rq])), (h5, .inl (cI, 36, .inl fr)), (h6, .inl (cI, 8, .inl ap))] sz) := by
  refine Met.ofW (cc := cX0_settle) (maxL := 5) (ret := (some .int)) (by decide) rfl ?_
  intro p e s m args below meth c s₁ B hml hv
  obtain ⟨rfl, hsz, hP, hK, hN, hD0⟩ := hv
  have hx := B.exec
  have hb := B.bytes
  have hr := B.returns
  have hts := atoms_spec (ws := wsX0_settle) B.pre
  have hown : s.vm.findClass RX0 = some m.cls := findClass_of_methodNamed B.named
  have hlocks := B.notSynchronized
  subst hsz
  have hD := hD0.self (sz := s.heap.size)
  generalize hAe : va_A [(h0, .inr (0, [.ref h1, .ref h4, .ref h6, .int day, .int grace, .int longest, .int spent, .int spentIn, .int spendings, .int urgentSp, .int dropped, .int lapsedLate])), (h1, .inr (2, [.ref h2])), (h2, .inr (3, [.ref h3, .int 12, .int 8, .int rm])), (h3, .inl (cI, 96, .inl fm)), (h4, .inr (3, [.ref h5, .int 6, .int 6, .int rq])), (h5, .inl (cI, 36, .inl fr)), (h6, .inl (cI, 8, .inl ap))] s.heap.size = A at hD ⊢
  have hA : ∀ q : Nat, s.heap.size ≤ q → A q := fun q h => by rw [← hAe]; exact Or.inr h
  have hS : va_S A s.heap s.heap [] := va_S.rf
  have hP : va_P (dC, dI) vwCl [(h0, .inr (0, [.ref h1, .ref h4, .ref h6, .int day, .int grace, .int longest, .int spent, .int spentIn, .int spendings, .int urgentSp, .int dropped, .int lapsedLate])), (h1, .inr (2, [.ref h2])), (h2, .inr (3, [.ref h3, .int 12, .int 8, .int rm])), (h3, .inl (cI, 96, .inl fm)), (h4, .inr (3, [.ref h5, .int 6, .int 6, .int rq])), (h5, .inl (cI, 36, .inl fr)), (h6, .inl (cI, 8, .inl ap))] s.heap := hP
  have kw1 := hts (.fieldLink RX0 23 "LapseMandates$Book" "requests" "LLapseMandates$Table;") (List.mem_of_getElem? (i := 1) rfl)
  have kw2 := hts (.fieldLink RX0 12 "LapseMandates$Book" "mandates" "LLapseMandates$Mandates;") (List.mem_of_getElem? (i := 2) rfl)
  have kw3 := hts (.fieldLink RX0 60 "LapseMandates$Book" "droppedOrFailed" "I") (List.mem_of_getElem? (i := 3) rfl)
  have iwsX00 : ∀ w ∈ wsX00, w ∈ wsX0_settle := fun w h => List.mem_cons_of_mem _ (List.mem_append_left _ (List.mem_append_left _ (List.mem_append_right _ h)))
  generalize hrr : f_X0_settle rm fm rq fr spent spentIn spendings dropped p1 = rr
  have eF := hrr.symm
  have hl := lv_entry ([.ref h0, .int p1]) (n := 5) (Nat.le_of_ble_eq_true rfl)
  rw [lg_entry_eq]
  generalize (lg_sl ([.ref h0, .int p1]) ++ List.replicate (5 - (lg_sl ([.ref h0, .int p1])).length) Slot.unset).toArray = ls at hl ⊢
  have hl : lv_has ls 5 [(0, .ref h0), (1, .int p1)] := hl
  refine lv_aload_n hx hb dX0_settle_0 rfl (lv_at hl 0 rfl) ?_
  refine lv_iload_n hx hb dX0_settle_1 rfl (lv_at hl 1 rfl) ?_
  refine vm_roVx (v := vm_bi (f_X0_isUrgent rq fr p1)) (As := [.int p1]) (rest := []) (T := TX0) (N := 12) (wc := [(h0, .inr (0, [.ref h1, .ref h4, .ref h6, .int day, .int grace, .int longest, .int spent, .int spentIn, .int spendings, .int urgentSp, .int dropped, .int lapsedLate])), (h1, .inr (2, [.ref h2])), (h2, .inr (3, [.ref h3, .int 12, .int 8, .int rm])), (h3, .inl (cI, 96, .inl fm)), (h4, .inr (3, [.ref h5, .int 6, .int 6, .int rq])), (h5, .inl (cI, 36, .inl fr)), (h6, .inl (cI, 8, .inl ap))]) ⟨hx, hb, hml, hown, hts⟩ hK hN hP hl.1 ⟨Nat.le_of_ble_eq_true rfl, Nat.le_of_ble_eq_true rfl⟩ (c_X0_isUrgent l dC dI cI cB h0 h1 h2 h3 h4 h5 h6 rm fm rq fr ap day grace longest spent spentIn spendings urgentSp dropped lapsedLate p1) (cwV 1 hts gX0_settle_X0_isUrgent rfl rfl rfl yd_X0_isUrgent ⟨Nat.le_of_ble_eq_true rfl, Nat.le_of_ble_eq_true rfl⟩) [0, 1, 2, 3, 4, 5, 6] rfl 0 rfl rfl rfl rfl (Nat.le_of_ble_eq_true rfl) dX0_settle_2 ?_
  refine lv_istore_n (lv' := [(2, .int (vm_bi (f_X0_isUrgent rq fr p1))), (0, .ref h0), (1, .int p1)]) hx hb dX0_settle_5 rfl hl (by decide) rfl (fun ls hl => ?_)
  refine lv_aload_n hx hb dX0_settle_6 rfl (lv_at hl 1 rfl) ?_
  refine va_get (D := (dC, dI)) (ci := 0) (v := .ref h4) (C := RX0) (T := TX0) (N := 12) hx hb hts iwsX00 hown hK hP 0 rfl rfl 1 (by decide) kw1 (fun _ h9 => h9) rfl dX0_settle_7 ?_
  refine lv_iload_n hx hb dX0_settle_10 rfl (lv_at hl 2 rfl) ?_
  refine lv_iconst (v := 0) hx hb dX0_settle_11 (by decide) ?_
  refine vm_roVx (v := (f_X3_get 6 rq 36 fr p1 0)) (As := [.int p1, .int 0]) (rest := []) (T := TX3) (N := 4) (wc := [(h4, .inr (3, [.ref h5, .int 6, .int 6, .int rq])), (h5, .inl (cI, 36, .inl fr))]) ⟨hx, hb, hml, hown, hts⟩ hK hN hP hl.1 ⟨Nat.le_of_ble_eq_true rfl, Nat.le_of_ble_eq_true rfl⟩ (c_X3_get l dC dI cI cB h4 h5 6 6 rq 36 fr p1 0 (by decide)) (cwV 2 hts gX0_settle_X3_get rfl rfl rfl yd_X3_get ⟨Nat.le_of_ble_eq_true rfl, Nat.le_of_ble_eq_true rfl⟩) [4, 5] rfl 3 rfl rfl rfl rfl (Nat.le_of_ble_eq_true rfl) dX0_settle_12 ?_
  refine lv_istore_n (lv' := [(3, .int (f_X3_get 6 rq 36 fr p1 0)), (2, .int (vm_bi (f_X0_isUrgent rq fr p1))), (0, .ref h0), (1, .int p1)]) hx hb dX0_settle_15 rfl hl (by decide) rfl (fun ls hl => ?_)
  refine lv_aload_n hx hb dX0_settle_16 rfl (lv_at hl 2 rfl) ?_
  refine lv_iload_n hx hb dX0_settle_17 rfl (lv_at hl 3 rfl) ?_
  refine vm_rwV (As := [.int p1]) (rest := []) (T := TX0) (N := 12) (wc := [(h0, .inr (0, [.ref h1, .ref h4, .ref h6, .int day, .int grace, .int longest, .int spent, .int spentIn, .int spendings, .int urgentSp, .int dropped, .int lapsedLate])), (h1, .inr (2, [.ref h2])), (h2, .inr (3, [.ref h3, .int 12, .int 8, .int rm])), (h3, .inl (cI, 96, .inl fm)), (h4, .inr (3, [.ref h5, .int 6, .int 6, .int rq])), (h5, .inl (cI, 36, .inl fr)), (h6, .inl (cI, 8, .inl ap))]) (w1 := [(h0, .inr (0, [.ref h1, .ref h4, .ref h6, .int day, .int grace, .int longest, .int spent, .int spentIn, .int spendings, .int urgentSp, .int dropped, .int lapsedLate])), (h1, .inr (2, [.ref h2])), (h2, .inr (3, [.ref h3, .int 12, .int 8, .int rm])), (h3, .inl (cI, 96, .inl fm)), (h4, .inr (3, [.ref h5, .int 6, .int 6, .int ((f_X0_removeRequest rq fr p1).2.1)])), (h5, .inl (cI, 36, .inl ((f_X0_removeRequest rq fr p1).2.2))), (h6, .inl (cI, 8, .inl ap))]) ⟨hx, hb, hml, hown, hts⟩ hK hN hP hD hS hA hl.1 ⟨Nat.le_of_ble_eq_true rfl, Nat.le_of_ble_eq_true rfl⟩ (c_X0_removeRequest l dC dI cI cB h0 h1 h2 h3 h4 h5 h6 _ rm fm rq fr ap day grace longest spent spentIn spendings urgentSp dropped lapsedLate p1) (cwV 1 hts gX0_settle_X0_removeRequest rfl rfl rfl yd_X0_removeRequest ⟨Nat.le_of_ble_eq_true rfl, Nat.le_of_ble_eq_true rfl⟩) [0, 1, 2, 3, 4, 5, 6] rfl rfl rfl 0 rfl rfl rfl rfl (Nat.le_of_ble_eq_true rfl) dX0_settle_18 (fun r21 H locs hw hP hD hS => ?_)
  have hP : va_P (dC, dI) vwCl [(h0, .inr (0, [.ref h1, .ref h4, .ref h6, .int day, .int grace, .int longest, .int spent, .int spentIn, .int spendings, .int urgentSp, .int dropped, .int lapsedLate])), (h1, .inr (2, [.ref h2])), (h2, .inr (3, [.ref h3, .int 12, .int 8, .int rm])), (h3, .inl (cI, 96, .inl fm)), (h4, .inr (3, [.ref h5, .int 6, .int 6, .int ((f_X0_removeRequest rq fr p1).2.1)])), (h5, .inl (cI, 36, .inl ((f_X0_removeRequest rq fr p1).2.2))), (h6, .inl (cI, 8, .inl ap))] H := hP
  have hD : va_D A [(h0, .inr (0, [.ref h1, .ref h4, .ref h6, .int day, .int grace, .int longest, .int spent, .int spentIn, .int spendings, .int urgentSp, .int dropped, .int lapsedLate])), (h1, .inr (2, [.ref h2])), (h2, .inr (3, [.ref h3, .int 12, .int 8, .int rm])), (h3, .inl (cI, 96, .inl fm)), (h4, .inr (3, [.ref h5, .int 6, .int 6, .int ((f_X0_removeRequest rq fr p1).2.1)])), (h5, .inl (cI, 36, .inl ((f_X0_removeRequest rq fr p1).2.2))), (h6, .inl (cI, 8, .inl ap))] := hD
  obtain ⟨y21, ey21⟩ : ∃ z, z = (f_X0_removeRequest rq fr p1).1 := ⟨_, rfl⟩
  obtain rfl : y21 = r21 := (hw.trans ey21.symm).symm
  obtain ⟨rq_c21, erq_c21⟩ : ∃ z, z = (f_X0_removeRequest rq fr p1).2.1 := ⟨_, rfl⟩
  rw [← erq_c21] at hP hD
  obtain ⟨fr_c21, efr_c21⟩ : ∃ z, z = (f_X0_removeRequest rq fr p1).2.2 := ⟨_, rfl⟩
  rw [← efr_c21] at hP hD
  have eF : rr = f_X0_settle_c21 rm fm rq fr spent spentIn spendings dropped p1 y21 rq_c21 fr_c21 := eF.trans (by rw [f_X0_settle, ey21, erq_c21, efr_c21])
  refine lv_istore (lv' := [(4, .int y21), (3, .int (f_X3_get 6 rq 36 fr p1 0)), (2, .int (vm_bi (f_X0_isUrgent rq fr p1))), (0, .ref h0), (1, .int p1)]) hx hb dX0_settle_21 hl (by decide) rfl (fun ls hl => ?_)
  refine lv_iload_n hx hb dX0_settle_23 rfl (lv_at hl 2 rfl) ?_
  refine lv_if_eq (tgt := 29) hx hb dX0_settle_24 (by decide) (fun c_1 => ?_) (fun c_1 => ?_)
  · refine lv_aload_n hx hb dX0_settle_29 rfl (lv_at hl 3 rfl) ?_
    refine va_get (D := (dC, dI)) (ci := 0) (v := .ref h1) (C := RX0) (T := TX0) (N := 12) hx hb hts iwsX00 hown hK hP 0 rfl rfl 0 (by decide) kw2 (fun _ h9 => h9) rfl dX0_settle_30 ?_
    refine lv_iload_n hx hb dX0_settle_33 rfl (lv_at hl 1 rfl) ?_
    refine lv_iload hx hb dX0_settle_34 (lv_at hl 0 rfl) ?_
    refine vm_roVx (v := (f_X2_refusal rm fm (f_X3_get 6 rq 36 fr p1 0) y21)) (As := [.int (f_X3_get 6 rq 36 fr p1 0), .int y21]) (rest := []) (T := TX2) (N := 1) (wc := [(h1, .inr (2, [.ref h2])), (h2, .inr (3, [.ref h3, .int 12, .int 8, .int rm])), (h3, .inl (cI, 96, .inl fm))]) ⟨hx, hb, hml, hown, hts⟩ hK hN hP hl.1 ⟨Nat.le_of_ble_eq_true rfl, Nat.le_of_ble_eq_true rfl⟩ (c_X2_refusal l dC dI cI cB h1 h2 h3 rm fm (f_X3_get 6 rq 36 fr p1 0) y21) (cwV 2 hts gX0_settle_X2_refusal rfl rfl rfl yd_X2_refusal ⟨Nat.le_of_ble_eq_true rfl, Nat.le_of_ble_eq_true rfl⟩) [1, 2, 3] rfl 2 rfl rfl rfl rfl (Nat.le_of_ble_eq_true rfl) dX0_settle_36 ?_
    refine lv_if_eq (tgt := 54) hx hb dX0_settle_39 (by decide) (fun c_2 => ?_) (fun c_2 => ?_)
    · refine lv_aload_n hx hb dX0_settle_54 rfl (lv_at hl 3 rfl) ?_
      refine lv_iload_n hx hb dX0_settle_55 rfl (lv_at hl 1 rfl) ?_
      refine lv_iload hx hb dX0_settle_56 (lv_at hl 0 rfl) ?_
      refine vm_rwVv (As := [.int (f_X3_get 6 rq 36 fr p1 0), .int y21]) (rest := []) (T := TX0) (N := 12) (wc := [(h0, .inr (0, [.ref h1, .ref h4, .ref h6, .int day, .int grace, .int longest, .int spent, .int spentIn, .int spendings, .int urgentSp, .int dropped, .int lapsedLate])), (h1, .inr (2, [.ref h2])), (h2, .inr (3, [.ref h3, .int 12, .int 8, .int rm])), (h3, .inl (cI, 96, .inl fm)), (h4, .inr (3, [.ref h5, .int 6, .int 6, .int rq_c21])), (h5, .inl (cI, 36, .inl fr_c21)), (h6, .inl (cI, 8, .inl ap))]) (w1 := [(h0, .inr (0, [.ref h1, .ref h4, .ref h6, .int day, .int grace, .int longest, .int ((f_X0_makeSpending rm fm spent spentIn spendings (f_X3_get 6 rq 36 fr p1 0) y21).1), .int ((f_X0_makeSpending rm fm spent spentIn spendings (f_X3_get 6 rq 36 fr p1 0) y21).2.1), .int ((f_X0_makeSpending rm fm spent spentIn spendings (f_X3_get 6 rq 36 fr p1 0) y21).2.2.1), .int urgentSp, .int dropped, .int lapsedLate])), (h1, .inr (2, [.ref h2])), (h2, .inr (3, [.ref h3, .int 12, .int 8, .int rm])), (h3, .inl (cI, 96, .inl ((f_X0_makeSpending rm fm spent spentIn spendings (f_X3_get 6 rq 36 fr p1 0) y21).2.2.2))), (h4, .inr (3, [.ref h5, .int 6, .int 6, .int rq_c21])), (h5, .inl (cI, 36, .inl fr_c21)), (h6, .inl (cI, 8, .inl ap))]) ⟨hx, hb, hml, hown, hts⟩ hK hN hP hD hS hA hl.1 ⟨Nat.le_of_ble_eq_true rfl, Nat.le_of_ble_eq_true rfl⟩ (c_X0_makeSpending l dC dI cI cB h0 h1 h2 h3 h4 h5 h6 _ rm fm rq_c21 fr_c21 ap day grace longest spent spentIn spendings urgentSp dropped lapsedLate (f_X3_get 6 rq 36 fr p1 0) y21) (cwV 2 hts gX0_settle_X0_makeSpending rfl rfl rfl yd_X0_makeSpending ⟨Nat.le_of_ble_eq_true rfl, Nat.le_of_ble_eq_true rfl⟩) [0, 1, 2, 3, 4, 5, 6] rfl rfl rfl 0 rfl rfl rfl rfl (Nat.le_of_ble_eq_true rfl) dX0_settle_58 (fun H locs hP hD hS => ?_)
      have hP : va_P (dC, dI) vwCl [(h0, .inr (0, [.ref h1, .ref h4, .ref h6, .int day, .int grace, .int longest, .int ((f_X0_makeSpending rm fm spent spentIn spendings (f_X3_get 6 rq 36 fr p1 0) y21).1), .int ((f_X0_makeSpending rm fm spent spentIn spendings (f_X3_get 6 rq 36 fr p1 0) y21).2.1), .int ((f_X0_makeSpending rm fm spent spentIn spendings (f_X3_get 6 rq 36 fr p1 0) y21).2.2.1), .int urgentSp, .int dropped, .int lapsedLate])), (h1, .inr (2, [.ref h2])), (h2, .inr (3, [.ref h3, .int 12, .int 8, .int rm])), (h3, .inl (cI, 96, .inl ((f_X0_makeSpending rm fm spent spentIn spendings (f_X3_get 6 rq 36 fr p1 0) y21).2.2.2))), (h4, .inr (3, [.ref h5, .int 6, .int 6, .int rq_c21])), (h5, .inl (cI, 36, .inl fr_c21)), (h6, .inl (cI, 8, .inl ap))] H := hP
      have hD : va_D A [(h0, .inr (0, [.ref h1, .ref h4, .ref h6, .int day, .int grace, .int longest, .int ((f_X0_makeSpending rm fm spent spentIn spendings (f_X3_get 6 rq 36 fr p1 0) y21).1), .int ((f_X0_makeSpending rm fm spent spentIn spendings (f_X3_get 6 rq 36 fr p1 0) y21).2.1), .int ((f_X0_makeSpending rm fm spent spentIn spendings (f_X3_get 6 rq 36 fr p1 0) y21).2.2.1), .int urgentSp, .int dropped, .int lapsedLate])), (h1, .inr (2, [.ref h2])), (h2, .inr (3, [.ref h3, .int 12, .int 8, .int rm])), (h3, .inl (cI, 96, .inl ((f_X0_makeSpending rm fm spent spentIn spendings (f_X3_get 6 rq 36 fr p1 0) y21).2.2.2))), (h4, .inr (3, [.ref h5, .int 6, .int 6, .int rq_c21])), (h5, .inl (cI, 36, .inl fr_c21)), (h6, .inl (cI, 8, .inl ap))] := hD
      obtain ⟨spent_c61, espent_c61⟩ : ∃ z, z = (f_X0_makeSpending rm fm spent spentIn spendings (f_X3_get 6 rq 36 fr p1 0) y21).1 := ⟨_, rfl⟩
      rw [← espent_c61] at hP hD
      obtain ⟨spentIn_c61, espentIn_c61⟩ : ∃ z, z = (f_X0_makeSpending rm fm spent spentIn spendings (f_X3_get 6 rq 36 fr p1 0) y21).2.1 := ⟨_, rfl⟩
      rw [← espentIn_c61] at hP hD
      obtain ⟨spendings_c61, espendings_c61⟩ : ∃ z, z = (f_X0_makeSpending rm fm spent spentIn spendings (f_X3_get 6 rq 36 fr p1 0) y21).2.2.1 := ⟨_, rfl⟩
      rw [← espendings_c61] at hP hD
      obtain ⟨fm_c61, efm_c61⟩ : ∃ z, z = (f_X0_makeSpending rm fm spent spentIn spendings (f_X3_get 6 rq 36 fr p1 0) y21).2.2.2 := ⟨_, rfl⟩
      rw [← efm_c61] at hP hD
      have eF : rr = f_X0_settle_c61 dropped rq_c21 fr_c21 spent_c61 spentIn_c61 spendings_c61 fm_c61 := eF.trans (by rw [f_X0_settle_c21, if_pos c_1, if_pos c_2, espent_c61, espentIn_c61, espendings_c61, efm_c61])
      refine lv_iconst (v := 1) hx hb dX0_settle_61 (by decide) ?_
      have e9 : rr = (1, dropped, spent_c61, spentIn_c61, spendings_c61, fm_c61, rq_c21, fr_c21) := eF.trans (by rw [f_X0_settle_c61])
      exact W.iret (v := 1) hx hb hr (fun t ht hW => ⟨⟨_, (), rfl, by rw [e9], (by rw [e9]; show va_P _ _ _ t.heap; rw [ht]; exact hP)⟩, hS.F ht⟩) hS.2.2 dX0_settle_62
    · refine lv_aload_n hx hb dX0_settle_42 rfl (lv_at hl 3 rfl) ?_
      refine lv_dup hx hb dX0_settle_43 rfl ?_
      refine va_get (D := (dC, dI)) (ci := 0) (v := .int dropped) (C := RX0) (T := TX0) (N := 12) hx hb hts iwsX00 hown hK hP 0 rfl rfl 10 (by decide) kw3 (fun _ h9 => h9) rfl dX0_settle_44 ?_
      refine lv_iconst (v := 1) hx hb dX0_settle_47 (by decide) ?_
      refine lv_iadd hx hb dX0_settle_48 ?_
      refine va_put (D := (dC, dI)) (ci := 0) (v := .int (dropped + 1)) (ty := .int) (C := RX0) (T := TX0) (N := 12) hx hb hts iwsX00 tyX0 tyX0_ok nmX0 hown hK hP hD hS 0 rfl rfl 10 (by decide) kw3 (fun _ h9 => h9) rfl (by decide +kernel) rfl rfl (Nat.le_of_ble_eq_true rfl) dX0_settle_49 (fun H locs hP hD hS => ?_)
      have hP : va_P (dC, dI) vwCl [(h0, .inr (0, [.ref h1, .ref h4, .ref h6, .int day, .int grace, .int longest, .int spent, .int spentIn, .int spendings, .int urgentSp, .int (dropped + 1), .int lapsedLate])), (h1, .inr (2, [.ref h2])), (h2, .inr (3, [.ref h3, .int 12, .int 8, .int rm])), (h3, .inl (cI, 96, .inl fm)), (h4, .inr (3, [.ref h5, .int 6, .int 6, .int rq_c21])), (h5, .inl (cI, 36, .inl fr_c21)), (h6, .inl (cI, 8, .inl ap))] H := hP
      have hD : va_D A [(h0, .inr (0, [.ref h1, .ref h4, .ref h6, .int day, .int grace, .int longest, .int spent, .int spentIn, .int spendings, .int urgentSp, .int (dropped + 1), .int lapsedLate])), (h1, .inr (2, [.ref h2])), (h2, .inr (3, [.ref h3, .int 12, .int 8, .int rm])), (h3, .inl (cI, 96, .inl fm)), (h4, .inr (3, [.ref h5, .int 6, .int 6, .int rq_c21])), (h5, .inl (cI, 36, .inl fr_c21)), (h6, .inl (cI, 8, .inl ap))] := hD
      refine lv_iconst (v := 2) hx hb dX0_settle_52 (by decide) ?_
      have e9 : rr = (2, (dropped + 1), spent, spentIn, spendings, fm, rq_c21, fr_c21) := eF.trans (by rw [f_X0_settle_c21, if_pos c_1, if_neg c_2])
      exact W.iret (v := 2) hx hb hr (fun t ht hW => ⟨⟨_, (), rfl, by rw [e9], (by rw [e9]; show va_P _ _ _ t.heap; rw [ht]; exact hP)⟩, hS.F ht⟩) hS.2.2 dX0_settle_53
  · refine lv_iconst (v := 1) hx hb dX0_settle_27 (by decide) ?_
    have e9 : rr = (1, dropped, spent, spentIn, spendings, fm, rq_c21, fr_c21) := eF.trans (by rw [f_X0_settle_c21, if_neg c_1])
    exact W.iret (v := 1) hx hb hr (fun t ht hW => ⟨⟨_, (), rfl, by rw [e9], (by rw [e9]; show va_P _ _ _ t.heap; rw [ht]; exact hP)⟩, hS.F ht⟩) hS.2.2 dX0_settle_28

def f_X0_addApproval_c70 (ap_23 : Nat → Int32) (y70 : Int32) (dropped_c70 : Int32) (spent_c70 : Int32) (spentIn_c70 : Int32) (spendings_c70 : Int32) (fm_c70 : Nat → Int32) (rq_c70 : Int32) (fr_c70 : Nat → Int32) : Int32 × Int32 × Int32 × Int32 × Int32 × (Nat → Int32) × Int32 × (Nat → Int32) × (Nat → Int32) :=
  (y70, dropped_c70, spent_c70, spentIn_c70, spendings_c70, fm_c70, rq_c70, fr_c70, ap_23)
def f_X0_addApproval_c47 (rm : Int32) (fm : Nat → Int32) (rq : Int32) (fr : Nat → Int32) (spent : Int32) (spentIn : Int32) (spendings : Int32) (dropped : Int32) (p1 : Int32) (p2 : Int32) (ap_23 : Nat → Int32) (fr_c47 : Nat → Int32) : Int32 × Int32 × Int32 × Int32 × Int32 × (Nat → Int32) × Int32 × (Nat → Int32) × (Nat → Int32) :=
  if (f_X3_get 6 rq 36 fr_c47 p1 4) ≤ (f_J6_bitCount_0f7a4 ((f_X3_get 6 rq 36 fr p1 5) ||| (1 <<< (p2 &&& 31)))) then
    f_X0_addApproval_c70 ap_23 ((f_X0_settle rm fm rq fr_c47 spent spentIn spendings dropped p1).1) ((f_X0_settle rm fm rq fr_c47 spent spentIn spendings dropped p1).2.1) ((f_X0_settle rm fm rq fr_c47 spent spentIn spendings dropped p1).2.2.1) ((f_X0_settle rm fm rq fr_c47 spent spentIn spendings dropped p1).2.2.2.1) ((f_X0_settle rm fm rq fr_c47 spent spentIn spendings dropped p1).2.2.2.2.1) ((f_X0_settle rm fm rq fr_c47 spent spentIn spendings dropped p1).2.2.2.2.2.1) ((f_X0_settle rm fm rq fr_c47 spent spentIn spendings dropped p1).2.2.2.2.2.2.1) ((f_X0_settle rm fm rq fr_c47 spent spentIn spendings dropped p1).2.2.2.2.2.2.2)
  else
    (0, dropped, spent, spentIn, spendings, fm, rq, fr_c47, ap_23)
def f_X0_addApproval_j23 (rm : Int32) (fm : Nat → Int32) (rq : Int32) (fr : Nat → Int32) (spent : Int32) (spentIn : Int32) (spendings : Int32) (dropped : Int32) (p1 : Int32) (p2 : Int32) (ap_23 : Nat → Int32) : Int32 × Int32 × Int32 × Int32 × Int32 × (Nat → Int32) × Int32 × (Nat → Int32) × (Nat → Int32) :=
  f_X0_addApproval_c47 rm fm rq fr spent spentIn spendings dropped p1 p2 ap_23 (f_X3_put 6 rq 36 fr p1 5 ((f_X3_get 6 rq 36 fr p1 5) ||| (1 <<< (p2 &&& 31))))
def f_X0_addApproval (rm : Int32) (fm : Nat → Int32) (rq : Int32) (fr : Nat → Int32) (ap : Nat → Int32) (spent : Int32) (spentIn : Int32) (spendings : Int32) (dropped : Int32) (p1 : Int32) (p2 : Int32) : Int32 × Int32 × Int32 × Int32 × Int32 × (Nat → Int32) × Int32 × (Nat → Int32) × (Nat → Int32) :=
  if p2 < 0 then
    f_X0_addApproval_j23 rm fm rq fr spent spentIn spendings dropped p1 p2 ap
  else
    if 8 ≤ p2 then
      f_X0_addApproval_j23 rm fm rq fr spent spentIn spendings dropped p1 p2 ap
    else
      f_X0_addApproval_j23 rm fm rq fr spent spentIn spendings dropped p1 p2 (upd ap (Int32.toNatClampNeg p2) ((ap (Int32.toNatClampNeg p2)) + 1))
theorem yd_X0_addApproval : yX0_addApproval.cls = RX0 ∧ yX0_addApproval.cls ≠ "java/lang/invoke/MethodHandle" ∧ yX0_addApproval.cls ≠ "java/lang/invoke/VarHandle" ∧ (parseMethodDescriptor yX0_addApproval.desc).map (fun d => d.parameters.length) = some 2 := by decide +kernel
set_option maxHeartbeats 4000000 in
set_option maxRecDepth 100000 in
theorem c_X0_addApproval (l : Launch) (dC : Nat → ClassId) (dI : Nat → Nat → Nat) (cI cB : ClassId) (h0 h1 h2 h3 h4 h5 h6 : Nat) (sz : Nat) (rm : Int32) (fm : Nat → Int32) (rq : Int32) (fr : Nat → Int32) (ap : Nat → Int32) (day : Int32) (grace : Int32) (longest : Int32) (spent : Int32) (spentIn : Int32) (spendings : Int32) (urgentSp : Int32) (dropped : Int32) (lapsedLate : Int32) (p1 : Int32) (p2 : Int32) : Met l yX0_addApproval wsX0_addApproval ({ frames := 5, cells := 0, slots := 0, locals := 114 }) (vm_prw [.ref h0, .int p1, .int p2] (dC, dI) [(h0, .inr (0, [.ref h1, .ref h4, .ref h6, .int day, .int grace, .int longest, .int spent, .int spentIn, .int spendings, .int urgentSp, .int dropped, .int lapsedLate])), (h1, .inr (2, [.ref h2])), (h2, .inr (3, [.ref h3, .int 12, .int 8, .int rm])), (h3, .inl (cI, 96, .inl fm)), (h4, .inr (3, [.ref h5, .int 6, .int 6, .int rq])), (h5, .inl (cI, 36, .inl fr)), (h6, .inl (cI, 8, .inl ap))] cI cB sz) (va_Qi (fun (r9 : Int32) (_ : Unit) => r9 = (f_X0_addApproval rm fm rq fr ap spent spentIn spendings dropped p1 p2).1) (fun _ t => va_P (dC, dI) vwCl [(h0, .inr (0, [.ref h1, .ref h4, .ref h6, .int day, .int grace, .int longest, .int ((f_X0_addApproval rm fm rq fr ap spent spentIn spendings dropped p1 p2).2.2.1), .int ((f_X0_addApproval rm fm rq fr ap spent spentIn spendings dropped p1 p2).2.2.2.1), .int ((f_X0_addApproval rm fm rq fr ap spent spentIn spendings dropped p1 p2).2.2.2.2.1), .int urgentSp, .int ((f_X0_addApproval rm fm rq fr ap spent spentIn spendings dropped p1 p2).2.1), .int lapsedLate])), (h1, .inr (2, [.ref h2])), (h2, .inr (3, [.ref h3, .int 12, .int 8, .int rm])), (h3, .inl (cI, 96, .inl ((f_X0_addApproval rm fm rq fr ap spent spentIn spendings dropped p1 p2).2.2.2.2.2.1))), (h4, .inr (3, [.ref h5, .int 6, .int 6, .int ((f_X0_addApproval rm fm rq fr ap spent spentIn spendings dropped p1 p2).2.2.2.2.2.2.1)])), (h5, .inl (cI, 36, .inl ((f_X0_addApproval rm fm rq fr ap spent spentIn spendings dropped p1 p2).2.2.2.2.2.2.2.1))), (h6, .inl (cI, 8, .inl ((f_X0_addApproval rm fm rq fr ap spent spentIn spendings dropped p1 p2).2.2.2.2.2.2.2.2)))] t.heap) (va_A [(h0, .inr (0, [.ref h1, .ref h4, .ref h6, .int day, .int grace, .int longest, .int spent, .int spentIn, .int spendings, .int urgentSp, .int dropped, .int lapsedLate])), (h1, .inr (2, [.ref h2])), (h2, .inr (3, [.ref h3, .int 12, .int 8, .int rm])), (h3, .inl (cI, 96, .inl fm)), (h4, .inr (3, [.ref h5, .int 6, .int 6, .int rq])), (h5, .inl (cI, 36, .inl fr)), (h6, .inl (cI, 8, .inl ap))] sz)) 0 0 (va_A [(h0, .inr (0, [.ref h1, .ref h4, .ref h6, .int day, .int grace, .int longest, .int spent, .int spentIn, .int spendings, .int urgentSp, .int dropped, .int lapsedLate])), (h1, .inr (2, [.ref h2])), (h2, .inr (3, [.ref h3, .int 12, .int 8, .int rm])), (h3, .inl (cI, 96, .inl fm)), (h4, .inr (3, [.ref h5, .int 6, .int 6, .int rq])), (h5, .inl (cI, 36, .inl fr)), (h6, .inl (cI, 8, .inl ap))] sz) := by
  refine Met.ofW (cc := cX0_addApproval) (maxL := 4) (ret := (some .int)) (by decide) rfl ?_
  intro p e s m args below meth c s₁ B hml hv
  obtain ⟨rfl, hsz, hP, hK, hN, hD0⟩ := hv
  have hx := B.exec
  have hb := B.bytes
  have hr := B.returns
  have hts := atoms_spec (ws := wsX0_addApproval) B.pre
  have hown : s.vm.findClass RX0 = some m.cls := findClass_of_methodNamed B.named
  have hlocks := B.notSynchronized
  subst hsz
  have hD := hD0.self (sz := s.heap.size)
  generalize hAe : va_A [(h0, .inr (0, [.ref h1, .ref h4, .ref h6, .int day, .int grace, .int longest, .int spent, .int spentIn, .int spendings, .int urgentSp, .int dropped, .int lapsedLate])), (h1, .inr (2, [.ref h2])), (h2, .inr (3, [.ref h3, .int 12, .int 8, .int rm])), (h3, .inl (cI, 96, .inl fm)), (h4, .inr (3, [.ref h5, .int 6, .int 6, .int rq])), (h5, .inl (cI, 36, .inl fr)), (h6, .inl (cI, 8, .inl ap))] s.heap.size = A at hD ⊢
  have hA : ∀ q : Nat, s.heap.size ≤ q → A q := fun q h => by rw [← hAe]; exact Or.inr h
  have hS : va_S A s.heap s.heap [] := va_S.rf
  have hP : va_P (dC, dI) vwCl [(h0, .inr (0, [.ref h1, .ref h4, .ref h6, .int day, .int grace, .int longest, .int spent, .int spentIn, .int spendings, .int urgentSp, .int dropped, .int lapsedLate])), (h1, .inr (2, [.ref h2])), (h2, .inr (3, [.ref h3, .int 12, .int 8, .int rm])), (h3, .inl (cI, 96, .inl fm)), (h4, .inr (3, [.ref h5, .int 6, .int 6, .int rq])), (h5, .inl (cI, 36, .inl fr)), (h6, .inl (cI, 8, .inl ap))] s.heap := hP
  have kw1 := hts (.fieldLink RX0 27 "LapseMandates$Book" "approvals" "[I") (List.mem_of_getElem? (i := 1) rfl)
  have kw2 := hts (.fieldLink RX0 23 "LapseMandates$Book" "requests" "LLapseMandates$Table;") (List.mem_of_getElem? (i := 2) rfl)
  have iwsX00 : ∀ w ∈ wsX00, w ∈ wsX0_addApproval := fun w h => List.mem_cons_of_mem _ (List.mem_append_left _ (List.mem_append_left _ (List.mem_append_right _ h)))
  generalize hrr : f_X0_addApproval rm fm rq fr ap spent spentIn spendings dropped p1 p2 = rr
  have eF := hrr.symm
  have hl := lv_entry ([.ref h0, .int p1, .int p2]) (n := 4) (Nat.le_of_ble_eq_true rfl)
  rw [lg_entry_eq]
  generalize (lg_sl ([.ref h0, .int p1, .int p2]) ++ List.replicate (4 - (lg_sl ([.ref h0, .int p1, .int p2])).length) Slot.unset).toArray = ls at hl ⊢
  have hl : lv_has ls 4 [(0, .ref h0), (1, .int p1), (2, .int p2)] := hl
  have hJ23 : ∀ (ap_23 : Nat → Int32), rr = f_X0_addApproval_j23 rm fm rq fr spent spentIn spendings dropped p1 p2 ap_23 → ∀ (H : Heap) (locs : List Loc), va_P (dC, dI) vwCl [(h0, .inr (0, [.ref h1, .ref h4, .ref h6, .int day, .int grace, .int longest, .int spent, .int spentIn, .int spendings, .int urgentSp, .int dropped, .int lapsedLate])), (h1, .inr (2, [.ref h2])), (h2, .inr (3, [.ref h3, .int 12, .int 8, .int rm])), (h3, .inl (cI, 96, .inl fm)), (h4, .inr (3, [.ref h5, .int 6, .int 6, .int rq])), (h5, .inl (cI, 36, .inl fr)), (h6, .inl (cI, 8, .inl ap_23))] H → va_D A [(h0, .inr (0, [.ref h1, .ref h4, .ref h6, .int day, .int grace, .int longest, .int spent, .int spentIn, .int spendings, .int urgentSp, .int dropped, .int lapsedLate])), (h1, .inr (2, [.ref h2])), (h2, .inr (3, [.ref h3, .int 12, .int 8, .int rm])), (h3, .inl (cI, 96, .inl fm)), (h4, .inr (3, [.ref h5, .int 6, .int 6, .int rq])), (h5, .inl (cI, 36, .inl fr)), (h6, .inl (cI, 8, .inl ap_23))] → va_S A s.heap H locs → ∀ (ls : Array Slot), lv_has ls 4 [(0, .ref h0), (1, .int p1), (2, .int p2)] → W p l e (headSpec wsX0_addApproval ({ frames := 5, cells := 0, slots := 0, locals := 114 })).room s m ([.ref h0, .int p1, .int p2] : List Value).toArray below meth c H locs 0 0 (MQ below (va_Qi (fun (r9 : Int32) (_ : Unit) => r9 = rr.1) (fun _ t => va_P (dC, dI) vwCl [(h0, .inr (0, [.ref h1, .ref h4, .ref h6, .int day, .int grace, .int longest, .int rr.2.2.1, .int rr.2.2.2.1, .int rr.2.2.2.2.1, .int urgentSp, .int rr.2.1, .int lapsedLate])), (h1, .inr (2, [.ref h2])), (h2, .inr (3, [.ref h3, .int 12, .int 8, .int rm])), (h3, .inl (cI, 96, .inl rr.2.2.2.2.2.1)), (h4, .inr (3, [.ref h5, .int 6, .int 6, .int rr.2.2.2.2.2.2.1])), (h5, .inl (cI, 36, .inl rr.2.2.2.2.2.2.2.1)), (h6, .inl (cI, 8, .inl rr.2.2.2.2.2.2.2.2))] t.heap) A) ([.ref h0, .int p1, .int p2] : List Value).toArray s 0 0 A) (F0 m 23 ls []) := by
    intro ap_23 eF H locs hP hD hS ls hl
    refine lv_aload_n hx hb dX0_addApproval_23 rfl (lv_at hl 0 rfl) ?_
    refine va_get (D := (dC, dI)) (ci := 0) (v := .ref h4) (C := RX0) (T := TX0) (N := 12) hx hb hts iwsX00 hown hK hP 0 rfl rfl 1 (by decide) kw2 (fun _ h9 => h9) rfl dX0_addApproval_24 ?_
    refine lv_iload_n hx hb dX0_addApproval_27 rfl (lv_at hl 1 rfl) ?_
    refine lv_iconst (v := 5) hx hb dX0_addApproval_28 (by decide) ?_
    refine vm_roVx (v := (f_X3_get 6 rq 36 fr p1 5)) (As := [.int p1, .int 5]) (rest := []) (T := TX3) (N := 4) (wc := [(h4, .inr (3, [.ref h5, .int 6, .int 6, .int rq])), (h5, .inl (cI, 36, .inl fr))]) ⟨hx, hb, hml, hown, hts⟩ hK hN hP hl.1 ⟨Nat.le_of_ble_eq_true rfl, Nat.le_of_ble_eq_true rfl⟩ (c_X3_get l dC dI cI cB h4 h5 6 6 rq 36 fr p1 5 (by decide)) (cwV 2 hts gX0_addApproval_X3_get rfl rfl rfl yd_X3_get ⟨Nat.le_of_ble_eq_true rfl, Nat.le_of_ble_eq_true rfl⟩) [4, 5] rfl 3 rfl rfl rfl rfl (Nat.le_of_ble_eq_true rfl) dX0_addApproval_29 ?_
    refine lv_iconst (v := 1) hx hb dX0_addApproval_32 (by decide) ?_
    refine lv_iload_n hx hb dX0_addApproval_33 rfl (lv_at hl 2 rfl) ?_
    refine lv_ishl hx hb dX0_addApproval_34 ?_
    refine lv_ior hx hb dX0_addApproval_35 ?_
    refine lv_istore_n (lv' := [(3, .int ((f_X3_get 6 rq 36 fr p1 5) ||| (1 <<< (p2 &&& 31)))), (0, .ref h0), (1, .int p1), (2, .int p2)]) hx hb dX0_addApproval_36 rfl hl (by decide) rfl (fun ls hl => ?_)
    refine lv_aload_n hx hb dX0_addApproval_37 rfl (lv_at hl 1 rfl) ?_
    refine va_get (D := (dC, dI)) (ci := 0) (v := .ref h4) (C := RX0) (T := TX0) (N := 12) hx hb hts iwsX00 hown hK hP 0 rfl rfl 1 (by decide) kw2 (fun _ h9 => h9) rfl dX0_addApproval_38 ?_
    refine lv_iload_n hx hb dX0_addApproval_41 rfl (lv_at hl 2 rfl) ?_
    refine lv_iconst (v := 5) hx hb dX0_addApproval_42 (by decide) ?_
    refine lv_iload_n hx hb dX0_addApproval_43 rfl (lv_at hl 0 rfl) ?_
    refine vm_rwVv (As := [.int p1, .int 5, .int ((f_X3_get 6 rq 36 fr p1 5) ||| (1 <<< (p2 &&& 31)))]) (rest := []) (T := TX3) (N := 4) (wc := [(h4, .inr (3, [.ref h5, .int 6, .int 6, .int rq])), (h5, .inl (cI, 36, .inl fr))]) (w1 := [(h4, .inr (3, [.ref h5, .int 6, .int 6, .int rq])), (h5, .inl (cI, 36, .inl (f_X3_put 6 rq 36 fr p1 5 ((f_X3_get 6 rq 36 fr p1 5) ||| (1 <<< (p2 &&& 31))))))]) ⟨hx, hb, hml, hown, hts⟩ hK hN hP hD hS hA hl.1 ⟨Nat.le_of_ble_eq_true rfl, Nat.le_of_ble_eq_true rfl⟩ (c_X3_put l dC dI cI cB h4 h5 _ 6 6 rq 36 fr p1 5 ((f_X3_get 6 rq 36 fr p1 5) ||| (1 <<< (p2 &&& 31))) (by decide)) (cwV 3 hts gX0_addApproval_X3_put rfl rfl rfl yd_X3_put ⟨Nat.le_of_ble_eq_true rfl, Nat.le_of_ble_eq_true rfl⟩) [4, 5] rfl rfl rfl 3 rfl rfl rfl rfl (Nat.le_of_ble_eq_true rfl) dX0_addApproval_44 (fun H locs hP hD hS => ?_)
    have hP : va_P (dC, dI) vwCl [(h0, .inr (0, [.ref h1, .ref h4, .ref h6, .int day, .int grace, .int longest, .int spent, .int spentIn, .int spendings, .int urgentSp, .int dropped, .int lapsedLate])), (h1, .inr (2, [.ref h2])), (h2, .inr (3, [.ref h3, .int 12, .int 8, .int rm])), (h3, .inl (cI, 96, .inl fm)), (h4, .inr (3, [.ref h5, .int 6, .int 6, .int rq])), (h5, .inl (cI, 36, .inl (f_X3_put 6 rq 36 fr p1 5 ((f_X3_get 6 rq 36 fr p1 5) ||| (1 <<< (p2 &&& 31)))))), (h6, .inl (cI, 8, .inl ap_23))] H := hP
    have hD : va_D A [(h0, .inr (0, [.ref h1, .ref h4, .ref h6, .int day, .int grace, .int longest, .int spent, .int spentIn, .int spendings, .int urgentSp, .int dropped, .int lapsedLate])), (h1, .inr (2, [.ref h2])), (h2, .inr (3, [.ref h3, .int 12, .int 8, .int rm])), (h3, .inl (cI, 96, .inl fm)), (h4, .inr (3, [.ref h5, .int 6, .int 6, .int rq])), (h5, .inl (cI, 36, .inl (f_X3_put 6 rq 36 fr p1 5 ((f_X3_get 6 rq 36 fr p1 5) ||| (1 <<< (p2 &&& 31)))))), (h6, .inl (cI, 8, .inl ap_23))] := hD
    obtain ⟨fr_c47, efr_c47⟩ : ∃ z, z = (f_X3_put 6 rq 36 fr p1 5 ((f_X3_get 6 rq 36 fr p1 5) ||| (1 <<< (p2 &&& 31)))) := ⟨_, rfl⟩
    rw [← efr_c47] at hP hD
    have eF : rr = f_X0_addApproval_c47 rm fm rq fr spent spentIn spendings dropped p1 p2 ap_23 fr_c47 := eF.trans (by rw [f_X0_addApproval_j23, efr_c47])
    refine lv_iload_n hx hb dX0_addApproval_47 rfl (lv_at hl 0 rfl) ?_
    refine vm_roSx (v := (f_J6_bitCount_0f7a4 ((f_X3_get 6 rq 36 fr p1 5) ||| (1 <<< (p2 &&& 31))))) (As := [.int ((f_X3_get 6 rq 36 fr p1 5) ||| (1 <<< (p2 &&& 31)))]) (rest := []) ⟨hx, hb, hml, hown, hts⟩ hK hN hP hl.1 ⟨Nat.le_of_ble_eq_true rfl, Nat.le_of_ble_eq_true rfl⟩ (c_J6_bitCount_0f7a4 l dC dI cI cB ((f_X3_get 6 rq 36 fr p1 5) ||| (1 <<< (p2 &&& 31)))) (va_cwS 1 hts gX0_addApproval_J6_bitCount_0f7a4 rfl rfl rfl yd_J6_bitCount_0f7a4 ⟨Nat.le_of_ble_eq_true rfl, Nat.le_of_ble_eq_true rfl⟩) rfl rfl (Nat.le_of_ble_eq_true rfl) dX0_addApproval_48 ?_
    refine lv_aload_n hx hb dX0_addApproval_51 rfl (lv_at hl 1 rfl) ?_
    refine va_get (D := (dC, dI)) (ci := 0) (v := .ref h4) (C := RX0) (T := TX0) (N := 12) hx hb hts iwsX00 hown hK hP 0 rfl rfl 1 (by decide) kw2 (fun _ h9 => h9) rfl dX0_addApproval_52 ?_
    refine lv_iload_n hx hb dX0_addApproval_55 rfl (lv_at hl 2 rfl) ?_
    refine lv_iconst (v := 4) hx hb dX0_addApproval_56 (by decide) ?_
    refine vm_roVx (v := (f_X3_get 6 rq 36 fr_c47 p1 4)) (As := [.int p1, .int 4]) (rest := [.int (f_J6_bitCount_0f7a4 ((f_X3_get 6 rq 36 fr p1 5) ||| (1 <<< (p2 &&& 31))))]) (T := TX3) (N := 4) (wc := [(h4, .inr (3, [.ref h5, .int 6, .int 6, .int rq])), (h5, .inl (cI, 36, .inl fr_c47))]) ⟨hx, hb, hml, hown, hts⟩ hK hN hP hl.1 ⟨Nat.le_of_ble_eq_true rfl, Nat.le_of_ble_eq_true rfl⟩ (c_X3_get l dC dI cI cB h4 h5 6 6 rq 36 fr_c47 p1 4 (by decide)) (cwV 2 hts gX0_addApproval_X3_get rfl rfl rfl yd_X3_get ⟨Nat.le_of_ble_eq_true rfl, Nat.le_of_ble_eq_true rfl⟩) [4, 5] rfl 3 rfl rfl rfl rfl (Nat.le_of_ble_eq_true rfl) dX0_addApproval_57 ?_
    refine lv_icmp_ge (tgt := 65) hx hb dX0_addApproval_60 (by decide) (fun c_1 => ?_) (fun c_1 => ?_)
    · refine lv_aload_n hx hb dX0_addApproval_65 rfl (lv_at hl 1 rfl) ?_
      refine lv_iload_n hx hb dX0_addApproval_66 rfl (lv_at hl 2 rfl) ?_
      refine vm_rwV (As := [.int p1]) (rest := []) (T := TX0) (N := 12) (wc := [(h0, .inr (0, [.ref h1, .ref h4, .ref h6, .int day, .int grace, .int longest, .int spent, .int spentIn, .int spendings, .int urgentSp, .int dropped, .int lapsedLate])), (h1, .inr (2, [.ref h2])), (h2, .inr (3, [.ref h3, .int 12, .int 8, .int rm])), (h3, .inl (cI, 96, .inl fm)), (h4, .inr (3, [.ref h5, .int 6, .int 6, .int rq])), (h5, .inl (cI, 36, .inl fr_c47)), (h6, .inl (cI, 8, .inl ap_23))]) (w1 := [(h0, .inr (0, [.ref h1, .ref h4, .ref h6, .int day, .int grace, .int longest, .int ((f_X0_settle rm fm rq fr_c47 spent spentIn spendings dropped p1).2.2.1), .int ((f_X0_settle rm fm rq fr_c47 spent spentIn spendings dropped p1).2.2.2.1), .int ((f_X0_settle rm fm rq fr_c47 spent spentIn spendings dropped p1).2.2.2.2.1), .int urgentSp, .int ((f_X0_settle rm fm rq fr_c47 spent spentIn spendings dropped p1).2.1), .int lapsedLate])), (h1, .inr (2, [.ref h2])), (h2, .inr (3, [.ref h3, .int 12, .int 8, .int rm])), (h3, .inl (cI, 96, .inl ((f_X0_settle rm fm rq fr_c47 spent spentIn spendings dropped p1).2.2.2.2.2.1))), (h4, .inr (3, [.ref h5, .int 6, .int 6, .int ((f_X0_settle rm fm rq fr_c47 spent spentIn spendings dropped p1).2.2.2.2.2.2.1)])), (h5, .inl (cI, 36, .inl ((f_X0_settle rm fm rq fr_c47 spent spentIn spendings dropped p1).2.2.2.2.2.2.2))), (h6, .inl (cI, 8, .inl ap_23))]) ⟨hx, hb, hml, hown, hts⟩ hK hN hP hD hS hA hl.1 ⟨Nat.le_of_ble_eq_true rfl, Nat.le_of_ble_eq_true rfl⟩ (c_X0_settle l dC dI cI cB h0 h1 h2 h3 h4 h5 h6 _ rm fm rq fr_c47 ap_23 day grace longest spent spentIn spendings urgentSp dropped lapsedLate p1) (cwV 1 hts gX0_addApproval_X0_settle rfl rfl rfl yd_X0_settle ⟨Nat.le_of_ble_eq_true rfl, Nat.le_of_ble_eq_true rfl⟩) [0, 1, 2, 3, 4, 5, 6] rfl rfl rfl 0 rfl rfl rfl rfl (Nat.le_of_ble_eq_true rfl) dX0_addApproval_67 (fun r70 H locs hw hP hD hS => ?_)
      have hP : va_P (dC, dI) vwCl [(h0, .inr (0, [.ref h1, .ref h4, .ref h6, .int day, .int grace, .int longest, .int ((f_X0_settle rm fm rq fr_c47 spent spentIn spendings dropped p1).2.2.1), .int ((f_X0_settle rm fm rq fr_c47 spent spentIn spendings dropped p1).2.2.2.1), .int ((f_X0_settle rm fm rq fr_c47 spent spentIn spendings dropped p1).2.2.2.2.1), .int urgentSp, .int ((f_X0_settle rm fm rq fr_c47 spent spentIn spendings dropped p1).2.1), .int lapsedLate])), (h1, .inr (2, [.ref h2])), (h2, .inr (3, [.ref h3, .int 12, .int 8, .int rm])), (h3, .inl (cI, 96, .inl ((f_X0_settle rm fm rq fr_c47 spent spentIn spendings dropped p1).2.2.2.2.2.1))), (h4, .inr (3, [.ref h5, .int 6, .int 6, .int ((f_X0_settle rm fm rq fr_c47 spent spentIn spendings dropped p1).2.2.2.2.2.2.1)])), (h5, .inl (cI, 36, .inl ((f_X0_settle rm fm rq fr_c47 spent spentIn spendings dropped p1).2.2.2.2.2.2.2))), (h6, .inl (cI, 8, .inl ap_23))] H := hP
      have hD : va_D A [(h0, .inr (0, [.ref h1, .ref h4, .ref h6, .int day, .int grace, .int longest, .int ((f_X0_settle rm fm rq fr_c47 spent spentIn spendings dropped p1).2.2.1), .int ((f_X0_settle rm fm rq fr_c47 spent spentIn spendings dropped p1).2.2.2.1), .int ((f_X0_settle rm fm rq fr_c47 spent spentIn spendings dropped p1).2.2.2.2.1), .int urgentSp, .int ((f_X0_settle rm fm rq fr_c47 spent spentIn spendings dropped p1).2.1), .int lapsedLate])), (h1, .inr (2, [.ref h2])), (h2, .inr (3, [.ref h3, .int 12, .int 8, .int rm])), (h3, .inl (cI, 96, .inl ((f_X0_settle rm fm rq fr_c47 spent spentIn spendings dropped p1).2.2.2.2.2.1))), (h4, .inr (3, [.ref h5, .int 6, .int 6, .int ((f_X0_settle rm fm rq fr_c47 spent spentIn spendings dropped p1).2.2.2.2.2.2.1)])), (h5, .inl (cI, 36, .inl ((f_X0_settle rm fm rq fr_c47 spent spentIn spendings dropped p1).2.2.2.2.2.2.2))), (h6, .inl (cI, 8, .inl ap_23))] := hD
      obtain ⟨y70, ey70⟩ : ∃ z, z = (f_X0_settle rm fm rq fr_c47 spent spentIn spendings dropped p1).1 := ⟨_, rfl⟩
      obtain rfl : y70 = r70 := (hw.trans ey70.symm).symm
      obtain ⟨dropped_c70, edropped_c70⟩ : ∃ z, z = (f_X0_settle rm fm rq fr_c47 spent spentIn spendings dropped p1).2.1 := ⟨_, rfl⟩
      rw [← edropped_c70] at hP hD
      obtain ⟨spent_c70, espent_c70⟩ : ∃ z, z = (f_X0_settle rm fm rq fr_c47 spent spentIn spendings dropped p1).2.2.1 := ⟨_, rfl⟩
      rw [← espent_c70] at hP hD
      obtain ⟨spentIn_c70, espentIn_c70⟩ : ∃ z, z = (f_X0_settle rm fm rq fr_c47 spent spentIn spendings dropped p1).2.2.2.1 := ⟨_, rfl⟩
      rw [← espentIn_c70] at hP hD
      obtain ⟨spendings_c70, espendings_c70⟩ : ∃ z, z = (f_X0_settle rm fm rq fr_c47 spent spentIn spendings dropped p1).2.2.2.2.1 := ⟨_, rfl⟩
      rw [← espendings_c70] at hP hD
      obtain ⟨fm_c70, efm_c70⟩ : ∃ z, z = (f_X0_settle rm fm rq fr_c47 spent spentIn spendings dropped p1).2.2.2.2.2.1 := ⟨_, rfl⟩
      rw [← efm_c70] at hP hD
      obtain ⟨rq_c70, erq_c70⟩ : ∃ z, z = (f_X0_settle rm fm rq fr_c47 spent spentIn spendings dropped p1).2.2.2.2.2.2.1 := ⟨_, rfl⟩
      rw [← erq_c70] at hP hD
      obtain ⟨fr_c70, efr_c70⟩ : ∃ z, z = (f_X0_settle rm fm rq fr_c47 spent spentIn spendings dropped p1).2.2.2.2.2.2.2 := ⟨_, rfl⟩
      rw [← efr_c70] at hP hD
      have eF : rr = f_X0_addApproval_c70 ap_23 y70 dropped_c70 spent_c70 spentIn_c70 spendings_c70 fm_c70 rq_c70 fr_c70 := eF.trans (by rw [f_X0_addApproval_c47, if_pos c_1, ey70, edropped_c70, espent_c70, espentIn_c70, espendings_c70, efm_c70, erq_c70, efr_c70])
      have e9 : rr = (y70, dropped_c70, spent_c70, spentIn_c70, spendings_c70, fm_c70, rq_c70, fr_c70, ap_23) := eF.trans (by rw [f_X0_addApproval_c70])
      exact W.iret (v := y70) hx hb hr (fun t ht hW => ⟨⟨_, (), rfl, by rw [e9], (by rw [e9]; show va_P _ _ _ t.heap; rw [ht]; exact hP)⟩, hS.F ht⟩) hS.2.2 dX0_addApproval_70
    · refine lv_iconst (v := 0) hx hb dX0_addApproval_63 (by decide) ?_
      have e9 : rr = (0, dropped, spent, spentIn, spendings, fm, rq, fr_c47, ap_23) := eF.trans (by rw [f_X0_addApproval_c47, if_neg c_1])
      exact W.iret (v := 0) hx hb hr (fun t ht hW => ⟨⟨_, (), rfl, by rw [e9], (by rw [e9]; show va_P _ _ _ t.heap; rw [ht]; exact hP)⟩, hS.F ht⟩) hS.2.2 dX0_addApproval_64
  refine lv_iload_n hx hb dX0_addApproval_0 rfl (lv_at hl 2 rfl) ?_
  refine lv_if_lt (tgt := 23) hx hb dX0_addApproval_1 (by decide) (fun c_2 => ?_) (fun c_2 => ?_)
  · exact hJ23 ap (eF.trans (by rw [f_X0_addApproval, if_pos c_2])) _ _ hP hD hS ls (lv_sub hl [0, 1, 2] rfl)
  · refine lv_iload_n hx hb dX0_addApproval_4 rfl (lv_at hl 2 rfl) ?_
    refine lv_aload_n hx hb dX0_addApproval_5 rfl (lv_at hl 0 rfl) ?_
    refine va_get (D := (dC, dI)) (ci := 0) (v := .ref h6) (C := RX0) (T := TX0) (N := 12) hx hb hts iwsX00 hown hK hP 0 rfl rfl 2 (by decide) kw1 (fun _ h9 => h9) rfl dX0_addApproval_6 ?_
    refine va_alen hx hb hK hP 6 0 rfl rfl (v := 8) rfl dX0_addApproval_9 ?_
    refine lv_icmp_ge (tgt := 23) hx hb dX0_addApproval_10 (by decide) (fun c_3 => ?_) (fun c_3 => ?_)
    · exact hJ23 ap (eF.trans (by rw [f_X0_addApproval, if_neg c_2, if_pos c_3])) _ _ hP hD hS ls (lv_sub hl [0, 1, 2] rfl)
    · refine lv_aload_n hx hb dX0_addApproval_13 rfl (lv_at hl 0 rfl) ?_
      refine va_get (D := (dC, dI)) (ci := 0) (v := .ref h6) (C := RX0) (T := TX0) (N := 12) hx hb hts iwsX00 hown hK hP 0 rfl rfl 2 (by decide) kw1 (fun _ h9 => h9) rfl dX0_addApproval_14 ?_
      refine lv_iload_n hx hb dX0_addApproval_17 rfl (lv_at hl 2 rfl) ?_
      refine lv_dup2_11 hx hb dX0_addApproval_18 rfl rfl ?_
      refine va_iald hx hb hK hP 6 0 rfl rfl (vm_in (vm_nlt c_2) (vm_nle c_3) (by decide)) dX0_addApproval_19 ?_
      refine lv_iconst (v := 1) hx hb dX0_addApproval_20 (by decide) ?_
      refine lv_iadd hx hb dX0_addApproval_21 ?_
      refine va_iast hx hb hK hP hD hS 6 0 rfl rfl (vm_in (vm_nlt c_2) (vm_nle c_3) (by decide)) dX0_addApproval_22 (fun H locs hP hD hS => ?_)
      have hP : va_P (dC, dI) vwCl [(h0, .inr (0, [.ref h1, .ref h4, .ref h6, .int day, .int grace, .int longest, .int spent, .int spentIn, .int spendings, .int urgentSp, .int dropped, .int lapsedLate])), (h1, .inr (2, [.ref h2])), (h2, .inr (3, [.ref h3, .int 12, .int 8, .int rm])), (h3, .inl (cI, 96, .inl fm)), (h4, .inr (3, [.ref h5, .int 6, .int 6, .int rq])), (h5, .inl (cI, 36, .inl fr)), (h6, .inl (cI, 8, .inl (upd ap (Int32.toNatClampNeg p2) ((ap (Int32.toNatClampNeg p2)) + 1))))] H := hP
      have hD : va_D A [(h0, .inr (0, [.ref h1, .ref h4, .ref h6, .int day, .int grace, .int longest, .int spent, .int spentIn, .int spendings, .int urgentSp, .int dropped, .int lapsedLate])), (h1, .inr (2, [.ref h2])), (h2, .inr (3, [.ref h3, .int 12, .int 8, .int rm])), (h3, .inl (cI, 96, .inl fm)), (h4, .inr (3, [.ref h5, .int 6, .int 6, .int rq])), (h5, .inl (cI, 36, .inl fr)), (h6, .inl (cI, 8, .inl (upd ap (Int32.toNatClampNeg p2) ((ap (Int32.toNatClampNeg p2)) + 1))))] := hD
      exact hJ23 (upd ap (Int32.toNatClampNeg p2) ((ap (Int32.toNatClampNeg p2)) + 1)) (eF.trans (by rw [f_X0_addApproval, if_neg c_2, if_neg c_3])) _ _ hP hD hS ls (lv_sub hl [0, 1, 2] rfl)

def f_X0_firstLate_j44 (x1_2 : Int32) (kj2 : Int32 → Int32) : Int32 :=
  kj2 (x1_2 + 1)
def f_X0_firstLate_j2 (rq : Int32) (fr : Nat → Int32) (day : Int32) (grace : Int32) : Nat → Int32 → Int32
  | 0, _ => 0
  | n2 + 1, x1_2 => if rq ≤ x1_2 then
      (-1)
    else
      if (vm_bi (f_X0_isUrgent rq fr x1_2)) = 0 then
        f_X0_firstLate_j44 x1_2 (f_X0_firstLate_j2 rq fr day grace n2)
      else
        if day ≤ ((f_X3_get 6 rq 36 fr x1_2 2) + grace) then
          f_X0_firstLate_j44 x1_2 (f_X0_firstLate_j2 rq fr day grace n2)
        else
          x1_2
def f_X0_firstLate (rq : Int32) (fr : Nat → Int32) (day : Int32) (grace : Int32) : Int32 :=
  f_X0_firstLate_j2 rq fr day grace (((rq).toInt - ((0 : Int32)).toInt).toNat + 1) 0
theorem yd_X0_firstLate : yX0_firstLate.cls = RX0 ∧ yX0_firstLate.cls ≠ "java/lang/invoke/MethodHandle" ∧ yX0_firstLate.cls ≠ "java/lang/invoke/VarHandle" ∧ (parseMethodDescriptor yX0_firstLate.desc).map (fun d => d.parameters.length) = some 0 := by decide +kernel
set_option maxHeartbeats 4000000 in
set_option maxRecDepth 100000 in
theorem c_X0_firstLate (l : Launch) (dC : Nat → ClassId) (dI : Nat → Nat → Nat) (cI cB : ClassId) (h0 h1 h2 h3 h4 h5 h6 : Nat) (rm : Int32) (fm : Nat → Int32) (rq : Int32) (fr : Nat → Int32) (ap : Nat → Int32) (day : Int32) (grace : Int32) (longest : Int32) (spent : Int32) (spentIn : Int32) (spendings : Int32) (urgentSp : Int32) (dropped : Int32) (lapsedLate : Int32) : Met l yX0_firstLate wsX0_firstLate ({ frames := 2, cells := 0, slots := 0, locals := 44 }) (vm_pre [.ref h0] (dC, dI) [(h0, .inr (0, [.ref h1, .ref h4, .ref h6, .int day, .int grace, .int longest, .int spent, .int spentIn, .int spendings, .int urgentSp, .int dropped, .int lapsedLate])), (h1, .inr (2, [.ref h2])), (h2, .inr (3, [.ref h3, .int 12, .int 8, .int rm])), (h3, .inl (cI, 96, .inl fm)), (h4, .inr (3, [.ref h5, .int 6, .int 6, .int rq])), (h5, .inl (cI, 36, .inl fr)), (h6, .inl (cI, 8, .inl ap))] cI cB) (vp_Si (fun r9 : Int32 => r9 = (f_X0_firstLate rq fr day grace))) 0 0 (fun _ => False) := by
  refine Met.ofW (cc := cX0_firstLate) (maxL := 2) (ret := (some .int)) (by decide) rfl ?_
  intro p e s m args below meth c s₁ B hml hv
  obtain ⟨rfl, hP, hK, hN⟩ := hv
  have hx := B.exec
  have hb := B.bytes
  have hr := B.returns
  have hts := atoms_spec (ws := wsX0_firstLate) B.pre
  have hown : s.vm.findClass RX0 = some m.cls := findClass_of_methodNamed B.named
  have hlocks := B.notSynchronized
  have kw1 := hts (.fieldLink RX0 23 "LapseMandates$Book" "requests" "LLapseMandates$Table;") (List.mem_of_getElem? (i := 1) rfl)
  have kw2 := hts (.fieldLink RX0 45 "LapseMandates$Book" "day" "I") (List.mem_of_getElem? (i := 2) rfl)
  have kw3 := hts (.fieldLink RX0 31 "LapseMandates$Book" "grace" "I") (List.mem_of_getElem? (i := 3) rfl)
  have iwsX00 : ∀ w ∈ wsX00, w ∈ wsX0_firstLate := fun w h => List.mem_cons_of_mem _ (List.mem_append_left _ (List.mem_append_right _ h))
  have iwsX30 : ∀ w ∈ wsX30, w ∈ wsX0_firstLate := fun w h => List.mem_cons_of_mem _ (List.mem_append_right _ h)
  generalize hrr : f_X0_firstLate rq fr day grace = rr
  have eF := hrr.symm
  have hl := lv_entry ([.ref h0]) (n := 2) (Nat.le_of_ble_eq_true rfl)
  rw [lg_entry_eq]
  generalize (lg_sl ([.ref h0]) ++ List.replicate (2 - (lg_sl ([.ref h0])).length) Slot.unset).toArray = ls at hl ⊢
  have hl : lv_has ls 2 [(0, .ref h0)] := hl
  have hJ2 : ∀ (n2 : Nat) (x1_2 : Int32), ((rq).toInt - (x1_2).toInt).toNat < n2 → 0 ≤ x1_2 → rr = f_X0_firstLate_j2 rq fr day grace n2 x1_2 → ∀ (ls : Array Slot), lv_has ls 2 [(0, .ref h0), (1, .int x1_2)] → W p l e (headSpec wsX0_firstLate ({ frames := 2, cells := 0, slots := 0, locals := 44 })).room s m ([.ref h0] : List Value).toArray below meth c s.heap [] 0 0 (MQ below (vp_Si (fun r9 : Int32 => r9 = rr)) ([.ref h0] : List Value).toArray s 0 0 (fun _ => False)) (F0 m 2 ls []) := by
    intro n2
    induction n2 with
    | zero =>
      intro x1_2 hm2
      exact absurd hm2 (Nat.not_lt_zero _)
    | succ n2 ih2 =>
      intro x1_2 hm2 hi2 eF ls hl
      have hJ44 : ¬ rq ≤ x1_2 → rr = f_X0_firstLate_j44 x1_2 (f_X0_firstLate_j2 rq fr day grace n2) → ∀ (ls : Array Slot), lv_has ls 2 [(0, .ref h0), (1, .int x1_2)] → W p l e (headSpec wsX0_firstLate ({ frames := 2, cells := 0, slots := 0, locals := 44 })).room s m ([.ref h0] : List Value).toArray below meth c s.heap [] 0 0 (MQ below (vp_Si (fun r9 : Int32 => r9 = rr)) ([.ref h0] : List Value).toArray s 0 0 (fun _ => False)) (F0 m 44 ls []) := by
        intro cL2 eF ls hl
        refine lv_iinc (v := (x1_2 + 1)) (lv' := [(1, .int (x1_2 + 1)), (0, .ref h0)]) hx hb dX0_firstLate_44 hl (k := 1) rfl rfl (by decide) rfl (fun ls hl => ?_)
        refine lv_goto (tgt := 2) hx hb dX0_firstLate_47 (by decide) ?_
        exact ih2 (x1_2 + 1) (vm_up (vm_nle cL2) hm2) (vm_nn hi2 (vm_nle cL2)) (eF.trans (by rw [f_X0_firstLate_j44])) ls (lv_sub hl [1, 0] rfl)
      refine lv_iload_n hx hb dX0_firstLate_2 rfl (lv_at hl 1 rfl) ?_
      refine lv_aload_n hx hb dX0_firstLate_3 rfl (lv_at hl 0 rfl) ?_
      refine va_get (D := (dC, dI)) (ci := 0) (v := .ref h4) (C := RX0) (T := TX0) (N := 12) hx hb hts iwsX00 hown hK hP 0 rfl rfl 1 (by decide) kw1 (fun _ h9 => h9) rfl dX0_firstLate_4 ?_
      refine va_getN (D := (dC, dI)) (ci := 3) (v := .int rq) (C := RX3) (T := TX3) (N := 4) hx hb hts iwsX30 hown hK hP 4 rfl rfl 3 (by decide) (va_Nw.use rfl hN.2.2.2.2.2.1) (fun _ h9 => h9) rfl dX0_firstLate_7 ?_
      refine lv_icmp_ge (tgt := 50) hx hb dX0_firstLate_10 (by decide) (fun cL2 => ?_) (fun cL2 => ?_)
      · refine lv_iconst (v := (-1)) hx hb dX0_firstLate_50 (by decide) ?_
        have e9 : rr = (-1) := eF.trans (by rw [f_X0_firstLate_j2, if_pos cL2])
        exact W.iret (v := (-1)) hx hb hr (fun t ht hW => ⟨_, rfl, e9.symm, ht⟩) (fun _ hq => by cases hq) dX0_firstLate_51
      · refine lv_aload_n hx hb dX0_firstLate_13 rfl (lv_at hl 0 rfl) ?_
        refine lv_iload_n hx hb dX0_firstLate_14 rfl (lv_at hl 1 rfl) ?_
        refine vm_roVx (v := vm_bi (f_X0_isUrgent rq fr x1_2)) (As := [.int x1_2]) (rest := []) (T := TX0) (N := 12) (wc := [(h0, .inr (0, [.ref h1, .ref h4, .ref h6, .int day, .int grace, .int longest, .int spent, .int spentIn, .int spendings, .int urgentSp, .int dropped, .int lapsedLate])), (h1, .inr (2, [.ref h2])), (h2, .inr (3, [.ref h3, .int 12, .int 8, .int rm])), (h3, .inl (cI, 96, .inl fm)), (h4, .inr (3, [.ref h5, .int 6, .int 6, .int rq])), (h5, .inl (cI, 36, .inl fr)), (h6, .inl (cI, 8, .inl ap))]) ⟨hx, hb, hml, hown, hts⟩ hK hN hP hl.1 ⟨Nat.le_of_ble_eq_true rfl, Nat.le_of_ble_eq_true rfl⟩ (c_X0_isUrgent l dC dI cI cB h0 h1 h2 h3 h4 h5 h6 rm fm rq fr ap day grace longest spent spentIn spendings urgentSp dropped lapsedLate x1_2) (cwV 1 hts gX0_firstLate_X0_isUrgent rfl rfl rfl yd_X0_isUrgent ⟨Nat.le_of_ble_eq_true rfl, Nat.le_of_ble_eq_true rfl⟩) [0, 1, 2, 3, 4, 5, 6] rfl 0 rfl rfl rfl rfl (Nat.le_of_ble_eq_true rfl) dX0_firstLate_15 ?_
        refine lv_if_eq (tgt := 44) hx hb dX0_firstLate_18 (by decide) (fun c_2 => ?_) (fun c_2 => ?_)
        · exact hJ44 cL2 (eF.trans (by rw [f_X0_firstLate_j2, if_neg cL2, if_pos c_2])) ls (lv_sub hl [0, 1] rfl)
        · refine lv_aload_n hx hb dX0_firstLate_21 rfl (lv_at hl 0 rfl) ?_
          refine va_get (D := (dC, dI)) (ci := 0) (v := .int day) (C := RX0) (T := TX0) (N := 12) hx hb hts iwsX00 hown hK hP 0 rfl rfl 3 (by decide) kw2 (fun _ h9 => h9) rfl dX0_firstLate_22 ?_
          refine lv_aload_n hx hb dX0_firstLate_25 rfl (lv_at hl 0 rfl) ?_
          refine va_get (D := (dC, dI)) (ci := 0) (v := .ref h4) (C := RX0) (T := TX0) (N := 12) hx hb hts iwsX00 hown hK hP 0 rfl rfl 1 (by decide) kw1 (fun _ h9 => h9) rfl dX0_firstLate_26 ?_
          refine lv_iload_n hx hb dX0_firstLate_29 rfl (lv_at hl 1 rfl) ?_
          refine lv_iconst (v := 2) hx hb dX0_firstLate_30 (by decide) ?_
          refine vm_roVx (v := (f_X3_get 6 rq 36 fr x1_2 2)) (As := [.int x1_2, .int 2]) (rest := [.int day]) (T := TX3) (N := 4) (wc := [(h4, .inr (3, [.ref h5, .int 6, .int 6, .int rq])), (h5, .inl (cI, 36, .inl fr))]) ⟨hx, hb, hml, hown, hts⟩ hK hN hP hl.1 ⟨Nat.le_of_ble_eq_true rfl, Nat.le_of_ble_eq_true rfl⟩ (c_X3_get l dC dI cI cB h4 h5 6 6 rq 36 fr x1_2 2 (by decide)) (cwV 2 hts gX0_firstLate_X3_get rfl rfl rfl yd_X3_get ⟨Nat.le_of_ble_eq_true rfl, Nat.le_of_ble_eq_true rfl⟩) [4, 5] rfl 3 rfl rfl rfl rfl (Nat.le_of_ble_eq_true rfl) dX0_firstLate_31 ?_
          refine lv_aload_n hx hb dX0_firstLate_34 rfl (lv_at hl 0 rfl) ?_
          refine va_get (D := (dC, dI)) (ci := 0) (v := .int grace) (C := RX0) (T := TX0) (N := 12) hx hb hts iwsX00 hown hK hP 0 rfl rfl 4 (by decide) kw3 (fun _ h9 => h9) rfl dX0_firstLate_35 ?_
          refine lv_iadd hx hb dX0_firstLate_38 ?_
          refine lv_icmp_le (tgt := 44) hx hb dX0_firstLate_39 (by decide) (fun c_3 => ?_) (fun c_3 => ?_)
          · exact hJ44 cL2 (eF.trans (by rw [f_X0_firstLate_j2, if_neg cL2, if_neg c_2, if_pos c_3])) ls (lv_sub hl [0, 1] rfl)
          · refine lv_iload_n hx hb dX0_firstLate_42 rfl (lv_at hl 1 rfl) ?_
            have e9 : rr = x1_2 := eF.trans (by rw [f_X0_firstLate_j2, if_neg cL2, if_neg c_2, if_neg c_3])
            exact W.iret (v := x1_2) hx hb hr (fun t ht hW => ⟨_, rfl, e9.symm, ht⟩) (fun _ hq => by cases hq) dX0_firstLate_43
  refine lv_iconst (v := 0) hx hb dX0_firstLate_0 (by decide) ?_
  refine lv_istore_n (lv' := [(1, .int 0), (0, .ref h0)]) hx hb dX0_firstLate_1 rfl hl (by decide) rfl (fun ls hl => ?_)
  exact hJ2 (((rq).toInt - ((0 : Int32)).toInt).toNat + 1) 0 (Nat.lt_succ_self _) (by decide) (eF.trans (by rw [f_X0_firstLate])) ls (lv_sub hl [1, 0] rfl)

def f_X0_nextDay_c81 (x1_36 : Int32) (x2_36 : Int32) (spentIn_36 : Int32) (kj36 : Int32 → Int32 → Int32 → Int32 → (Nat → Int32) → Int32 → (Nat → Int32) → (Int32 × Int32 × Int32 × Int32 × Int32 × (Nat → Int32) × Int32 × (Nat → Int32))) (y81 : Int32) (dropped_c81 : Int32) (fm_c81 : Nat → Int32) (rq_c81 : Int32) (fr_c81 : Nat → Int32) : Int32 × Int32 × Int32 × Int32 × Int32 × (Nat → Int32) × Int32 × (Nat → Int32) :=
  kj36 (x1_36 + y81) (x2_36 + 1) dropped_c81 spentIn_36 fm_c81 rq_c81 fr_c81
def f_X0_nextDay_c74 (rm : Int32) (day : Int32) (grace : Int32) (x1_36 : Int32) (x2_36 : Int32) (dropped_36 : Int32) (spentIn_36 : Int32) (fm_36 : Nat → Int32) (rq_36 : Int32) (fr_36 : Nat → Int32) (kj36 : Int32 → Int32 → Int32 → Int32 → (Nat → Int32) → Int32 → (Nat → Int32) → (Int32 × Int32 × Int32 × Int32 × Int32 × (Nat → Int32) × Int32 × (Nat → Int32))) (rq_c74 : Int32) (fr_c74 : Nat → Int32) : Int32 × Int32 × Int32 × Int32 × Int32 × (Nat → Int32) × Int32 × (Nat → Int32) :=
  f_X0_nextDay_c81 x1_36 x2_36 spentIn_36 kj36 ((f_X0_lapse rm fm_36 rq_c74 fr_c74 (day + 1) dropped_36 (f_X3_get 6 rq_36 36 fr_36 (f_X0_firstLate rq_36 fr_36 (day + 1) grace) 0)).1) ((f_X0_lapse rm fm_36 rq_c74 fr_c74 (day + 1) dropped_36 (f_X3_get 6 rq_36 36 fr_36 (f_X0_firstLate rq_36 fr_36 (day + 1) grace) 0)).2.1) ((f_X0_lapse rm fm_36 rq_c74 fr_c74 (day + 1) dropped_36 (f_X3_get 6 rq_36 36 fr_36 (f_X0_firstLate rq_36 fr_36 (day + 1) grace) 0)).2.2.1) ((f_X0_lapse rm fm_36 rq_c74 fr_c74 (day + 1) dropped_36 (f_X3_get 6 rq_36 36 fr_36 (f_X0_firstLate rq_36 fr_36 (day + 1) grace) 0)).2.2.2.1) ((f_X0_lapse rm fm_36 rq_c74 fr_c74 (day + 1) dropped_36 (f_X3_get 6 rq_36 36 fr_36 (f_X0_firstLate rq_36 fr_36 (day + 1) grace) 0)).2.2.2.2)
def f_X0_nextDay_j89 (day : Int32) (lapsedLate : Int32) (x1_89 : Int32) (dropped_89 : Int32) (spentIn_89 : Int32) (fm_89 : Nat → Int32) (rq_89 : Int32) (fr_89 : Nat → Int32) : Int32 × Int32 × Int32 × Int32 × Int32 × (Nat → Int32) × Int32 × (Nat → Int32) :=
  (x1_89, dropped_89, (lapsedLate + x1_89), (day + 1), spentIn_89, fm_89, rq_89, fr_89)
def f_X0_nextDay_j36 (rm : Int32) (day : Int32) (grace : Int32) (lapsedLate : Int32) : Nat → Int32 → Int32 → Int32 → Int32 → (Nat → Int32) → Int32 → (Nat → Int32) → Int32 × Int32 × Int32 × Int32 × Int32 × (Nat → Int32) × Int32 × (Nat → Int32)
  | 0, _, _, _, _, _, _, _ => (0, 0, 0, 0, 0, (fun _ => 0), 0, (fun _ => 0))
  | n36 + 1, x1_36, x2_36, dropped_36, spentIn_36, fm_36, rq_36, fr_36 => if 6 ≤ x2_36 then
      f_X0_nextDay_j89 day lapsedLate x1_36 dropped_36 spentIn_36 fm_36 rq_36 fr_36
    else
      if (f_X0_firstLate rq_36 fr_36 (day + 1) grace) = (-1) then
        f_X0_nextDay_j89 day lapsedLate x1_36 dropped_36 spentIn_36 fm_36 rq_36 fr_36
      else
        f_X0_nextDay_c74 rm day grace x1_36 x2_36 dropped_36 spentIn_36 fm_36 rq_36 fr_36 (f_X0_nextDay_j36 rm day grace lapsedLate n36) ((f_X3_removeRow 6 rq_36 36 fr_36 (f_X0_firstLate rq_36 fr_36 (day + 1) grace)).1) ((f_X3_removeRow 6 rq_36 36 fr_36 (f_X0_firstLate rq_36 fr_36 (day + 1) grace)).2)
def f_X0_nextDay_j32 (rm : Int32) (rq : Int32) (fr : Nat → Int32) (day : Int32) (grace : Int32) (dropped : Int32) (lapsedLate : Int32) (spentIn_32 : Int32) (fm_32 : Nat → Int32) : Int32 × Int32 × Int32 × Int32 × Int32 × (Nat → Int32) × Int32 × (Nat → Int32) :=
  f_X0_nextDay_j36 rm day grace lapsedLate ((((6 : Int32)).toInt - ((0 : Int32)).toInt).toNat + 1) 0 0 dropped spentIn_32 fm_32 rq fr
def f_X0_nextDay_c27 (rm : Int32) (rq : Int32) (fr : Nat → Int32) (day : Int32) (grace : Int32) (dropped : Int32) (lapsedLate : Int32) (fm_c27 : Nat → Int32) : Int32 × Int32 × Int32 × Int32 × Int32 × (Nat → Int32) × Int32 × (Nat → Int32) :=
  f_X0_nextDay_j32 rm rq fr day grace dropped lapsedLate 0 fm_c27
def f_X0_nextDay (rm : Int32) (fm : Nat → Int32) (rq : Int32) (fr : Nat → Int32) (day : Int32) (grace : Int32) (spentIn : Int32) (dropped : Int32) (lapsedLate : Int32) : Int32 × Int32 × Int32 × Int32 × Int32 × (Nat → Int32) × Int32 × (Nat → Int32) :=
  if ((day + 1) - (day + 1) / 10 * 10) = 0 then
    f_X0_nextDay_c27 rm rq fr day grace dropped lapsedLate (f_X2_clearSums rm fm)
  else
    f_X0_nextDay_j32 rm rq fr day grace dropped lapsedLate spentIn fm
theorem yd_X0_nextDay : yX0_nextDay.cls = RX0 ∧ yX0_nextDay.cls ≠ "java/lang/invoke/MethodHandle" ∧ yX0_nextDay.cls ≠ "java/lang/invoke/VarHandle" ∧ (parseMethodDescriptor yX0_nextDay.desc).map (fun d => d.parameters.length) = some 0 := by decide +kernel
set_option maxHeartbeats 4000000 in
set_option maxRecDepth 100000 in
theorem c_X0_nextDay (l : Launch) (dC : Nat → ClassId) (dI : Nat → Nat → Nat) (cI cB : ClassId) (h0 h1 h2 h3 h4 h5 h6 : Nat) (sz : Nat) (rm : Int32) (fm : Nat → Int32) (rq : Int32) (fr : Nat → Int32) (ap : Nat → Int32) (day : Int32) (grace : Int32) (longest : Int32) (spent : Int32) (spentIn : Int32) (spendings : Int32) (urgentSp : Int32) (dropped : Int32) (lapsedLate : Int32) : Met l yX0_nextDay wsX0_nextDay ({ frames := 4, cells := 0, slots := 0, locals := 90 }) (vm_prw [.ref h0] (dC, dI) [(h0, .inr (0, [.ref h1, .ref h4, .ref h6, .int day, .int grace, .int longest, .int spent, .int spentIn, .int spendings, .int urgentSp, .int dropped, .int lapsedLate])), (h1, .inr (2, [.ref h2])), (h2, .inr (3, [.ref h3, .int 12, .int 8, .int rm])), (h3, .inl (cI, 96, .inl fm)), (h4, .inr (3, [.ref h5, .int 6, .int 6, .int rq])), (h5, .inl (cI, 36, .inl fr)), (h6, .inl (cI, 8, .inl ap))] cI cB sz) (va_Qi (fun (r9 : Int32) (_ : Unit) => r9 = (f_X0_nextDay rm fm rq fr day grace spentIn dropped lapsedLate).1) (fun _ t => va_P (dC, dI) vwCl [(h0, .inr (0, [.ref h1, .ref h4, .ref h6, .int ((f_X0_nextDay rm fm rq fr day grace spentIn dropped lapsedLate).2.2.2.1), .int grace, .int longest, .int spent, .int ((f_X0_nextDay rm fm rq fr day grace spentIn dropped lapsedLate).2.2.2.2.1), .int spendings, .int urgentSp, .int ((f_X0_nextDay rm fm rq fr day grace spentIn dropped lapsedLate).2.1), .int ((f_X0_nextDay rm fm rq fr day grace spentIn dropped lapsedLate).2.2.1)])), (h1, .inr (2, [.ref h2])), (h2, .inr (3, [.ref h3, .int 12, .int 8, .int rm])), (h3, .inl (cI, 96, .inl ((f_X0_nextDay rm fm rq fr day grace spentIn dropped lapsedLate).2.2.2.2.2.1))), (h4, .inr (3, [.ref h5, .int 6, .int 6, .int ((f_X0_nextDay rm fm rq fr day grace spentIn dropped lapsedLate).2.2.2.2.2.2.1)])), (h5, .inl (cI, 36, .inl ((f_X0_nextDay rm fm rq fr day grace spentIn dropped lapsedLate).2.2.2.2.2.2.2))), (h6, .inl (cI, 8, .inl ap))] t.heap) (va_A [(h0, .inr (0, [.ref h1, .ref h4, .ref h6, .int day, .int grace, .int longest, .int spent, .int spentIn, .int spendings, .int urgentSp, .int dropped, .int lapsedLate])), (h1, .inr (2, [.ref h2])), (h2, .inr (3, [.ref h3, .int 12, .int 8, .int rm])), (h3, .inl (cI, 96, .inl fm)), (h4, .inr (3, [.ref h5, .int 6, .int 6, .int rq])), (h5, .inl (cI, 36, .inl fr)), (h6, .inl (cI, 8, .inl ap))] sz)) 0 0 (va_A [(h0, .inr (0, [.ref h1, .ref h4, .ref h6, .int day, .int grace, .int longest, .int spent, .int spentIn, .int spendings, .int urgentSp, .int dropped, .int lapsedLate])), (h1, .inr (2, [.ref h2])), (h2, .inr (3, [.ref h3, .int 12, .int 8, .int rm])), (h3, .inl (cI, 96, .inl fm)), (h4, .inr (3, [.ref h5, .int 6, .int 6, .int rq])), (h5, .inl (cI, 36, .inl fr)), (h6, .inl (cI, 8, .inl ap))] sz) := by
  refine Met.ofW (cc := cX0_nextDay) (maxL := 5) (ret := (some .int)) (by decide) rfl ?_
  intro p e s m args below meth c s₁ B hml hv
  obtain ⟨rfl, hsz, hP, hK, hN, hD0⟩ := hv
  have hx := B.exec
  have hb := B.bytes
  have hr := B.returns
  have hts := atoms_spec (ws := wsX0_nextDay) B.pre
  have hown : s.vm.findClass RX0 = some m.cls := findClass_of_methodNamed B.named
  have hlocks := B.notSynchronized
  subst hsz
  have hD := hD0.self (sz := s.heap.size)
  generalize hAe : va_A [(h0, .inr (0, [.ref h1, .ref h4, .ref h6, .int day, .int grace, .int longest, .int spent, .int spentIn, .int spendings, .int urgentSp, .int dropped, .int lapsedLate])), (h1, .inr (2, [.ref h2])), (h2, .inr (3, [.ref h3, .int 12, .int 8, .int rm])), (h3, .inl (cI, 96, .inl fm)), (h4, .inr (3, [.ref h5, .int 6, .int 6, .int rq])), (h5, .inl (cI, 36, .inl fr)), (h6, .inl (cI, 8, .inl ap))] s.heap.size = A at hD ⊢
  have hA : ∀ q : Nat, s.heap.size ≤ q → A q := fun q h => by rw [← hAe]; exact Or.inr h
  have hS : va_S A s.heap s.heap [] := va_S.rf
  have hP : va_P (dC, dI) vwCl [(h0, .inr (0, [.ref h1, .ref h4, .ref h6, .int day, .int grace, .int longest, .int spent, .int spentIn, .int spendings, .int urgentSp, .int dropped, .int lapsedLate])), (h1, .inr (2, [.ref h2])), (h2, .inr (3, [.ref h3, .int 12, .int 8, .int rm])), (h3, .inl (cI, 96, .inl fm)), (h4, .inr (3, [.ref h5, .int 6, .int 6, .int rq])), (h5, .inl (cI, 36, .inl fr)), (h6, .inl (cI, 8, .inl ap))] s.heap := hP
  have kw1 := hts (.fieldLink RX0 45 "LapseMandates$Book" "day" "I") (List.mem_of_getElem? (i := 1) rfl)
  have kw2 := hts (.fieldLink RX0 12 "LapseMandates$Book" "mandates" "LLapseMandates$Mandates;") (List.mem_of_getElem? (i := 2) rfl)
  have kw3 := hts (.fieldLink RX0 51 "LapseMandates$Book" "spentInPeriod" "I") (List.mem_of_getElem? (i := 3) rfl)
  have kw4 := hts (.fieldLink RX0 23 "LapseMandates$Book" "requests" "LLapseMandates$Table;") (List.mem_of_getElem? (i := 4) rfl)
  have kw5 := hts (.fieldLink RX0 63 "LapseMandates$Book" "lapsedByLate" "I") (List.mem_of_getElem? (i := 5) rfl)
  have iwsX00 : ∀ w ∈ wsX00, w ∈ wsX0_nextDay := fun w h => List.mem_cons_of_mem _ (List.mem_append_left _ (List.mem_append_left _ (List.mem_append_right _ h)))
  generalize hrr : f_X0_nextDay rm fm rq fr day grace spentIn dropped lapsedLate = rr
  have eF := hrr.symm
  have hl := lv_entry ([.ref h0]) (n := 5) (Nat.le_of_ble_eq_true rfl)
  rw [lg_entry_eq]
  generalize (lg_sl ([.ref h0]) ++ List.replicate (5 - (lg_sl ([.ref h0])).length) Slot.unset).toArray = ls at hl ⊢
  have hl : lv_has ls 5 [(0, .ref h0)] := hl
  have hJ89 : ∀ (x1_89 : Int32) (dropped_89 : Int32) (spentIn_89 : Int32) (fm_89 : Nat → Int32) (rq_89 : Int32) (fr_89 : Nat → Int32), rr = f_X0_nextDay_j89 day lapsedLate x1_89 dropped_89 spentIn_89 fm_89 rq_89 fr_89 → ∀ (H : Heap) (locs : List Loc), va_P (dC, dI) vwCl [(h0, .inr (0, [.ref h1, .ref h4, .ref h6, .int (day + 1), .int grace, .int longest, .int spent, .int spentIn_89, .int spendings, .int urgentSp, .int dropped_89, .int lapsedLate])), (h1, .inr (2, [.ref h2])), (h2, .inr (3, [.ref h3, .int 12, .int 8, .int rm])), (h3, .inl (cI, 96, .inl fm_89)), (h4, .inr (3, [.ref h5, .int 6, .int 6, .int rq_89])), (h5, .inl (cI, 36, .inl fr_89)), (h6, .inl (cI, 8, .inl ap))] H → va_D A [(h0, .inr (0, [.ref h1, .ref h4, .ref h6, .int (day + 1), .int grace, .int longest, .int spent, .int spentIn_89, .int spendings, .int urgentSp, .int dropped_89, .int lapsedLate])), (h1, .inr (2, [.ref h2])), (h2, .inr (3, [.ref h3, .int 12, .int 8, .int rm])), (h3, .inl (cI, 96, .inl fm_89)), (h4, .inr (3, [.ref h5, .int 6, .int 6, .int rq_89])), (h5, .inl (cI, 36, .inl fr_89)), (h6, .inl (cI, 8, .inl ap))] → va_S A s.heap H locs → ∀ (ls : Array Slot), lv_has ls 5 [(0, .ref h0), (1, .int x1_89)] → W p l e (headSpec wsX0_nextDay ({ frames := 4, cells := 0, slots := 0, locals := 90 })).room s m ([.ref h0] : List Value).toArray below meth c H locs 0 0 (MQ below (va_Qi (fun (r9 : Int32) (_ : Unit) => r9 = rr.1) (fun _ t => va_P (dC, dI) vwCl [(h0, .inr (0, [.ref h1, .ref h4, .ref h6, .int rr.2.2.2.1, .int grace, .int longest, .int spent, .int rr.2.2.2.2.1, .int spendings, .int urgentSp, .int rr.2.1, .int rr.2.2.1])), (h1, .inr (2, [.ref h2])), (h2, .inr (3, [.ref h3, .int 12, .int 8, .int rm])), (h3, .inl (cI, 96, .inl rr.2.2.2.2.2.1)), (h4, .inr (3, [.ref h5, .int 6, .int 6, .int rr.2.2.2.2.2.2.1])), (h5, .inl (cI, 36, .inl rr.2.2.2.2.2.2.2)), (h6, .inl (cI, 8, .inl ap))] t.heap) A) ([.ref h0] : List Value).toArray s 0 0 A) (F0 m 89 ls []) := by
    intro x1_89 dropped_89 spentIn_89 fm_89 rq_89 fr_89 eF H locs hP hD hS ls hl
    refine lv_aload_n hx hb dX0_nextDay_89 rfl (lv_at hl 0 rfl) ?_
    refine lv_dup hx hb dX0_nextDay_90 rfl ?_
    refine va_get (D := (dC, dI)) (ci := 0) (v := .int lapsedLate) (C := RX0) (T := TX0) (N := 12) hx hb hts iwsX00 hown hK hP 0 rfl rfl 11 (by decide) kw5 (fun _ h9 => h9) rfl dX0_nextDay_91 ?_
    refine lv_iload_n hx hb dX0_nextDay_94 rfl (lv_at hl 1 rfl) ?_
    refine lv_iadd hx hb dX0_nextDay_95 ?_
    refine va_put (D := (dC, dI)) (ci := 0) (v := .int (lapsedLate + x1_89)) (ty := .int) (C := RX0) (T := TX0) (N := 12) hx hb hts iwsX00 tyX0 tyX0_ok nmX0 hown hK hP hD hS 0 rfl rfl 11 (by decide) kw5 (fun _ h9 => h9) rfl (by decide +kernel) rfl rfl (Nat.le_of_ble_eq_true rfl) dX0_nextDay_96 (fun H locs hP hD hS => ?_)
    have hP : va_P (dC, dI) vwCl [(h0, .inr (0, [.ref h1, .ref h4, .ref h6, .int (day + 1), .int grace, .int longest, .int spent, .int spentIn_89, .int spendings, .int urgentSp, .int dropped_89, .int (lapsedLate + x1_89)])), (h1, .inr (2, [.ref h2])), (h2, .inr (3, [.ref h3, .int 12, .int 8, .int rm])), (h3, .inl (cI, 96, .inl fm_89)), (h4, .inr (3, [.ref h5, .int 6, .int 6, .int rq_89])), (h5, .inl (cI, 36, .inl fr_89)), (h6, .inl (cI, 8, .inl ap))] H := hP
    have hD : va_D A [(h0, .inr (0, [.ref h1, .ref h4, .ref h6, .int (day + 1), .int grace, .int longest, .int spent, .int spentIn_89, .int spendings, .int urgentSp, .int dropped_89, .int (lapsedLate + x1_89)])), (h1, .inr (2, [.ref h2])), (h2, .inr (3, [.ref h3, .int 12, .int 8, .int rm])), (h3, .inl (cI, 96, .inl fm_89)), (h4, .inr (3, [.ref h5, .int 6, .int 6, .int rq_89])), (h5, .inl (cI, 36, .inl fr_89)), (h6, .inl (cI, 8, .inl ap))] := hD
    refine lv_iload_n hx hb dX0_nextDay_99 rfl (lv_at hl 1 rfl) ?_
    have e9 : rr = (x1_89, dropped_89, (lapsedLate + x1_89), (day + 1), spentIn_89, fm_89, rq_89, fr_89) := eF.trans (by rw [f_X0_nextDay_j89])
    exact W.iret (v := x1_89) hx hb hr (fun t ht hW => ⟨⟨_, (), rfl, by rw [e9], (by rw [e9]; show va_P _ _ _ t.heap; rw [ht]; exact hP)⟩, hS.F ht⟩) hS.2.2 dX0_nextDay_100
  have hJ36 : ∀ (n36 : Nat) (x1_36 : Int32) (x2_36 : Int32) (dropped_36 : Int32) (spentIn_36 : Int32) (fm_36 : Nat → Int32) (rq_36 : Int32) (fr_36 : Nat → Int32), (((6 : Int32)).toInt - (x2_36).toInt).toNat < n36 → 0 ≤ x2_36 → rr = f_X0_nextDay_j36 rm day grace lapsedLate n36 x1_36 x2_36 dropped_36 spentIn_36 fm_36 rq_36 fr_36 → ∀ (H : Heap) (locs : List Loc), va_P (dC, dI) vwCl [(h0, .inr (0, [.ref h1, .ref h4, .ref h6, .int (day + 1), .int grace, .int longest, .int spent, .int spentIn_36, .int spendings, .int urgentSp, .int dropped_36, .int lapsedLate])), (h1, .inr (2, [.ref h2])), (h2, .inr (3, [.ref h3, .int 12, .int 8, .int rm])), (h3, .inl (cI, 96, .inl fm_36)), (h4, .inr (3, [.ref h5, .int 6, .int 6, .int rq_36])), (h5, .inl (cI, 36, .inl fr_36)), (h6, .inl (cI, 8, .inl ap))] H → va_D A [(h0, .inr (0, [.ref h1, .ref h4, .ref h6, .int (day + 1), .int grace, .int longest, .int spent, .int spentIn_36, .int spendings, .int urgentSp, .int dropped_36, .int lapsedLate])), (h1, .inr (2, [.ref h2])), (h2, .inr (3, [.ref h3, .int 12, .int 8, .int rm])), (h3, .inl (cI, 96, .inl fm_36)), (h4, .inr (3, [.ref h5, .int 6, .int 6, .int rq_36])), (h5, .inl (cI, 36, .inl fr_36)), (h6, .inl (cI, 8, .inl ap))] → va_S A s.heap H locs → ∀ (ls : Array Slot), lv_has ls 5 [(0, .ref h0), (1, .int x1_36), (2, .int x2_36)] → W p l e (headSpec wsX0_nextDay ({ frames := 4, cells := 0, slots := 0, locals := 90 })).room s m ([.ref h0] : List Value).toArray below meth c H locs 0 0 (MQ below (va_Qi (fun (r9 : Int32) (_ : Unit) => r9 = rr.1) (fun _ t => va_P (dC, dI) vwCl [(h0, .inr (0, [.ref h1, .ref h4, .ref h6, .int rr.2.2.2.1, .int grace, .int longest, .int spent, .int rr.2.2.2.2.1, .int spendings, .int urgentSp, .int rr.2.1, .int rr.2.2.1])), (h1, .inr (2, [.ref h2])), (h2, .inr (3, [.ref h3, .int 12, .int 8, .int rm])), (h3, .inl (cI, 96, .inl rr.2.2.2.2.2.1)), (h4, .inr (3, [.ref h5, .int 6, .int 6, .int rr.2.2.2.2.2.2.1])), (h5, .inl (cI, 36, .inl rr.2.2.2.2.2.2.2)), (h6, .inl (cI, 8, .inl ap))] t.heap) A) ([.ref h0] : List Value).toArray s 0 0 A) (F0 m 36 ls []) := by
    intro n36
    induction n36 with
    | zero =>
      intro x1_36 x2_36 dropped_36 spentIn_36 fm_36 rq_36 fr_36 hm36
      exact absurd hm36 (Nat.not_lt_zero _)
    | succ n36 ih36 =>
      intro x1_36 x2_36 dropped_36 spentIn_36 fm_36 rq_36 fr_36 hm36 hi36 eF H locs hP hD hS ls hl
      refine lv_iload_n hx hb dX0_nextDay_36 rfl (lv_at hl 2 rfl) ?_
      refine lv_bipush (v := 6) hx hb dX0_nextDay_37 (by decide) ?_
      refine lv_icmp_ge (tgt := 89) hx hb dX0_nextDay_39 (by decide) (fun cL36 => ?_) (fun cL36 => ?_)
      · exact hJ89 x1_36 dropped_36 spentIn_36 fm_36 rq_36 fr_36 (eF.trans (by rw [f_X0_nextDay_j36, if_pos cL36])) _ _ hP hD hS ls (lv_sub hl [0, 1] rfl)
      · refine lv_aload_n hx hb dX0_nextDay_42 rfl (lv_at hl 0 rfl) ?_
        refine vm_roVx (v := (f_X0_firstLate rq_36 fr_36 (day + 1) grace)) (As := []) (rest := []) (T := TX0) (N := 12) (wc := [(h0, .inr (0, [.ref h1, .ref h4, .ref h6, .int (day + 1), .int grace, .int longest, .int spent, .int spentIn_36, .int spendings, .int urgentSp, .int dropped_36, .int lapsedLate])), (h1, .inr (2, [.ref h2])), (h2, .inr (3, [.ref h3, .int 12, .int 8, .int rm])), (h3, .inl (cI, 96, .inl fm_36)), (h4, .inr (3, [.ref h5, .int 6, .int 6, .int rq_36])), (h5, .inl (cI, 36, .inl fr_36)), (h6, .inl (cI, 8, .inl ap))]) ⟨hx, hb, hml, hown, hts⟩ hK hN hP hl.1 ⟨Nat.le_of_ble_eq_true rfl, Nat.le_of_ble_eq_true rfl⟩ (c_X0_firstLate l dC dI cI cB h0 h1 h2 h3 h4 h5 h6 rm fm_36 rq_36 fr_36 ap (day + 1) grace longest spent spentIn_36 spendings urgentSp dropped_36 lapsedLate) (cwV 0 hts gX0_nextDay_X0_firstLate rfl rfl rfl yd_X0_firstLate ⟨Nat.le_of_ble_eq_true rfl, Nat.le_of_ble_eq_true rfl⟩) [0, 1, 2, 3, 4, 5, 6] rfl 0 rfl rfl rfl rfl (Nat.le_of_ble_eq_true rfl) dX0_nextDay_43 ?_
        refine lv_istore_n (lv' := [(3, .int (f_X0_firstLate rq_36 fr_36 (day + 1) grace)), (0, .ref h0), (1, .int x1_36), (2, .int x2_36)]) hx hb dX0_nextDay_46 rfl hl (by decide) rfl (fun ls hl => ?_)
        refine lv_iload_n hx hb dX0_nextDay_47 rfl (lv_at hl 0 rfl) ?_
        refine lv_iconst (v := (-1)) hx hb dX0_nextDay_48 (by decide) ?_
        refine lv_icmp_ne (tgt := 55) hx hb dX0_nextDay_49 (by decide) (fun c_2 => ?_) (fun c_2 => ?_)
        · refine lv_aload_n hx hb dX0_nextDay_55 rfl (lv_at hl 1 rfl) ?_
          refine va_get (D := (dC, dI)) (ci := 0) (v := .ref h4) (C := RX0) (T := TX0) (N := 12) hx hb hts iwsX00 hown hK hP 0 rfl rfl 1 (by decide) kw4 (fun _ h9 => h9) rfl dX0_nextDay_56 ?_
          refine lv_iload_n hx hb dX0_nextDay_59 rfl (lv_at hl 0 rfl) ?_
          refine lv_iconst (v := 0) hx hb dX0_nextDay_60 (by decide) ?_
          refine vm_roVx (v := (f_X3_get 6 rq_36 36 fr_36 (f_X0_firstLate rq_36 fr_36 (day + 1) grace) 0)) (As := [.int (f_X0_firstLate rq_36 fr_36 (day + 1) grace), .int 0]) (rest := []) (T := TX3) (N := 4) (wc := [(h4, .inr (3, [.ref h5, .int 6, .int 6, .int rq_36])), (h5, .inl (cI, 36, .inl fr_36))]) ⟨hx, hb, hml, hown, hts⟩ hK hN hP hl.1 ⟨Nat.le_of_ble_eq_true rfl, Nat.le_of_ble_eq_true rfl⟩ (c_X3_get l dC dI cI cB h4 h5 6 6 rq_36 36 fr_36 (f_X0_firstLate rq_36 fr_36 (day + 1) grace) 0 (by decide)) (cwV 2 hts gX0_nextDay_X3_get rfl rfl rfl yd_X3_get ⟨Nat.le_of_ble_eq_true rfl, Nat.le_of_ble_eq_true rfl⟩) [4, 5] rfl 3 rfl rfl rfl rfl (Nat.le_of_ble_eq_true rfl) dX0_nextDay_61 ?_
          refine lv_istore (lv' := [(4, .int (f_X3_get 6 rq_36 36 fr_36 (f_X0_firstLate rq_36 fr_36 (day + 1) grace) 0)), (3, .int (f_X0_firstLate rq_36 fr_36 (day + 1) grace)), (0, .ref h0), (1, .int x1_36), (2, .int x2_36)]) hx hb dX0_nextDay_64 hl (by decide) rfl (fun ls hl => ?_)
          refine lv_aload_n hx hb dX0_nextDay_66 rfl (lv_at hl 2 rfl) ?_
          refine va_get (D := (dC, dI)) (ci := 0) (v := .ref h4) (C := RX0) (T := TX0) (N := 12) hx hb hts iwsX00 hown hK hP 0 rfl rfl 1 (by decide) kw4 (fun _ h9 => h9) rfl dX0_nextDay_67 ?_
          refine lv_iload_n hx hb dX0_nextDay_70 rfl (lv_at hl 1 rfl) ?_
          refine vm_rwVv (As := [.int (f_X0_firstLate rq_36 fr_36 (day + 1) grace)]) (rest := []) (T := TX3) (N := 4) (wc := [(h4, .inr (3, [.ref h5, .int 6, .int 6, .int rq_36])), (h5, .inl (cI, 36, .inl fr_36))]) (w1 := [(h4, .inr (3, [.ref h5, .int 6, .int 6, .int ((f_X3_removeRow 6 rq_36 36 fr_36 (f_X0_firstLate rq_36 fr_36 (day + 1) grace)).1)])), (h5, .inl (cI, 36, .inl ((f_X3_removeRow 6 rq_36 36 fr_36 (f_X0_firstLate rq_36 fr_36 (day + 1) grace)).2)))]) ⟨hx, hb, hml, hown, hts⟩ hK hN hP hD hS hA hl.1 ⟨Nat.le_of_ble_eq_true rfl, Nat.le_of_ble_eq_true rfl⟩ (c_X3_removeRow l dC dI cI cB h4 h5 _ 6 6 rq_36 36 fr_36 (f_X0_firstLate rq_36 fr_36 (day + 1) grace) (by decide)) (cwV 1 hts gX0_nextDay_X3_removeRow rfl rfl rfl yd_X3_removeRow ⟨Nat.le_of_ble_eq_true rfl, Nat.le_of_ble_eq_true rfl⟩) [4, 5] rfl rfl rfl 3 rfl rfl rfl rfl (Nat.le_of_ble_eq_true rfl) dX0_nextDay_71 (fun H locs hP hD hS => ?_)
          have hP : va_P (dC, dI) vwCl [(h0, .inr (0, [.ref h1, .ref h4, .ref h6, .int (day + 1), .int grace, .int longest, .int spent, .int spentIn_36, .int spendings, .int urgentSp, .int dropped_36, .int lapsedLate])), (h1, .inr (2, [.ref h2])), (h2, .inr (3, [.ref h3, .int 12, .int 8, .int rm])), (h3, .inl (cI, 96, .inl fm_36)), (h4, .inr (3, [.ref h5, .int 6, .int 6, .int ((f_X3_removeRow 6 rq_36 36 fr_36 (f_X0_firstLate rq_36 fr_36 (day + 1) grace)).1)])), (h5, .inl (cI, 36, .inl ((f_X3_removeRow 6 rq_36 36 fr_36 (f_X0_firstLate rq_36 fr_36 (day + 1) grace)).2))), (h6, .inl (cI, 8, .inl ap))] H := hP
          have hD : va_D A [(h0, .inr (0, [.ref h1, .ref h4, .ref h6, .int (day + 1), .int grace, .int longest, .int spent, .int spentIn_36, .int spendings, .int urgentSp, .int dropped_36, .int lapsedLate])), (h1, .inr (2, [.ref h2])), (h2, .inr (3, [.ref h3, .int 12, .int 8, .int rm])), (h3, .inl (cI, 96, .inl fm_36)), (h4, .inr (3, [.ref h5, .int 6, .int 6, .int ((f_X3_removeRow 6 rq_36 36 fr_36 (f_X0_firstLate rq_36 fr_36 (day + 1) grace)).1)])), (h5, .inl (cI, 36, .inl ((f_X3_removeRow 6 rq_36 36 fr_36 (f_X0_firstLate rq_36 fr_36 (day + 1) grace)).2))), (h6, .inl (cI, 8, .inl ap))] := hD
          obtain ⟨rq_c74, erq_c74⟩ : ∃ z, z = (f_X3_removeRow 6 rq_36 36 fr_36 (f_X0_firstLate rq_36 fr_36 (day + 1) grace)).1 := ⟨_, rfl⟩
          rw [← erq_c74] at hP hD
          obtain ⟨fr_c74, efr_c74⟩ : ∃ z, z = (f_X3_removeRow 6 rq_36 36 fr_36 (f_X0_firstLate rq_36 fr_36 (day + 1) grace)).2 := ⟨_, rfl⟩
          rw [← efr_c74] at hP hD
          have eF : rr = f_X0_nextDay_c74 rm day grace x1_36 x2_36 dropped_36 spentIn_36 fm_36 rq_36 fr_36 (f_X0_nextDay_j36 rm day grace lapsedLate n36) rq_c74 fr_c74 := eF.trans (by rw [f_X0_nextDay_j36, if_neg cL36, if_neg c_2, erq_c74, efr_c74])
          refine lv_iload_n hx hb dX0_nextDay_74 rfl (lv_at hl 3 rfl) ?_
          refine lv_aload_n hx hb dX0_nextDay_75 rfl (lv_at hl 2 rfl) ?_
          refine lv_iload hx hb dX0_nextDay_76 (lv_at hl 0 rfl) ?_
          refine vm_rwV (As := [.int (f_X3_get 6 rq_36 36 fr_36 (f_X0_firstLate rq_36 fr_36 (day + 1) grace) 0)]) (rest := [.int x1_36]) (T := TX0) (N := 12) (wc := [(h0, .inr (0, [.ref h1, .ref h4, .ref h6, .int (day + 1), .int grace, .int longest, .int spent, .int spentIn_36, .int spendings, .int urgentSp, .int dropped_36, .int lapsedLate])), (h1, .inr (2, [.ref h2])), (h2, .inr (3, [.ref h3, .int 12, .int 8, .int rm])), (h3, .inl (cI, 96, .inl fm_36)), (h4, .inr (3, [.ref h5, .int 6, .int 6, .int rq_c74])), (h5, .inl (cI, 36, .inl fr_c74)), (h6, .inl (cI, 8, .inl ap))]) (w1 := [(h0, .inr (0, [.ref h1, .ref h4, .ref h6, .int (day + 1), .int grace, .int longest, .int spent, .int spentIn_36, .int spendings, .int urgentSp, .int ((f_X0_lapse rm fm_36 rq_c74 fr_c74 (day + 1) dropped_36 (f_X3_get 6 rq_36 36 fr_36 (f_X0_firstLate rq_36 fr_36 (day + 1) grace) 0)).2.1), .int lapsedLate])), (h1, .inr (2, [.ref h2])), (h2, .inr (3, [.ref h3, .int 12, .int 8, .int rm])), (h3, .inl (cI, 96, .inl ((f_X0_lapse rm fm_36 rq_c74 fr_c74 (day + 1) dropped_36 (f_X3_get 6 rq_36 36 fr_36 (f_X0_firstLate rq_36 fr_36 (day + 1) grace) 0)).2.2.1))), (h4, .inr (3, [.ref h5, .int 6, .int 6, .int ((f_X0_lapse rm fm_36 rq_c74 fr_c74 (day + 1) dropped_36 (f_X3_get 6 rq_36 36 fr_36 (f_X0_firstLate rq_36 fr_36 (day + 1) grace) 0)).2.2.2.1)])), (h5, .inl (cI, 36, .inl ((f_X0_lapse rm fm_36 rq_c74 fr_c74 (day + 1) dropped_36 (f_X3_get 6 rq_36 36 fr_36 (f_X0_firstLate rq_36 fr_36 (day + 1) grace) 0)).2.2.2.2))), (h6, .inl (cI, 8, .inl ap))]) ⟨hx, hb, hml, hown, hts⟩ hK hN hP hD hS hA hl.1 ⟨Nat.le_of_ble_eq_true rfl, Nat.le_of_ble_eq_true rfl⟩ (c_X0_lapse l dC dI cI cB h0 h1 h2 h3 h4 h5 h6 _ rm fm_36 rq_c74 fr_c74 ap (day + 1) grace longest spent spentIn_36 spendings urgentSp dropped_36 lapsedLate (f_X3_get 6 rq_36 36 fr_36 (f_X0_firstLate rq_36 fr_36 (day + 1) grace) 0)) (cwV 1 hts gX0_nextDay_X0_lapse rfl rfl rfl yd_X0_lapse ⟨Nat.le_of_ble_eq_true rfl, Nat.le_of_ble_eq_true rfl⟩) [0, 1, 2, 3, 4, 5, 6] rfl rfl rfl 0 rfl rfl rfl rfl (Nat.le_of_ble_eq_true rfl) dX0_nextDay_78 (fun r81 H locs hw hP hD hS => ?_)
          have hP : va_P (dC, dI) vwCl [(h0, .inr (0, [.ref h1, .ref h4, .ref h6, .int (day + 1), .int grace, .int longest, .int spent, .int spentIn_36, .int spendings, .int urgentSp, .int ((f_X0_lapse rm fm_36 rq_c74 fr_c74 (day + 1) dropped_36 (f_X3_get 6 rq_36 36 fr_36 (f_X0_firstLate rq_36 fr_36 (day + 1) grace) 0)).2.1), .int lapsedLate])), (h1, .inr (2, [.ref h2])), (h2, .inr (3, [.ref h3, .int 12, .int 8, .int rm])), (h3, .inl (cI, 96, .inl ((f_X0_lapse rm fm_36 rq_c74 fr_c74 (day + 1) dropped_36 (f_X3_get 6 rq_36 36 fr_36 (f_X0_firstLate rq_36 fr_36 (day + 1) grace) 0)).2.2.1))), (h4, .inr (3, [.ref h5, .int 6, .int 6, .int ((f_X0_lapse rm fm_36 rq_c74 fr_c74 (day + 1) dropped_36 (f_X3_get 6 rq_36 36 fr_36 (f_X0_firstLate rq_36 fr_36 (day + 1) grace) 0)).2.2.2.1)])), (h5, .inl (cI, 36, .inl ((f_X0_lapse rm fm_36 rq_c74 fr_c74 (day + 1) dropped_36 (f_X3_get 6 rq_36 36 fr_36 (f_X0_firstLate rq_36 fr_36 (day + 1) grace) 0)).2.2.2.2))), (h6, .inl (cI, 8, .inl ap))] H := hP
          have hD : va_D A [(h0, .inr (0, [.ref h1, .ref h4, .ref h6, .int (day + 1), .int grace, .int longest, .int spent, .int spentIn_36, .int spendings, .int urgentSp, .int ((f_X0_lapse rm fm_36 rq_c74 fr_c74 (day + 1) dropped_36 (f_X3_get 6 rq_36 36 fr_36 (f_X0_firstLate rq_36 fr_36 (day + 1) grace) 0)).2.1), .int lapsedLate])), (h1, .inr (2, [.ref h2])), (h2, .inr (3, [.ref h3, .int 12, .int 8, .int rm])), (h3, .inl (cI, 96, .inl ((f_X0_lapse rm fm_36 rq_c74 fr_c74 (day + 1) dropped_36 (f_X3_get 6 rq_36 36 fr_36 (f_X0_firstLate rq_36 fr_36 (day + 1) grace) 0)).2.2.1))), (h4, .inr (3, [.ref h5, .int 6, .int 6, .int ((f_X0_lapse rm fm_36 rq_c74 fr_c74 (day + 1) dropped_36 (f_X3_get 6 rq_36 36 fr_36 (f_X0_firstLate rq_36 fr_36 (day + 1) grace) 0)).2.2.2.1)])), (h5, .inl (cI, 36, .inl ((f_X0_lapse rm fm_36 rq_c74 fr_c74 (day + 1) dropped_36 (f_X3_get 6 rq_36 36 fr_36 (f_X0_firstLate rq_36 fr_36 (day + 1) grace) 0)).2.2.2.2))), (h6, .inl (cI, 8, .inl ap))] := hD
          obtain ⟨y81, ey81⟩ : ∃ z, z = (f_X0_lapse rm fm_36 rq_c74 fr_c74 (day + 1) dropped_36 (f_X3_get 6 rq_36 36 fr_36 (f_X0_firstLate rq_36 fr_36 (day + 1) grace) 0)).1 := ⟨_, rfl⟩
          obtain rfl : y81 = r81 := (hw.trans ey81.symm).symm
          obtain ⟨dropped_c81, edropped_c81⟩ : ∃ z, z = (f_X0_lapse rm fm_36 rq_c74 fr_c74 (day + 1) dropped_36 (f_X3_get 6 rq_36 36 fr_36 (f_X0_firstLate rq_36 fr_36 (day + 1) grace) 0)).2.1 := ⟨_, rfl⟩
          rw [← edropped_c81] at hP hD
          obtain ⟨fm_c81, efm_c81⟩ : ∃ z, z = (f_X0_lapse rm fm_36 rq_c74 fr_c74 (day + 1) dropped_36 (f_X3_get 6 rq_36 36 fr_36 (f_X0_firstLate rq_36 fr_36 (day + 1) grace) 0)).2.2.1 := ⟨_, rfl⟩
          rw [← efm_c81] at hP hD
          obtain ⟨rq_c81, erq_c81⟩ : ∃ z, z = (f_X0_lapse rm fm_36 rq_c74 fr_c74 (day + 1) dropped_36 (f_X3_get 6 rq_36 36 fr_36 (f_X0_firstLate rq_36 fr_36 (day + 1) grace) 0)).2.2.2.1 := ⟨_, rfl⟩
          rw [← erq_c81] at hP hD
          obtain ⟨fr_c81, efr_c81⟩ : ∃ z, z = (f_X0_lapse rm fm_36 rq_c74 fr_c74 (day + 1) dropped_36 (f_X3_get 6 rq_36 36 fr_36 (f_X0_firstLate rq_36 fr_36 (day + 1) grace) 0)).2.2.2.2 := ⟨_, rfl⟩
          rw [← efr_c81] at hP hD
          have eF : rr = f_X0_nextDay_c81 x1_36 x2_36 spentIn_36 (f_X0_nextDay_j36 rm day grace lapsedLate n36) y81 dropped_c81 fm_c81 rq_c81 fr_c81 := eF.trans (by rw [f_X0_nextDay_c74, ey81, edropped_c81, efm_c81, erq_c81, efr_c81])
          refine lv_iadd hx hb dX0_nextDay_81 ?_
          refine lv_istore_n (lv' := [(1, .int (x1_36 + y81)), (4, .int (f_X3_get 6 rq_36 36 fr_36 (f_X0_firstLate rq_36 fr_36 (day + 1) grace) 0)), (3, .int (f_X0_firstLate rq_36 fr_36 (day + 1) grace)), (0, .ref h0), (2, .int x2_36)]) hx hb dX0_nextDay_82 rfl hl (by decide) rfl (fun ls hl => ?_)
          refine lv_iinc (v := (x2_36 + 1)) (lv' := [(2, .int (x2_36 + 1)), (1, .int (x1_36 + y81)), (4, .int (f_X3_get 6 rq_36 36 fr_36 (f_X0_firstLate rq_36 fr_36 (day + 1) grace) 0)), (3, .int (f_X0_firstLate rq_36 fr_36 (day + 1) grace)), (0, .ref h0)]) hx hb dX0_nextDay_83 hl (k := 4) rfl rfl (by decide) rfl (fun ls hl => ?_)
          refine lv_goto (tgt := 36) hx hb dX0_nextDay_86 (by decide) ?_
          exact ih36 (x1_36 + y81) (x2_36 + 1) dropped_c81 spentIn_36 fm_c81 rq_c81 fr_c81 (vm_up (vm_nle cL36) hm36) (vm_nn hi36 (vm_nle cL36)) (eF.trans (by rw [f_X0_nextDay_c81])) _ _ hP hD hS ls (lv_sub hl [4, 1, 0] rfl)
        · refine lv_goto (tgt := 89) hx hb dX0_nextDay_52 (by decide) ?_
          exact hJ89 x1_36 dropped_36 spentIn_36 fm_36 rq_36 fr_36 (eF.trans (by rw [f_X0_nextDay_j36, if_neg cL36, if_pos c_2])) _ _ hP hD hS ls (lv_sub hl [1, 2] rfl)
  have hJ32 : ∀ (spentIn_32 : Int32) (fm_32 : Nat → Int32), rr = f_X0_nextDay_j32 rm rq fr day grace dropped lapsedLate spentIn_32 fm_32 → ∀ (H : Heap) (locs : List Loc), va_P (dC, dI) vwCl [(h0, .inr (0, [.ref h1, .ref h4, .ref h6, .int (day + 1), .int grace, .int longest, .int spent, .int spentIn_32, .int spendings, .int urgentSp, .int dropped, .int lapsedLate])), (h1, .inr (2, [.ref h2])), (h2, .inr (3, [.ref h3, .int 12, .int 8, .int rm])), (h3, .inl (cI, 96, .inl fm_32)), (h4, .inr (3, [.ref h5, .int 6, .int 6, .int rq])), (h5, .inl (cI, 36, .inl fr)), (h6, .inl (cI, 8, .inl ap))] H → va_D A [(h0, .inr (0, [.ref h1, .ref h4, .ref h6, .int (day + 1), .int grace, .int longest, .int spent, .int spentIn_32, .int spendings, .int urgentSp, .int dropped, .int lapsedLate])), (h1, .inr (2, [.ref h2])), (h2, .inr (3, [.ref h3, .int 12, .int 8, .int rm])), (h3, .inl (cI, 96, .inl fm_32)), (h4, .inr (3, [.ref h5, .int 6, .int 6, .int rq])), (h5, .inl (cI, 36, .inl fr)), (h6, .inl (cI, 8, .inl ap))] → va_S A s.heap H locs → ∀ (ls : Array Slot), lv_has ls 5 [(0, .ref h0)] → W p l e (headSpec wsX0_nextDay ({ frames := 4, cells := 0, slots := 0, locals := 90 })).room s m ([.ref h0] : List Value).toArray below meth c H locs 0 0 (MQ below (va_Qi (fun (r9 : Int32) (_ : Unit) => r9 = rr.1) (fun _ t => va_P (dC, dI) vwCl [(h0, .inr (0, [.ref h1, .ref h4, .ref h6, .int rr.2.2.2.1, .int grace, .int longest, .int spent, .int rr.2.2.2.2.1, .int spendings, .int urgentSp, .int rr.2.1, .int rr.2.2.1])), (h1, .inr (2, [.ref h2])), (h2, .inr (3, [.ref h3, .int 12, .int 8, .int rm])), (h3, .inl (cI, 96, .inl rr.2.2.2.2.2.1)), (h4, .inr (3, [.ref h5, .int 6, .int 6, .int rr.2.2.2.2.2.2.1])), (h5, .inl (cI, 36, .inl rr.2.2.2.2.2.2.2)), (h6, .inl (cI, 8, .inl ap))] t.heap) A) ([.ref h0] : List Value).toArray s 0 0 A) (F0 m 32 ls []) := by
    intro spentIn_32 fm_32 eF H locs hP hD hS ls hl
    refine lv_iconst (v := 0) hx hb dX0_nextDay_32 (by decide) ?_
    refine lv_istore_n (lv' := [(1, .int 0), (0, .ref h0)]) hx hb dX0_nextDay_33 rfl hl (by decide) rfl (fun ls hl => ?_)
    refine lv_iconst (v := 0) hx hb dX0_nextDay_34 (by decide) ?_
    refine lv_istore_n (lv' := [(2, .int 0), (1, .int 0), (0, .ref h0)]) hx hb dX0_nextDay_35 rfl hl (by decide) rfl (fun ls hl => ?_)
    exact hJ36 ((((6 : Int32)).toInt - ((0 : Int32)).toInt).toNat + 1) 0 0 dropped spentIn_32 fm_32 rq fr (Nat.lt_succ_self _) (by decide) (eF.trans (by rw [f_X0_nextDay_j32])) _ _ hP hD hS ls (lv_sub hl [2, 1, 0] rfl)
  refine lv_aload_n hx hb dX0_nextDay_0 rfl (lv_at hl 0 rfl) ?_
  refine lv_dup hx hb dX0_nextDay_1 rfl ?_
  refine va_get (D := (dC, dI)) (ci := 0) (v := .int day) (C := RX0) (T := TX0) (N := 12) hx hb hts iwsX00 hown hK hP 0 rfl rfl 3 (by decide) kw1 (fun _ h9 => h9) rfl dX0_nextDay_2 ?_
  refine lv_iconst (v := 1) hx hb dX0_nextDay_5 (by decide) ?_
  refine lv_iadd hx hb dX0_nextDay_6 ?_
  refine va_put (D := (dC, dI)) (ci := 0) (v := .int (day + 1)) (ty := .int) (C := RX0) (T := TX0) (N := 12) hx hb hts iwsX00 tyX0 tyX0_ok nmX0 hown hK hP hD hS 0 rfl rfl 3 (by decide) kw1 (fun _ h9 => h9) rfl (by decide +kernel) rfl rfl (Nat.le_of_ble_eq_true rfl) dX0_nextDay_7 (fun H locs hP hD hS => ?_)
  have hP : va_P (dC, dI) vwCl [(h0, .inr (0, [.ref h1, .ref h4, .ref h6, .int (day + 1), .int grace, .int longest, .int spent, .int spentIn, .int spendings, .int urgentSp, .int dropped, .int lapsedLate])), (h1, .inr (2, [.ref h2])), (h2, .inr (3, [.ref h3, .int 12, .int 8, .int rm])), (h3, .inl (cI, 96, .inl fm)), (h4, .inr (3, [.ref h5, .int 6, .int 6, .int rq])), (h5, .inl (cI, 36, .inl fr)), (h6, .inl (cI, 8, .inl ap))] H := hP
  have hD : va_D A [(h0, .inr (0, [.ref h1, .ref h4, .ref h6, .int (day + 1), .int grace, .int longest, .int spent, .int spentIn, .int spendings, .int urgentSp, .int dropped, .int lapsedLate])), (h1, .inr (2, [.ref h2])), (h2, .inr (3, [.ref h3, .int 12, .int 8, .int rm])), (h3, .inl (cI, 96, .inl fm)), (h4, .inr (3, [.ref h5, .int 6, .int 6, .int rq])), (h5, .inl (cI, 36, .inl fr)), (h6, .inl (cI, 8, .inl ap))] := hD
  refine lv_aload_n hx hb dX0_nextDay_10 rfl (lv_at hl 0 rfl) ?_
  refine va_get (D := (dC, dI)) (ci := 0) (v := .int (day + 1)) (C := RX0) (T := TX0) (N := 12) hx hb hts iwsX00 hown hK hP 0 rfl rfl 3 (by decide) kw1 (fun _ h9 => h9) rfl dX0_nextDay_11 ?_
  refine lv_bipush (v := 10) hx hb dX0_nextDay_14 (by decide) ?_
  refine lv_irem hx hb dX0_nextDay_16 (by decide) ?_
  refine lv_if_ne (tgt := 32) hx hb dX0_nextDay_17 (by decide) (fun c_3 => ?_) (fun c_3 => ?_)
  · exact hJ32 spentIn fm (eF.trans (by rw [f_X0_nextDay, if_neg c_3])) _ _ hP hD hS ls (lv_sub hl [0] rfl)
  · refine lv_aload_n hx hb dX0_nextDay_20 rfl (lv_at hl 0 rfl) ?_
    refine va_get (D := (dC, dI)) (ci := 0) (v := .ref h1) (C := RX0) (T := TX0) (N := 12) hx hb hts iwsX00 hown hK hP 0 rfl rfl 0 (by decide) kw2 (fun _ h9 => h9) rfl dX0_nextDay_21 ?_
    refine vm_rwVv (As := []) (rest := []) (T := TX2) (N := 1) (wc := [(h1, .inr (2, [.ref h2])), (h2, .inr (3, [.ref h3, .int 12, .int 8, .int rm])), (h3, .inl (cI, 96, .inl fm))]) (w1 := [(h1, .inr (2, [.ref h2])), (h2, .inr (3, [.ref h3, .int 12, .int 8, .int rm])), (h3, .inl (cI, 96, .inl (f_X2_clearSums rm fm)))]) ⟨hx, hb, hml, hown, hts⟩ hK hN hP hD hS hA hl.1 ⟨Nat.le_of_ble_eq_true rfl, Nat.le_of_ble_eq_true rfl⟩ (c_X2_clearSums l dC dI cI cB h1 h2 h3 _ rm fm) (cwV 0 hts gX0_nextDay_X2_clearSums rfl rfl rfl yd_X2_clearSums ⟨Nat.le_of_ble_eq_true rfl, Nat.le_of_ble_eq_true rfl⟩) [1, 2, 3] rfl rfl rfl 2 rfl rfl rfl rfl (Nat.le_of_ble_eq_true rfl) dX0_nextDay_24 (fun H locs hP hD hS => ?_)
    have hP : va_P (dC, dI) vwCl [(h0, .inr (0, [.ref h1, .ref h4, .ref h6, .int (day + 1), .int grace, .int longest, .int spent, .int spentIn, .int spendings, .int urgentSp, .int dropped, .int lapsedLate])), (h1, .inr (2, [.ref h2])), (h2, .inr (3, [.ref h3, .int 12, .int 8, .int rm])), (h3, .inl (cI, 96, .inl (f_X2_clearSums rm fm))), (h4, .inr (3, [.ref h5, .int 6, .int 6, .int rq])), (h5, .inl (cI, 36, .inl fr)), (h6, .inl (cI, 8, .inl ap))] H := hP
    have hD : va_D A [(h0, .inr (0, [.ref h1, .ref h4, .ref h6, .int (day + 1), .int grace, .int longest, .int spent, .int spentIn, .int spendings, .int urgentSp, .int dropped, .int lapsedLate])), (h1, .inr (2, [.ref h2])), (h2, .inr (3, [.ref h3, .int 12, .int 8, .int rm])), (h3, .inl (cI, 96, .inl (f_X2_clearSums rm fm))), (h4, .inr (3, [.ref h5, .int 6, .int 6, .int rq])), (h5, .inl (cI, 36, .inl fr)), (h6, .inl (cI, 8, .inl ap))] := hD
    obtain ⟨fm_c27, efm_c27⟩ : ∃ z, z = (f_X2_clearSums rm fm) := ⟨_, rfl⟩
    rw [← efm_c27] at hP hD
    have eF : rr = f_X0_nextDay_c27 rm rq fr day grace dropped lapsedLate fm_c27 := eF.trans (by rw [f_X0_nextDay, if_pos c_3, efm_c27])
    refine lv_aload_n hx hb dX0_nextDay_27 rfl (lv_at hl 0 rfl) ?_
    refine lv_iconst (v := 0) hx hb dX0_nextDay_28 (by decide) ?_
    refine va_put (D := (dC, dI)) (ci := 0) (v := .int 0) (ty := .int) (C := RX0) (T := TX0) (N := 12) hx hb hts iwsX00 tyX0 tyX0_ok nmX0 hown hK hP hD hS 0 rfl rfl 7 (by decide) kw3 (fun _ h9 => h9) rfl (by decide +kernel) rfl rfl (Nat.le_of_ble_eq_true rfl) dX0_nextDay_29 (fun H locs hP hD hS => ?_)
    have hP : va_P (dC, dI) vwCl [(h0, .inr (0, [.ref h1, .ref h4, .ref h6, .int (day + 1), .int grace, .int longest, .int spent, .int 0, .int spendings, .int urgentSp, .int dropped, .int lapsedLate])), (h1, .inr (2, [.ref h2])), (h2, .inr (3, [.ref h3, .int 12, .int 8, .int rm])), (h3, .inl (cI, 96, .inl fm_c27)), (h4, .inr (3, [.ref h5, .int 6, .int 6, .int rq])), (h5, .inl (cI, 36, .inl fr)), (h6, .inl (cI, 8, .inl ap))] H := hP
    have hD : va_D A [(h0, .inr (0, [.ref h1, .ref h4, .ref h6, .int (day + 1), .int grace, .int longest, .int spent, .int 0, .int spendings, .int urgentSp, .int dropped, .int lapsedLate])), (h1, .inr (2, [.ref h2])), (h2, .inr (3, [.ref h3, .int 12, .int 8, .int rm])), (h3, .inl (cI, 96, .inl fm_c27)), (h4, .inr (3, [.ref h5, .int 6, .int 6, .int rq])), (h5, .inl (cI, 36, .inl fr)), (h6, .inl (cI, 8, .inl ap))] := hD
    exact hJ32 0 fm_c27 (eF.trans (by rw [f_X0_nextDay_c27])) _ _ hP hD hS ls (lv_sub hl [0] rfl)

def f_X0_waitingBy_j34 (x2_4 : Int32) (x3_4 : Int32) (kj4 : Int32 → Int32 → Int32) (s0_34 : Bool) : Int32 :=
  kj4 (x2_4 + (vm_bi s0_34)) (x3_4 + 1)
def f_X0_waitingBy_j4 (rq : Int32) (fr : Nat → Int32) (p1 : Int32) : Nat → Int32 → Int32 → Int32
  | 0, _, _ => 0
  | n4 + 1, x2_4, x3_4 => if rq ≤ x3_4 then
      x2_4
    else
      if (f_X3_get 6 rq 36 fr x3_4 0) = p1 then
        f_X0_waitingBy_j34 x2_4 x3_4 (f_X0_waitingBy_j4 rq fr p1 n4) true
      else
        f_X0_waitingBy_j34 x2_4 x3_4 (f_X0_waitingBy_j4 rq fr p1 n4) false
def f_X0_waitingBy (rq : Int32) (fr : Nat → Int32) (p1 : Int32) : Int32 :=
  f_X0_waitingBy_j4 rq fr p1 (((rq).toInt - ((0 : Int32)).toInt).toNat + 1) 0 0
theorem yd_X0_waitingBy : yX0_waitingBy.cls = RX0 ∧ yX0_waitingBy.cls ≠ "java/lang/invoke/MethodHandle" ∧ yX0_waitingBy.cls ≠ "java/lang/invoke/VarHandle" ∧ (parseMethodDescriptor yX0_waitingBy.desc).map (fun d => d.parameters.length) = some 1 := by decide +kernel
set_option maxHeartbeats 4000000 in
set_option maxRecDepth 100000 in
theorem c_X0_waitingBy (l : Launch) (dC : Nat → ClassId) (dI : Nat → Nat → Nat) (cI cB : ClassId) (h0 h1 h2 h3 h4 h5 h6 : Nat) (rm : Int32) (fm : Nat → Int32) (rq : Int32) (fr : Nat → Int32) (ap : Nat → Int32) (day : Int32) (grace : Int32) (longest : Int32) (spent : Int32) (spentIn : Int32) (spendings : Int32) (urgentSp : Int32) (dropped : Int32) (lapsedLate : Int32) (p1 : Int32) : Met l yX0_waitingBy wsX0_waitingBy ({ frames := 1, cells := 0, slots := 0, locals := 23 }) (vm_pre [.ref h0, .int p1] (dC, dI) [(h0, .inr (0, [.ref h1, .ref h4, .ref h6, .int day, .int grace, .int longest, .int spent, .int spentIn, .int spendings, .int urgentSp, .int dropped, .int lapsedLate])), (h1, .inr (2, [.ref h2])), (h2, .inr (3, [.ref h3, .int 12, .int 8, .int rm])), (h3, .inl (cI, 96, .inl fm)), (h4, .inr (3, [.ref h5, .int 6, .int 6, .int rq])), (h5, .inl (cI, 36, .inl fr)), (h6, .inl (cI, 8, .inl ap))] cI cB) (vp_Si (fun r9 : Int32 => r9 = (f_X0_waitingBy rq fr p1))) 0 0 (fun _ => False) := by
  refine Met.ofW (cc := cX0_waitingBy) (maxL := 4) (ret := (some .int)) (by decide) rfl ?_
  intro p e s m args below meth c s₁ B hml hv
  obtain ⟨rfl, hP, hK, hN⟩ := hv
  have hx := B.exec
  have hb := B.bytes
  have hr := B.returns
  have hts := atoms_spec (ws := wsX0_waitingBy) B.pre
  have hown : s.vm.findClass RX0 = some m.cls := findClass_of_methodNamed B.named
  have hlocks := B.notSynchronized
  have kw1 := hts (.fieldLink RX0 23 "LapseMandates$Book" "requests" "LLapseMandates$Table;") (List.mem_of_getElem? (i := 1) rfl)
  have iwsX00 : ∀ w ∈ wsX00, w ∈ wsX0_waitingBy := fun w h => List.mem_cons_of_mem _ (List.mem_append_left _ (List.mem_append_right _ h))
  have iwsX30 : ∀ w ∈ wsX30, w ∈ wsX0_waitingBy := fun w h => List.mem_cons_of_mem _ (List.mem_append_right _ h)
  generalize hrr : f_X0_waitingBy rq fr p1 = rr
  have eF := hrr.symm
  have hl := lv_entry ([.ref h0, .int p1]) (n := 4) (Nat.le_of_ble_eq_true rfl)
  rw [lg_entry_eq]
  generalize (lg_sl ([.ref h0, .int p1]) ++ List.replicate (4 - (lg_sl ([.ref h0, .int p1])).length) Slot.unset).toArray = ls at hl ⊢
  have hl : lv_has ls 4 [(0, .ref h0), (1, .int p1)] := hl
  have hJ4 : ∀ (n4 : Nat) (x2_4 : Int32) (x3_4 : Int32), ((rq).toInt - (x3_4).toInt).toNat < n4 → 0 ≤ x3_4 → rr = f_X0_waitingBy_j4 rq fr p1 n4 x2_4 x3_4 → ∀ (ls : Array Slot), lv_has ls 4 [(0, .ref h0), (1, .int p1), (2, .int x2_4), (3, .int x3_4)] → W p l e (headSpec wsX0_waitingBy ({ frames := 1, cells := 0, slots := 0, locals := 23 })).room s m ([.ref h0, .int p1] : List Value).toArray below meth c s.heap [] 0 0 (MQ below (vp_Si (fun r9 : Int32 => r9 = rr)) ([.ref h0, .int p1] : List Value).toArray s 0 0 (fun _ => False)) (F0 m 4 ls []) := by
    intro n4
    induction n4 with
    | zero =>
      intro x2_4 x3_4 hm4
      exact absurd hm4 (Nat.not_lt_zero _)
    | succ n4 ih4 =>
      intro x2_4 x3_4 hm4 hi4 eF ls hl
      have hJ34 : ∀ (s0_34 : Bool), ¬ rq ≤ x3_4 → rr = f_X0_waitingBy_j34 x2_4 x3_4 (f_X0_waitingBy_j4 rq fr p1 n4) s0_34 → ∀ (ls : Array Slot), lv_has ls 4 [(0, .ref h0), (1, .int p1), (3, .int x3_4)] → W p l e (headSpec wsX0_waitingBy ({ frames := 1, cells := 0, slots := 0, locals := 23 })).room s m ([.ref h0, .int p1] : List Value).toArray below meth c s.heap [] 0 0 (MQ below (vp_Si (fun r9 : Int32 => r9 = rr)) ([.ref h0, .int p1] : List Value).toArray s 0 0 (fun _ => False)) (F0 m 34 ls [.int (vm_bi s0_34), .int x2_4]) := by
        intro s0_34 cL4 eF ls hl
        refine lv_iadd hx hb dX0_waitingBy_34 ?_
        refine lv_istore_n (lv' := [(2, .int (x2_4 + (vm_bi s0_34))), (0, .ref h0), (1, .int p1), (3, .int x3_4)]) hx hb dX0_waitingBy_35 rfl hl (by decide) rfl (fun ls hl => ?_)
        refine lv_iinc (v := (x3_4 + 1)) (lv' := [(3, .int (x3_4 + 1)), (2, .int (x2_4 + (vm_bi s0_34))), (0, .ref h0), (1, .int p1)]) hx hb dX0_waitingBy_36 hl (k := 3) rfl rfl (by decide) rfl (fun ls hl => ?_)
        refine lv_goto (tgt := 4) hx hb dX0_waitingBy_39 (by decide) ?_
        exact ih4 (x2_4 + (vm_bi s0_34)) (x3_4 + 1) (vm_up (vm_nle cL4) hm4) (vm_nn hi4 (vm_nle cL4)) (eF.trans (by rw [f_X0_waitingBy_j34])) ls (lv_sub hl [2, 3, 1, 0] rfl)
      refine lv_iload_n hx hb dX0_waitingBy_4 rfl (lv_at hl 3 rfl) ?_
      refine lv_aload_n hx hb dX0_waitingBy_5 rfl (lv_at hl 0 rfl) ?_
      refine va_get (D := (dC, dI)) (ci := 0) (v := .ref h4) (C := RX0) (T := TX0) (N := 12) hx hb hts iwsX00 hown hK hP 0 rfl rfl 1 (by decide) kw1 (fun _ h9 => h9) rfl dX0_waitingBy_6 ?_
      refine va_getN (D := (dC, dI)) (ci := 3) (v := .int rq) (C := RX3) (T := TX3) (N := 4) hx hb hts iwsX30 hown hK hP 4 rfl rfl 3 (by decide) (va_Nw.use rfl hN.2.2.2.2.2.1) (fun _ h9 => h9) rfl dX0_waitingBy_9 ?_
      refine lv_icmp_ge (tgt := 42) hx hb dX0_waitingBy_12 (by decide) (fun cL4 => ?_) (fun cL4 => ?_)
      · refine lv_iload_n hx hb dX0_waitingBy_42 rfl (lv_at hl 2 rfl) ?_
        have e9 : rr = x2_4 := eF.trans (by rw [f_X0_waitingBy_j4, if_pos cL4])
        exact W.iret (v := x2_4) hx hb hr (fun t ht hW => ⟨_, rfl, e9.symm, ht⟩) (fun _ hq => by cases hq) dX0_waitingBy_43
      · refine lv_iload_n hx hb dX0_waitingBy_15 rfl (lv_at hl 2 rfl) ?_
        refine lv_aload_n hx hb dX0_waitingBy_16 rfl (lv_at hl 0 rfl) ?_
        refine va_get (D := (dC, dI)) (ci := 0) (v := .ref h4) (C := RX0) (T := TX0) (N := 12) hx hb hts iwsX00 hown hK hP 0 rfl rfl 1 (by decide) kw1 (fun _ h9 => h9) rfl dX0_waitingBy_17 ?_
        refine lv_iload_n hx hb dX0_waitingBy_20 rfl (lv_at hl 3 rfl) ?_
        refine lv_iconst (v := 0) hx hb dX0_waitingBy_21 (by decide) ?_
        refine vm_roVx (v := (f_X3_get 6 rq 36 fr x3_4 0)) (As := [.int x3_4, .int 0]) (rest := [.int x2_4]) (T := TX3) (N := 4) (wc := [(h4, .inr (3, [.ref h5, .int 6, .int 6, .int rq])), (h5, .inl (cI, 36, .inl fr))]) ⟨hx, hb, hml, hown, hts⟩ hK hN hP hl.1 ⟨Nat.le_of_ble_eq_true rfl, Nat.le_of_ble_eq_true rfl⟩ (c_X3_get l dC dI cI cB h4 h5 6 6 rq 36 fr x3_4 0 (by decide)) (cwV 2 hts gX0_waitingBy_X3_get rfl rfl rfl yd_X3_get ⟨Nat.le_of_ble_eq_true rfl, Nat.le_of_ble_eq_true rfl⟩) [4, 5] rfl 3 rfl rfl rfl rfl (Nat.le_of_ble_eq_true rfl) dX0_waitingBy_22 ?_
        refine lv_iload_n hx hb dX0_waitingBy_25 rfl (lv_at hl 1 rfl) ?_
        refine lv_icmp_ne (tgt := 33) hx hb dX0_waitingBy_26 (by decide) (fun c_2 => ?_) (fun c_2 => ?_)
        · refine lv_iconst (v := 0) hx hb dX0_waitingBy_33 (by decide) ?_
          exact hJ34 false cL4 (eF.trans (by rw [f_X0_waitingBy_j4, if_neg cL4, if_neg c_2])) ls (lv_sub hl [0, 1, 3] rfl)
        · refine lv_iconst (v := 1) hx hb dX0_waitingBy_29 (by decide) ?_
          refine lv_goto (tgt := 34) hx hb dX0_waitingBy_30 (by decide) ?_
          exact hJ34 true cL4 (eF.trans (by rw [f_X0_waitingBy_j4, if_neg cL4, if_pos c_2])) ls (lv_sub hl [0, 1, 3] rfl)
  refine lv_iconst (v := 0) hx hb dX0_waitingBy_0 (by decide) ?_
  refine lv_istore_n (lv' := [(2, .int 0), (0, .ref h0), (1, .int p1)]) hx hb dX0_waitingBy_1 rfl hl (by decide) rfl (fun ls hl => ?_)
  refine lv_iconst (v := 0) hx hb dX0_waitingBy_2 (by decide) ?_
  refine lv_istore_n (lv' := [(3, .int 0), (2, .int 0), (0, .ref h0), (1, .int p1)]) hx hb dX0_waitingBy_3 rfl hl (by decide) rfl (fun ls hl => ?_)
  exact hJ4 (((rq).toInt - ((0 : Int32)).toInt).toNat + 1) 0 0 (Nat.lt_succ_self _) (by decide) (eF.trans (by rw [f_X0_waitingBy])) ls (lv_sub hl [2, 3, 1, 0] rfl)

def f_X0_approvableBy_j33 (x2_4 : Int32) (x3_4 : Int32) (kj4 : Int32 → Int32 → Int32) (s0_33 : Bool) : Int32 :=
  kj4 (x2_4 + (vm_bi s0_33)) (x3_4 + 1)
def f_X0_approvableBy_j4 (rm : Int32) (fm : Nat → Int32) (rq : Int32) (fr : Nat → Int32) (p1 : Int32) : Nat → Int32 → Int32 → Int32
  | 0, _, _ => 0
  | n4 + 1, x2_4, x3_4 => if rq ≤ x3_4 then
      x2_4
    else
      if (vm_bi (f_X0_isPersonIn (f_X0_couldApproveNow rm fm rq fr x3_4) p1)) = 0 then
        f_X0_approvableBy_j33 x2_4 x3_4 (f_X0_approvableBy_j4 rm fm rq fr p1 n4) false
      else
        f_X0_approvableBy_j33 x2_4 x3_4 (f_X0_approvableBy_j4 rm fm rq fr p1 n4) true
def f_X0_approvableBy (rm : Int32) (fm : Nat → Int32) (rq : Int32) (fr : Nat → Int32) (p1 : Int32) : Int32 :=
  f_X0_approvableBy_j4 rm fm rq fr p1 (((rq).toInt - ((0 : Int32)).toInt).toNat + 1) 0 0
theorem yd_X0_approvableBy : yX0_approvableBy.cls = RX0 ∧ yX0_approvableBy.cls ≠ "java/lang/invoke/MethodHandle" ∧ yX0_approvableBy.cls ≠ "java/lang/invoke/VarHandle" ∧ (parseMethodDescriptor yX0_approvableBy.desc).map (fun d => d.parameters.length) = some 1 := by decide +kernel
set_option maxHeartbeats 4000000 in
set_option maxRecDepth 100000 in
theorem c_X0_approvableBy (l : Launch) (dC : Nat → ClassId) (dI : Nat → Nat → Nat) (cI cB : ClassId) (h0 h1 h2 h3 h4 h5 h6 : Nat) (rm : Int32) (fm : Nat → Int32) (rq : Int32) (fr : Nat → Int32) (ap : Nat → Int32) (day : Int32) (grace : Int32) (longest : Int32) (spent : Int32) (spentIn : Int32) (spendings : Int32) (urgentSp : Int32) (dropped : Int32) (lapsedLate : Int32) (p1 : Int32) : Met l yX0_approvableBy wsX0_approvableBy ({ frames := 3, cells := 0, slots := 0, locals := 68 }) (vm_pre [.ref h0, .int p1] (dC, dI) [(h0, .inr (0, [.ref h1, .ref h4, .ref h6, .int day, .int grace, .int longest, .int spent, .int spentIn, .int spendings, .int urgentSp, .int dropped, .int lapsedLate])), (h1, .inr (2, [.ref h2])), (h2, .inr (3, [.ref h3, .int 12, .int 8, .int rm])), (h3, .inl (cI, 96, .inl fm)), (h4, .inr (3, [.ref h5, .int 6, .int 6, .int rq])), (h5, .inl (cI, 36, .inl fr)), (h6, .inl (cI, 8, .inl ap))] cI cB) (vp_Si (fun r9 : Int32 => r9 = (f_X0_approvableBy rm fm rq fr p1))) 0 0 (fun _ => False) := by
  refine Met.ofW (cc := cX0_approvableBy) (maxL := 4) (ret := (some .int)) (by decide) rfl ?_
  intro p e s m args below meth c s₁ B hml hv
  obtain ⟨rfl, hP, hK, hN⟩ := hv
  have hx := B.exec
  have hb := B.bytes
  have hr := B.returns
  have hts := atoms_spec (ws := wsX0_approvableBy) B.pre
  have hown : s.vm.findClass RX0 = some m.cls := findClass_of_methodNamed B.named
  have hlocks := B.notSynchronized
  have kw1 := hts (.fieldLink RX0 23 "LapseMandates$Book" "requests" "LLapseMandates$Table;") (List.mem_of_getElem? (i := 1) rfl)
  have iwsX00 : ∀ w ∈ wsX00, w ∈ wsX0_approvableBy := fun w h => List.mem_cons_of_mem _ (List.mem_append_left _ (List.mem_append_left _ (List.mem_append_right _ h)))
  have iwsX30 : ∀ w ∈ wsX30, w ∈ wsX0_approvableBy := fun w h => List.mem_cons_of_mem _ (List.mem_append_left _ (List.mem_append_right _ h))
  generalize hrr : f_X0_approvableBy rm fm rq fr p1 = rr
  have eF := hrr.symm
  have hl := lv_entry ([.ref h0, .int p1]) (n := 4) (Nat.le_of_ble_eq_true rfl)
  rw [lg_entry_eq]
  generalize (lg_sl ([.ref h0, .int p1]) ++ List.replicate (4 - (lg_sl ([.ref h0, .int p1])).length) Slot.unset).toArray = ls at hl ⊢
  have hl : lv_has ls 4 [(0, .ref h0), (1, .int p1)] := hl
  have hJ4 : ∀ (n4 : Nat) (x2_4 : Int32) (x3_4 : Int32), ((rq).toInt - (x3_4).toInt).toNat < n4 → 0 ≤ x3_4 → rr = f_X0_approvableBy_j4 rm fm rq fr p1 n4 x2_4 x3_4 → ∀ (ls : Array Slot), lv_has ls 4 [(0, .ref h0), (1, .int p1), (2, .int x2_4), (3, .int x3_4)] → W p l e (headSpec wsX0_approvableBy ({ frames := 3, cells := 0, slots := 0, locals := 68 })).room s m ([.ref h0, .int p1] : List Value).toArray below meth c s.heap [] 0 0 (MQ below (vp_Si (fun r9 : Int32 => r9 = rr)) ([.ref h0, .int p1] : List Value).toArray s 0 0 (fun _ => False)) (F0 m 4 ls []) := by
    intro n4
    induction n4 with
    | zero =>
      intro x2_4 x3_4 hm4
      exact absurd hm4 (Nat.not_lt_zero _)
    | succ n4 ih4 =>
      intro x2_4 x3_4 hm4 hi4 eF ls hl
      have hJ33 : ∀ (s0_33 : Bool), ¬ rq ≤ x3_4 → rr = f_X0_approvableBy_j33 x2_4 x3_4 (f_X0_approvableBy_j4 rm fm rq fr p1 n4) s0_33 → ∀ (ls : Array Slot), lv_has ls 4 [(0, .ref h0), (1, .int p1), (3, .int x3_4)] → W p l e (headSpec wsX0_approvableBy ({ frames := 3, cells := 0, slots := 0, locals := 68 })).room s m ([.ref h0, .int p1] : List Value).toArray below meth c s.heap [] 0 0 (MQ below (vp_Si (fun r9 : Int32 => r9 = rr)) ([.ref h0, .int p1] : List Value).toArray s 0 0 (fun _ => False)) (F0 m 33 ls [.int (vm_bi s0_33), .int x2_4]) := by
        intro s0_33 cL4 eF ls hl
        refine lv_iadd hx hb dX0_approvableBy_33 ?_
        refine lv_istore_n (lv' := [(2, .int (x2_4 + (vm_bi s0_33))), (0, .ref h0), (1, .int p1), (3, .int x3_4)]) hx hb dX0_approvableBy_34 rfl hl (by decide) rfl (fun ls hl => ?_)
        refine lv_iinc (v := (x3_4 + 1)) (lv' := [(3, .int (x3_4 + 1)), (2, .int (x2_4 + (vm_bi s0_33))), (0, .ref h0), (1, .int p1)]) hx hb dX0_approvableBy_35 hl (k := 3) rfl rfl (by decide) rfl (fun ls hl => ?_)
        refine lv_goto (tgt := 4) hx hb dX0_approvableBy_38 (by decide) ?_
        exact ih4 (x2_4 + (vm_bi s0_33)) (x3_4 + 1) (vm_up (vm_nle cL4) hm4) (vm_nn hi4 (vm_nle cL4)) (eF.trans (by rw [f_X0_approvableBy_j33])) ls (lv_sub hl [2, 3, 1, 0] rfl)
      refine lv_iload_n hx hb dX0_approvableBy_4 rfl (lv_at hl 3 rfl) ?_
      refine lv_aload_n hx hb dX0_approvableBy_5 rfl (lv_at hl 0 rfl) ?_
      refine va_get (D := (dC, dI)) (ci := 0) (v := .ref h4) (C := RX0) (T := TX0) (N := 12) hx hb hts iwsX00 hown hK hP 0 rfl rfl 1 (by decide) kw1 (fun _ h9 => h9) rfl dX0_approvableBy_6 ?_
      refine va_getN (D := (dC, dI)) (ci := 3) (v := .int rq) (C := RX3) (T := TX3) (N := 4) hx hb hts iwsX30 hown hK hP 4 rfl rfl 3 (by decide) (va_Nw.use rfl hN.2.2.2.2.2.1) (fun _ h9 => h9) rfl dX0_approvableBy_9 ?_
      refine lv_icmp_ge (tgt := 41) hx hb dX0_approvableBy_12 (by decide) (fun cL4 => ?_) (fun cL4 => ?_)
      · refine lv_iload_n hx hb dX0_approvableBy_41 rfl (lv_at hl 2 rfl) ?_
        have e9 : rr = x2_4 := eF.trans (by rw [f_X0_approvableBy_j4, if_pos cL4])
        exact W.iret (v := x2_4) hx hb hr (fun t ht hW => ⟨_, rfl, e9.symm, ht⟩) (fun _ hq => by cases hq) dX0_approvableBy_42
      · refine lv_iload_n hx hb dX0_approvableBy_15 rfl (lv_at hl 2 rfl) ?_
        refine lv_aload_n hx hb dX0_approvableBy_16 rfl (lv_at hl 0 rfl) ?_
        refine lv_iload_n hx hb dX0_approvableBy_17 rfl (lv_at hl 3 rfl) ?_
        refine vm_roVx (v := (f_X0_couldApproveNow rm fm rq fr x3_4)) (As := [.int x3_4]) (rest := [.int x2_4]) (T := TX0) (N := 12) (wc := [(h0, .inr (0, [.ref h1, .ref h4, .ref h6, .int day, .int grace, .int longest, .int spent, .int spentIn, .int spendings, .int urgentSp, .int dropped, .int lapsedLate])), (h1, .inr (2, [.ref h2])), (h2, .inr (3, [.ref h3, .int 12, .int 8, .int rm])), (h3, .inl (cI, 96, .inl fm)), (h4, .inr (3, [.ref h5, .int 6, .int 6, .int rq])), (h5, .inl (cI, 36, .inl fr)), (h6, .inl (cI, 8, .inl ap))]) ⟨hx, hb, hml, hown, hts⟩ hK hN hP hl.1 ⟨Nat.le_of_ble_eq_true rfl, Nat.le_of_ble_eq_true rfl⟩ (c_X0_couldApproveNow l dC dI cI cB h0 h1 h2 h3 h4 h5 h6 rm fm rq fr ap day grace longest spent spentIn spendings urgentSp dropped lapsedLate x3_4) (cwV 1 hts gX0_approvableBy_X0_couldApproveNow rfl rfl rfl yd_X0_couldApproveNow ⟨Nat.le_of_ble_eq_true rfl, Nat.le_of_ble_eq_true rfl⟩) [0, 1, 2, 3, 4, 5, 6] rfl 0 rfl rfl rfl rfl (Nat.le_of_ble_eq_true rfl) dX0_approvableBy_18 ?_
        refine lv_iload_n hx hb dX0_approvableBy_21 rfl (lv_at hl 1 rfl) ?_
        refine vm_roSx (v := vm_bi (f_X0_isPersonIn (f_X0_couldApproveNow rm fm rq fr x3_4) p1)) (As := [.int (f_X0_couldApproveNow rm fm rq fr x3_4), .int p1]) (rest := [.int x2_4]) ⟨hx, hb, hml, hown, hts⟩ hK hN hP hl.1 ⟨Nat.le_of_ble_eq_true rfl, Nat.le_of_ble_eq_true rfl⟩ (c_X0_isPersonIn l dC dI cI cB (f_X0_couldApproveNow rm fm rq fr x3_4) p1) (va_cwS 2 hts gX0_approvableBy_X0_isPersonIn rfl rfl rfl yd_X0_isPersonIn ⟨Nat.le_of_ble_eq_true rfl, Nat.le_of_ble_eq_true rfl⟩) rfl rfl (Nat.le_of_ble_eq_true rfl) dX0_approvableBy_22 ?_
        refine lv_if_eq (tgt := 32) hx hb dX0_approvableBy_25 (by decide) (fun c_2 => ?_) (fun c_2 => ?_)
        · refine lv_iconst (v := 0) hx hb dX0_approvableBy_32 (by decide) ?_
          exact hJ33 false cL4 (eF.trans (by rw [f_X0_approvableBy_j4, if_neg cL4, if_pos c_2])) ls (lv_sub hl [0, 1, 3] rfl)
        · refine lv_iconst (v := 1) hx hb dX0_approvableBy_28 (by decide) ?_
          refine lv_goto (tgt := 33) hx hb dX0_approvableBy_29 (by decide) ?_
          exact hJ33 true cL4 (eF.trans (by rw [f_X0_approvableBy_j4, if_neg cL4, if_neg c_2])) ls (lv_sub hl [0, 1, 3] rfl)
  refine lv_iconst (v := 0) hx hb dX0_approvableBy_0 (by decide) ?_
  refine lv_istore_n (lv' := [(2, .int 0), (0, .ref h0), (1, .int p1)]) hx hb dX0_approvableBy_1 rfl hl (by decide) rfl (fun ls hl => ?_)
  refine lv_iconst (v := 0) hx hb dX0_approvableBy_2 (by decide) ?_
  refine lv_istore_n (lv' := [(3, .int 0), (2, .int 0), (0, .ref h0), (1, .int p1)]) hx hb dX0_approvableBy_3 rfl hl (by decide) rfl (fun ls hl => ?_)
  exact hJ4 (((rq).toInt - ((0 : Int32)).toInt).toNat + 1) 0 0 (Nat.lt_succ_self _) (by decide) (eF.trans (by rw [f_X0_approvableBy])) ls (lv_sub hl [2, 3, 1, 0] rfl)

def f_X0_mandateProperty (rm : Int32) (fm : Nat → Int32) (rq : Int32) (fr : Nat → Int32) (p1 : Int32) (p2 : Int32) : Int32 :=
  if p2.toInt < 0 ∨ 10 < p2.toInt then
    (f_X2_get rm fm p1 5)
  else
    if p2.toInt = 0 then
      (f_X2_get rm fm p1 0)
    else
      if p2.toInt = 1 then
        (f_X2_get rm fm p1 1)
      else
        if p2.toInt = 2 then
          (f_X2_get rm fm p1 2)
        else
          if p2.toInt = 3 then
            (f_X2_get rm fm p1 3)
          else
            if p2.toInt = 4 then
              (f_X2_get rm fm p1 4)
            else
              if p2.toInt = 5 then
                if (vm_bi (f_X2_stands rm fm p1)) = 0 then
                  0
                else
                  1
              else
                if p2.toInt = 6 then
                  (f_X2_get rm fm p1 6)
                else
                  if p2.toInt = 7 then
                    (f_X2_get rm fm p1 7)
                  else
                    if p2.toInt = 8 then
                      (f_X2_chainLength rm fm p1)
                    else
                      if p2.toInt = 9 then
                        (f_X2_standingUnder rm fm p1)
                      else
                        (f_X0_waitingBy rq fr p1)
theorem yd_X0_mandateProperty : yX0_mandateProperty.cls = RX0 ∧ yX0_mandateProperty.cls ≠ "java/lang/invoke/MethodHandle" ∧ yX0_mandateProperty.cls ≠ "java/lang/invoke/VarHandle" ∧ (parseMethodDescriptor yX0_mandateProperty.desc).map (fun d => d.parameters.length) = some 2 := by decide +kernel
set_option maxHeartbeats 4000000 in
set_option maxRecDepth 100000 in
theorem c_X0_mandateProperty (l : Launch) (dC : Nat → ClassId) (dI : Nat → Nat → Nat) (cI cB : ClassId) (h0 h1 h2 h3 h4 h5 h6 : Nat) (rm : Int32) (fm : Nat → Int32) (rq : Int32) (fr : Nat → Int32) (ap : Nat → Int32) (day : Int32) (grace : Int32) (longest : Int32) (spent : Int32) (spentIn : Int32) (spendings : Int32) (urgentSp : Int32) (dropped : Int32) (lapsedLate : Int32) (p1 : Int32) (p2 : Int32) : Met l yX0_mandateProperty wsX0_mandateProperty ({ frames := 4, cells := 0, slots := 0, locals := 88 }) (vm_pre [.ref h0, .int p1, .int p2] (dC, dI) [(h0, .inr (0, [.ref h1, .ref h4, .ref h6, .int day, .int grace, .int longest, .int spent, .int spentIn, .int spendings, .int urgentSp, .int dropped, .int lapsedLate])), (h1, .inr (2, [.ref h2])), (h2, .inr (3, [.ref h3, .int 12, .int 8, .int rm])), (h3, .inl (cI, 96, .inl fm)), (h4, .inr (3, [.ref h5, .int 6, .int 6, .int rq])), (h5, .inl (cI, 36, .inl fr)), (h6, .inl (cI, 8, .inl ap))] cI cB) (vp_Si (fun r9 : Int32 => r9 = (f_X0_mandateProperty rm fm rq fr p1 p2))) 0 0 (fun _ => False) := by
  refine Met.ofW (cc := cX0_mandateProperty) (maxL := 3) (ret := (some .int)) (by decide) rfl ?_
  intro p e s m args below meth c s₁ B hml hv
  obtain ⟨rfl, hP, hK, hN⟩ := hv
  have hx := B.exec
  have hb := B.bytes
  have hr := B.returns
  have hts := atoms_spec (ws := wsX0_mandateProperty) B.pre
  have hown : s.vm.findClass RX0 = some m.cls := findClass_of_methodNamed B.named
  have hlocks := B.notSynchronized
  have kw1 := hts (.fieldLink RX0 12 "LapseMandates$Book" "mandates" "LLapseMandates$Mandates;") (List.mem_of_getElem? (i := 1) rfl)
  have iwsX00 : ∀ w ∈ wsX00, w ∈ wsX0_mandateProperty := fun w h => List.mem_cons_of_mem _ (List.mem_append_left _ (List.mem_append_left _ (List.mem_append_right _ h)))
  generalize hrr : f_X0_mandateProperty rm fm rq fr p1 p2 = rr
  have eF := hrr.symm
  have hl := lv_entry ([.ref h0, .int p1, .int p2]) (n := 3) (Nat.le_of_ble_eq_true rfl)
  rw [lg_entry_eq]
  generalize (lg_sl ([.ref h0, .int p1, .int p2]) ++ List.replicate (3 - (lg_sl ([.ref h0, .int p1, .int p2])).length) Slot.unset).toArray = ls at hl ⊢
  have hl : lv_has ls 3 [(0, .ref h0), (1, .int p1), (2, .int p2)] := hl
  refine lv_iload_n hx hb dX0_mandateProperty_0 rfl (lv_at hl 2 rfl) ?_
  by_cases c_1 : p2.toInt < 0 ∨ 10 < p2.toInt
  · refine lv_tableOut (tgt := 173) hx hb dX0_mandateProperty_1 c_1 (by decide) ?_
    refine lv_aload_n hx hb dX0_mandateProperty_173 rfl (lv_at hl 0 rfl) ?_
    refine va_get (D := (dC, dI)) (ci := 0) (v := .ref h1) (C := RX0) (T := TX0) (N := 12) hx hb hts iwsX00 hown hK hP 0 rfl rfl 0 (by decide) kw1 (fun _ h9 => h9) rfl dX0_mandateProperty_174 ?_
    refine lv_iload_n hx hb dX0_mandateProperty_177 rfl (lv_at hl 1 rfl) ?_
    refine lv_iconst (v := 5) hx hb dX0_mandateProperty_178 (by decide) ?_
    refine vm_roVx (v := (f_X2_get rm fm p1 5)) (As := [.int p1, .int 5]) (rest := []) (T := TX2) (N := 1) (wc := [(h1, .inr (2, [.ref h2])), (h2, .inr (3, [.ref h3, .int 12, .int 8, .int rm])), (h3, .inl (cI, 96, .inl fm))]) ⟨hx, hb, hml, hown, hts⟩ hK hN hP hl.1 ⟨Nat.le_of_ble_eq_true rfl, Nat.le_of_ble_eq_true rfl⟩ (c_X2_get l dC dI cI cB h1 h2 h3 rm fm p1 5) (cwV 2 hts gX0_mandateProperty_X2_get rfl rfl rfl yd_X2_get ⟨Nat.le_of_ble_eq_true rfl, Nat.le_of_ble_eq_true rfl⟩) [1, 2, 3] rfl 2 rfl rfl rfl rfl (Nat.le_of_ble_eq_true rfl) dX0_mandateProperty_179 ?_
    have e9 : rr = (f_X2_get rm fm p1 5) := eF.trans (by rw [f_X0_mandateProperty, if_pos c_1])
    exact W.iret (v := (f_X2_get rm fm p1 5)) hx hb hr (fun t ht hW => ⟨_, rfl, e9.symm, ht⟩) (fun _ hq => by cases hq) dX0_mandateProperty_182
  · have c_1_a : ¬ p2.toInt < 0 := fun q => c_1 (Or.inl q)
    have c_1_b : ¬ 10 < p2.toInt := fun q => c_1 (Or.inr q)
    by_cases c_2 : p2.toInt = 0
    · refine lv_tableIn (off := 59) (tgt := 60) hx hb dX0_mandateProperty_1 c_1_a c_1_b (by rw [c_2]; rfl) (by decide) ?_
      refine lv_aload_n hx hb dX0_mandateProperty_60 rfl (lv_at hl 0 rfl) ?_
      refine va_get (D := (dC, dI)) (ci := 0) (v := .ref h1) (C := RX0) (T := TX0) (N := 12) hx hb hts iwsX00 hown hK hP 0 rfl rfl 0 (by decide) kw1 (fun _ h9 => h9) rfl dX0_mandateProperty_61 ?_
      refine lv_iload_n hx hb dX0_mandateProperty_64 rfl (lv_at hl 1 rfl) ?_
      refine lv_iconst (v := 0) hx hb dX0_mandateProperty_65 (by decide) ?_
      refine vm_roVx (v := (f_X2_get rm fm p1 0)) (As := [.int p1, .int 0]) (rest := []) (T := TX2) (N := 1) (wc := [(h1, .inr (2, [.ref h2])), (h2, .inr (3, [.ref h3, .int 12, .int 8, .int rm])), (h3, .inl (cI, 96, .inl fm))]) ⟨hx, hb, hml, hown, hts⟩ hK hN hP hl.1 ⟨Nat.le_of_ble_eq_true rfl, Nat.le_of_ble_eq_true rfl⟩ (c_X2_get l dC dI cI cB h1 h2 h3 rm fm p1 0) (cwV 2 hts gX0_mandateProperty_X2_get rfl rfl rfl yd_X2_get ⟨Nat.le_of_ble_eq_true rfl, Nat.le_of_ble_eq_true rfl⟩) [1, 2, 3] rfl 2 rfl rfl rfl rfl (Nat.le_of_ble_eq_true rfl) dX0_mandateProperty_66 ?_
      have e9 : rr = (f_X2_get rm fm p1 0) := eF.trans (by rw [f_X0_mandateProperty, if_neg c_1, if_pos c_2])
      exact W.iret (v := (f_X2_get rm fm p1 0)) hx hb hr (fun t ht hW => ⟨_, rfl, e9.symm, ht⟩) (fun _ hq => by cases hq) dX0_mandateProperty_69
    · skip
      by_cases c_3 : p2.toInt = 1
      · refine lv_tableIn (off := 69) (tgt := 70) hx hb dX0_mandateProperty_1 c_1_a c_1_b (by rw [c_3]; rfl) (by decide) ?_
        refine lv_aload_n hx hb dX0_mandateProperty_70 rfl (lv_at hl 0 rfl) ?_
        refine va_get (D := (dC, dI)) (ci := 0) (v := .ref h1) (C := RX0) (T := TX0) (N := 12) hx hb hts iwsX00 hown hK hP 0 rfl rfl 0 (by decide) kw1 (fun _ h9 => h9) rfl dX0_mandateProperty_71 ?_
        refine lv_iload_n hx hb dX0_mandateProperty_74 rfl (lv_at hl 1 rfl) ?_
        refine lv_iconst (v := 1) hx hb dX0_mandateProperty_75 (by decide) ?_
        refine vm_roVx (v := (f_X2_get rm fm p1 1)) (As := [.int p1, .int 1]) (rest := []) (T := TX2) (N := 1) (wc := [(h1, .inr (2, [.ref h2])), (h2, .inr (3, [.ref h3, .int 12, .int 8, .int rm])), (h3, .inl (cI, 96, .inl fm))]) ⟨hx, hb, hml, hown, hts⟩ hK hN hP hl.1 ⟨Nat.le_of_ble_eq_true rfl, Nat.le_of_ble_eq_true rfl⟩ (c_X2_get l dC dI cI cB h1 h2 h3 rm fm p1 1) (cwV 2 hts gX0_mandateProperty_X2_get rfl rfl rfl yd_X2_get ⟨Nat.le_of_ble_eq_true rfl, Nat.le_of_ble_eq_true rfl⟩) [1, 2, 3] rfl 2 rfl rfl rfl rfl (Nat.le_of_ble_eq_true rfl) dX0_mandateProperty_76 ?_
        have e9 : rr = (f_X2_get rm fm p1 1) := eF.trans (by rw [f_X0_mandateProperty, if_neg c_1, if_neg c_2, if_pos c_3])
        exact W.iret (v := (f_X2_get rm fm p1 1)) hx hb hr (fun t ht hW => ⟨_, rfl, e9.symm, ht⟩) (fun _ hq => by cases hq) dX0_mandateProperty_79
      · skip
        by_cases c_4 : p2.toInt = 2
        · refine lv_tableIn (off := 79) (tgt := 80) hx hb dX0_mandateProperty_1 c_1_a c_1_b (by rw [c_4]; rfl) (by decide) ?_
          refine lv_aload_n hx hb dX0_mandateProperty_80 rfl (lv_at hl 0 rfl) ?_
          refine va_get (D := (dC, dI)) (ci := 0) (v := .ref h1) (C := RX0) (T := TX0) (N := 12) hx hb hts iwsX00 hown hK hP 0 rfl rfl 0 (by decide) kw1 (fun _ h9 => h9) rfl dX0_mandateProperty_81 ?_
          refine lv_iload_n hx hb dX0_mandateProperty_84 rfl (lv_at hl 1 rfl) ?_
          refine lv_iconst (v := 2) hx hb dX0_mandateProperty_85 (by decide) ?_
          refine vm_roVx (v := (f_X2_get rm fm p1 2)) (As := [.int p1, .int 2]) (rest := []) (T := TX2) (N := 1) (wc := [(h1, .inr (2, [.ref h2])), (h2, .inr (3, [.ref h3, .int 12, .int 8, .int rm])), (h3, .inl (cI, 96, .inl fm))]) ⟨hx, hb, hml, hown, hts⟩ hK hN hP hl.1 ⟨Nat.le_of_ble_eq_true rfl, Nat.le_of_ble_eq_true rfl⟩ (c_X2_get l dC dI cI cB h1 h2 h3 rm fm p1 2) (cwV 2 hts gX0_mandateProperty_X2_get rfl rfl rfl yd_X2_get ⟨Nat.le_of_ble_eq_true rfl, Nat.le_of_ble_eq_true rfl⟩) [1, 2, 3] rfl 2 rfl rfl rfl rfl (Nat.le_of_ble_eq_true rfl) dX0_mandateProperty_86 ?_
          have e9 : rr = (f_X2_get rm fm p1 2) := eF.trans (by rw [f_X0_mandateProperty, if_neg c_1, if_neg c_2, if_neg c_3, if_pos c_4])
          exact W.iret (v := (f_X2_get rm fm p1 2)) hx hb hr (fun t ht hW => ⟨_, rfl, e9.symm, ht⟩) (fun _ hq => by cases hq) dX0_mandateProperty_89
        · skip
          by_cases c_5 : p2.toInt = 3
          · refine lv_tableIn (off := 89) (tgt := 90) hx hb dX0_mandateProperty_1 c_1_a c_1_b (by rw [c_5]; rfl) (by decide) ?_
            refine lv_aload_n hx hb dX0_mandateProperty_90 rfl (lv_at hl 0 rfl) ?_
            refine va_get (D := (dC, dI)) (ci := 0) (v := .ref h1) (C := RX0) (T := TX0) (N := 12) hx hb hts iwsX00 hown hK hP 0 rfl rfl 0 (by decide) kw1 (fun _ h9 => h9) rfl dX0_mandateProperty_91 ?_
            refine lv_iload_n hx hb dX0_mandateProperty_94 rfl (lv_at hl 1 rfl) ?_
            refine lv_iconst (v := 3) hx hb dX0_mandateProperty_95 (by decide) ?_
            refine vm_roVx (v := (f_X2_get rm fm p1 3)) (As := [.int p1, .int 3]) (rest := []) (T := TX2) (N := 1) (wc := [(h1, .inr (2, [.ref h2])), (h2, .inr (3, [.ref h3, .int 12, .int 8, .int rm])), (h3, .inl (cI, 96, .inl fm))]) ⟨hx, hb, hml, hown, hts⟩ hK hN hP hl.1 ⟨Nat.le_of_ble_eq_true rfl, Nat.le_of_ble_eq_true rfl⟩ (c_X2_get l dC dI cI cB h1 h2 h3 rm fm p1 3) (cwV 2 hts gX0_mandateProperty_X2_get rfl rfl rfl yd_X2_get ⟨Nat.le_of_ble_eq_true rfl, Nat.le_of_ble_eq_true rfl⟩) [1, 2, 3] rfl 2 rfl rfl rfl rfl (Nat.le_of_ble_eq_true rfl) dX0_mandateProperty_96 ?_
            have e9 : rr = (f_X2_get rm fm p1 3) := eF.trans (by rw [f_X0_mandateProperty, if_neg c_1, if_neg c_2, if_neg c_3, if_neg c_4, if_pos c_5])
            exact W.iret (v := (f_X2_get rm fm p1 3)) hx hb hr (fun t ht hW => ⟨_, rfl, e9.symm, ht⟩) (fun _ hq => by cases hq) dX0_mandateProperty_99
          · skip
            by_cases c_6 : p2.toInt = 4
            · refine lv_tableIn (off := 99) (tgt := 100) hx hb dX0_mandateProperty_1 c_1_a c_1_b (by rw [c_6]; rfl) (by decide) ?_
              refine lv_aload_n hx hb dX0_mandateProperty_100 rfl (lv_at hl 0 rfl) ?_
              refine va_get (D := (dC, dI)) (ci := 0) (v := .ref h1) (C := RX0) (T := TX0) (N := 12) hx hb hts iwsX00 hown hK hP 0 rfl rfl 0 (by decide) kw1 (fun _ h9 => h9) rfl dX0_mandateProperty_101 ?_
              refine lv_iload_n hx hb dX0_mandateProperty_104 rfl (lv_at hl 1 rfl) ?_
              refine lv_iconst (v := 4) hx hb dX0_mandateProperty_105 (by decide) ?_
              refine vm_roVx (v := (f_X2_get rm fm p1 4)) (As := [.int p1, .int 4]) (rest := []) (T := TX2) (N := 1) (wc := [(h1, .inr (2, [.ref h2])), (h2, .inr (3, [.ref h3, .int 12, .int 8, .int rm])), (h3, .inl (cI, 96, .inl fm))]) ⟨hx, hb, hml, hown, hts⟩ hK hN hP hl.1 ⟨Nat.le_of_ble_eq_true rfl, Nat.le_of_ble_eq_true rfl⟩ (c_X2_get l dC dI cI cB h1 h2 h3 rm fm p1 4) (cwV 2 hts gX0_mandateProperty_X2_get rfl rfl rfl yd_X2_get ⟨Nat.le_of_ble_eq_true rfl, Nat.le_of_ble_eq_true rfl⟩) [1, 2, 3] rfl 2 rfl rfl rfl rfl (Nat.le_of_ble_eq_true rfl) dX0_mandateProperty_106 ?_
              have e9 : rr = (f_X2_get rm fm p1 4) := eF.trans (by rw [f_X0_mandateProperty, if_neg c_1, if_neg c_2, if_neg c_3, if_neg c_4, if_neg c_5, if_pos c_6])
              exact W.iret (v := (f_X2_get rm fm p1 4)) hx hb hr (fun t ht hW => ⟨_, rfl, e9.symm, ht⟩) (fun _ hq => by cases hq) dX0_mandateProperty_109
            · skip
              by_cases c_7 : p2.toInt = 5
              · refine lv_tableIn (off := 109) (tgt := 110) hx hb dX0_mandateProperty_1 c_1_a c_1_b (by rw [c_7]; rfl) (by decide) ?_
                refine lv_aload_n hx hb dX0_mandateProperty_110 rfl (lv_at hl 0 rfl) ?_
                refine va_get (D := (dC, dI)) (ci := 0) (v := .ref h1) (C := RX0) (T := TX0) (N := 12) hx hb hts iwsX00 hown hK hP 0 rfl rfl 0 (by decide) kw1 (fun _ h9 => h9) rfl dX0_mandateProperty_111 ?_
                refine lv_iload_n hx hb dX0_mandateProperty_114 rfl (lv_at hl 1 rfl) ?_
                refine vm_roVx (v := vm_bi (f_X2_stands rm fm p1)) (As := [.int p1]) (rest := []) (T := TX2) (N := 1) (wc := [(h1, .inr (2, [.ref h2])), (h2, .inr (3, [.ref h3, .int 12, .int 8, .int rm])), (h3, .inl (cI, 96, .inl fm))]) ⟨hx, hb, hml, hown, hts⟩ hK hN hP hl.1 ⟨Nat.le_of_ble_eq_true rfl, Nat.le_of_ble_eq_true rfl⟩ (c_X2_stands l dC dI cI cB h1 h2 h3 rm fm p1) (cwV 1 hts gX0_mandateProperty_X2_stands rfl rfl rfl yd_X2_stands ⟨Nat.le_of_ble_eq_true rfl, Nat.le_of_ble_eq_true rfl⟩) [1, 2, 3] rfl 2 rfl rfl rfl rfl (Nat.le_of_ble_eq_true rfl) dX0_mandateProperty_115 ?_
                refine lv_if_eq (tgt := 125) hx hb dX0_mandateProperty_118 (by decide) (fun c_8 => ?_) (fun c_8 => ?_)
                · refine lv_iconst (v := 0) hx hb dX0_mandateProperty_125 (by decide) ?_
                  have e9 : rr = 0 := eF.trans (by rw [f_X0_mandateProperty, if_neg c_1, if_neg c_2, if_neg c_3, if_neg c_4, if_neg c_5, if_neg c_6, if_pos c_7, if_pos c_8])
                  exact W.iret (v := 0) hx hb hr (fun t ht hW => ⟨_, rfl, e9.symm, ht⟩) (fun _ hq => by cases hq) dX0_mandateProperty_126
                · refine lv_iconst (v := 1) hx hb dX0_mandateProperty_121 (by decide) ?_
                  refine lv_goto (tgt := 126) hx hb dX0_mandateProperty_122 (by decide) ?_
                  have e9 : rr = 1 := eF.trans (by rw [f_X0_mandateProperty, if_neg c_1, if_neg c_2, if_neg c_3, if_neg c_4, if_neg c_5, if_neg c_6, if_pos c_7, if_neg c_8])
                  exact W.iret (v := 1) hx hb hr (fun t ht hW => ⟨_, rfl, e9.symm, ht⟩) (fun _ hq => by cases hq) dX0_mandateProperty_126
              · skip
                by_cases c_9 : p2.toInt = 6
                · refine lv_tableIn (off := 126) (tgt := 127) hx hb dX0_mandateProperty_1 c_1_a c_1_b (by rw [c_9]; rfl) (by decide) ?_
                  refine lv_aload_n hx hb dX0_mandateProperty_127 rfl (lv_at hl 0 rfl) ?_
                  refine va_get (D := (dC, dI)) (ci := 0) (v := .ref h1) (C := RX0) (T := TX0) (N := 12) hx hb hts iwsX00 hown hK hP 0 rfl rfl 0 (by decide) kw1 (fun _ h9 => h9) rfl dX0_mandateProperty_128 ?_
                  refine lv_iload_n hx hb dX0_mandateProperty_131 rfl (lv_at hl 1 rfl) ?_
                  refine lv_bipush (v := 6) hx hb dX0_mandateProperty_132 (by decide) ?_
                  refine vm_roVx (v := (f_X2_get rm fm p1 6)) (As := [.int p1, .int 6]) (rest := []) (T := TX2) (N := 1) (wc := [(h1, .inr (2, [.ref h2])), (h2, .inr (3, [.ref h3, .int 12, .int 8, .int rm])), (h3, .inl (cI, 96, .inl fm))]) ⟨hx, hb, hml, hown, hts⟩ hK hN hP hl.1 ⟨Nat.le_of_ble_eq_true rfl, Nat.le_of_ble_eq_true rfl⟩ (c_X2_get l dC dI cI cB h1 h2 h3 rm fm p1 6) (cwV 2 hts gX0_mandateProperty_X2_get rfl rfl rfl yd_X2_get ⟨Nat.le_of_ble_eq_true rfl, Nat.le_of_ble_eq_true rfl⟩) [1, 2, 3] rfl 2 rfl rfl rfl rfl (Nat.le_of_ble_eq_true rfl) dX0_mandateProperty_134 ?_
                  have e9 : rr = (f_X2_get rm fm p1 6) := eF.trans (by rw [f_X0_mandateProperty, if_neg c_1, if_neg c_2, if_neg c_3, if_neg c_4, if_neg c_5, if_neg c_6, if_neg c_7, if_pos c_9])
                  exact W.iret (v := (f_X2_get rm fm p1 6)) hx hb hr (fun t ht hW => ⟨_, rfl, e9.symm, ht⟩) (fun _ hq => by cases hq) dX0_mandateProperty_137
                · skip
                  by_cases c_10 : p2.toInt = 7
                  · refine lv_tableIn (off := 137) (tgt := 138) hx hb dX0_mandateProperty_1 c_1_a c_1_b (by rw [c_10]; rfl) (by decide) ?_
                    refine lv_aload_n hx hb dX0_mandateProperty_138 rfl (lv_at hl 0 rfl) ?_
                    refine va_get (D := (dC, dI)) (ci := 0) (v := .ref h1) (C := RX0) (T := TX0) (N := 12) hx hb hts iwsX00 hown hK hP 0 rfl rfl 0 (by decide) kw1 (fun _ h9 => h9) rfl dX0_mandateProperty_139 ?_
                    refine lv_iload_n hx hb dX0_mandateProperty_142 rfl (lv_at hl 1 rfl) ?_
                    refine lv_bipush (v := 7) hx hb dX0_mandateProperty_143 (by decide) ?_
                    refine vm_roVx (v := (f_X2_get rm fm p1 7)) (As := [.int p1, .int 7]) (rest := []) (T := TX2) (N := 1) (wc := [(h1, .inr (2, [.ref h2])), (h2, .inr (3, [.ref h3, .int 12, .int 8, .int rm])), (h3, .inl (cI, 96, .inl fm))]) ⟨hx, hb, hml, hown, hts⟩ hK hN hP hl.1 ⟨Nat.le_of_ble_eq_true rfl, Nat.le_of_ble_eq_true rfl⟩ (c_X2_get l dC dI cI cB h1 h2 h3 rm fm p1 7) (cwV 2 hts gX0_mandateProperty_X2_get rfl rfl rfl yd_X2_get ⟨Nat.le_of_ble_eq_true rfl, Nat.le_of_ble_eq_true rfl⟩) [1, 2, 3] rfl 2 rfl rfl rfl rfl (Nat.le_of_ble_eq_true rfl) dX0_mandateProperty_145 ?_
                    have e9 : rr = (f_X2_get rm fm p1 7) := eF.trans (by rw [f_X0_mandateProperty, if_neg c_1, if_neg c_2, if_neg c_3, if_neg c_4, if_neg c_5, if_neg c_6, if_neg c_7, if_neg c_9, if_pos c_10])
                    exact W.iret (v := (f_X2_get rm fm p1 7)) hx hb hr (fun t ht hW => ⟨_, rfl, e9.symm, ht⟩) (fun _ hq => by cases hq) dX0_mandateProperty_148
                  · skip
                    by_cases c_11 : p2.toInt = 8
                    · refine lv_tableIn (off := 148) (tgt := 149) hx hb dX0_mandateProperty_1 c_1_a c_1_b (by rw [c_11]; rfl) (by decide) ?_
                      refine lv_aload_n hx hb dX0_mandateProperty_149 rfl (lv_at hl 0 rfl) ?_
                      refine va_get (D := (dC, dI)) (ci := 0) (v := .ref h1) (C := RX0) (T := TX0) (N := 12) hx hb hts iwsX00 hown hK hP 0 rfl rfl 0 (by decide) kw1 (fun _ h9 => h9) rfl dX0_mandateProperty_150 ?_
                      refine lv_iload_n hx hb dX0_mandateProperty_153 rfl (lv_at hl 1 rfl) ?_
                      refine vm_roVx (v := (f_X2_chainLength rm fm p1)) (As := [.int p1]) (rest := []) (T := TX2) (N := 1) (wc := [(h1, .inr (2, [.ref h2])), (h2, .inr (3, [.ref h3, .int 12, .int 8, .int rm])), (h3, .inl (cI, 96, .inl fm))]) ⟨hx, hb, hml, hown, hts⟩ hK hN hP hl.1 ⟨Nat.le_of_ble_eq_true rfl, Nat.le_of_ble_eq_true rfl⟩ (c_X2_chainLength l dC dI cI cB h1 h2 h3 rm fm p1) (cwV 1 hts gX0_mandateProperty_X2_chainLength rfl rfl rfl yd_X2_chainLength ⟨Nat.le_of_ble_eq_true rfl, Nat.le_of_ble_eq_true rfl⟩) [1, 2, 3] rfl 2 rfl rfl rfl rfl (Nat.le_of_ble_eq_true rfl) dX0_mandateProperty_154 ?_
                      have e9 : rr = (f_X2_chainLength rm fm p1) := eF.trans (by rw [f_X0_mandateProperty, if_neg c_1, if_neg c_2, if_neg c_3, if_neg c_4, if_neg c_5, if_neg c_6, if_neg c_7, if_neg c_9, if_neg c_10, if_pos c_11])
                      exact W.iret (v := (f_X2_chainLength rm fm p1)) hx hb hr (fun t ht hW => ⟨_, rfl, e9.symm, ht⟩) (fun _ hq => by cases hq) dX0_mandateProperty_157
                    · skip
                      by_cases c_12 : p2.toInt = 9
                      · refine lv_tableIn (off := 157) (tgt := 158) hx hb dX0_mandateProperty_1 c_1_a c_1_b (by rw [c_12]; rfl) (by decide) ?_
                        refine lv_aload_n hx hb dX0_mandateProperty_158 rfl (lv_at hl 0 rfl) ?_
                        refine va_get (D := (dC, dI)) (ci := 0) (v := .ref h1) (C := RX0) (T := TX0) (N := 12) hx hb hts iwsX00 hown hK hP 0 rfl rfl 0 (by decide) kw1 (fun _ h9 => h9) rfl dX0_mandateProperty_159 ?_
                        refine lv_iload_n hx hb dX0_mandateProperty_162 rfl (lv_at hl 1 rfl) ?_
                        refine vm_roVx (v := (f_X2_standingUnder rm fm p1)) (As := [.int p1]) (rest := []) (T := TX2) (N := 1) (wc := [(h1, .inr (2, [.ref h2])), (h2, .inr (3, [.ref h3, .int 12, .int 8, .int rm])), (h3, .inl (cI, 96, .inl fm))]) ⟨hx, hb, hml, hown, hts⟩ hK hN hP hl.1 ⟨Nat.le_of_ble_eq_true rfl, Nat.le_of_ble_eq_true rfl⟩ (c_X2_standingUnder l dC dI cI cB h1 h2 h3 rm fm p1) (cwV 1 hts gX0_mandateProperty_X2_standingUnder rfl rfl rfl yd_X2_standingUnder ⟨Nat.le_of_ble_eq_true rfl, Nat.le_of_ble_eq_true rfl⟩) [1, 2, 3] rfl 2 rfl rfl rfl rfl (Nat.le_of_ble_eq_true rfl) dX0_mandateProperty_163 ?_
                        have e9 : rr = (f_X2_standingUnder rm fm p1) := eF.trans (by rw [f_X0_mandateProperty, if_neg c_1, if_neg c_2, if_neg c_3, if_neg c_4, if_neg c_5, if_neg c_6, if_neg c_7, if_neg c_9, if_neg c_10, if_neg c_11, if_pos c_12])
                        exact W.iret (v := (f_X2_standingUnder rm fm p1)) hx hb hr (fun t ht hW => ⟨_, rfl, e9.symm, ht⟩) (fun _ hq => by cases hq) dX0_mandateProperty_166
                      · skip
                        have c_13 : p2.toInt = 10 := by omega
                        refine lv_tableIn (off := 166) (tgt := 167) hx hb dX0_mandateProperty_1 c_1_a c_1_b (by rw [c_13]; rfl) (by decide) ?_
                        refine lv_aload_n hx hb dX0_mandateProperty_167 rfl (lv_at hl 0 rfl) ?_
                        refine lv_iload_n hx hb dX0_mandateProperty_168 rfl (lv_at hl 1 rfl) ?_
                        refine vm_roVx (v := (f_X0_waitingBy rq fr p1)) (As := [.int p1]) (rest := []) (T := TX0) (N := 12) (wc := [(h0, .inr (0, [.ref h1, .ref h4, .ref h6, .int day, .int grace, .int longest, .int spent, .int spentIn, .int spendings, .int urgentSp, .int dropped, .int lapsedLate])), (h1, .inr (2, [.ref h2])), (h2, .inr (3, [.ref h3, .int 12, .int 8, .int rm])), (h3, .inl (cI, 96, .inl fm)), (h4, .inr (3, [.ref h5, .int 6, .int 6, .int rq])), (h5, .inl (cI, 36, .inl fr)), (h6, .inl (cI, 8, .inl ap))]) ⟨hx, hb, hml, hown, hts⟩ hK hN hP hl.1 ⟨Nat.le_of_ble_eq_true rfl, Nat.le_of_ble_eq_true rfl⟩ (c_X0_waitingBy l dC dI cI cB h0 h1 h2 h3 h4 h5 h6 rm fm rq fr ap day grace longest spent spentIn spendings urgentSp dropped lapsedLate p1) (cwV 1 hts gX0_mandateProperty_X0_waitingBy rfl rfl rfl yd_X0_waitingBy ⟨Nat.le_of_ble_eq_true rfl, Nat.le_of_ble_eq_true rfl⟩) [0, 1, 2, 3, 4, 5, 6] rfl 0 rfl rfl rfl rfl (Nat.le_of_ble_eq_true rfl) dX0_mandateProperty_169 ?_
                        have e9 : rr = (f_X0_waitingBy rq fr p1) := eF.trans (by rw [f_X0_mandateProperty, if_neg c_1, if_neg c_2, if_neg c_3, if_neg c_4, if_neg c_5, if_neg c_6, if_neg c_7, if_neg c_9, if_neg c_10, if_neg c_11, if_neg c_12])
                        exact W.iret (v := (f_X0_waitingBy rq fr p1)) hx hb hr (fun t ht hW => ⟨_, rfl, e9.symm, ht⟩) (fun _ hq => by cases hq) dX0_mandateProperty_172

def f_X0_requestProperty (rm : Int32) (fm : Nat → Int32) (rq : Int32) (fr : Nat → Int32) (p1 : Int32) (p2 : Int32) : Int32 :=
  if p2.toInt < 0 ∨ 5 < p2.toInt then
    (f_X0_couldApproveNow rm fm rq fr p1)
  else
    if p2.toInt = 0 then
      (f_X3_get 6 rq 36 fr p1 0)
    else
      if p2.toInt = 1 then
        (f_X3_get 6 rq 36 fr p1 1)
      else
        if p2.toInt = 2 then
          (f_X3_get 6 rq 36 fr p1 2)
        else
          if p2.toInt = 3 then
            (f_X3_get 6 rq 36 fr p1 3)
          else
            if p2.toInt = 4 then
              (f_X3_get 6 rq 36 fr p1 4)
            else
              (f_X3_get 6 rq 36 fr p1 5)
theorem yd_X0_requestProperty : yX0_requestProperty.cls = RX0 ∧ yX0_requestProperty.cls ≠ "java/lang/invoke/MethodHandle" ∧ yX0_requestProperty.cls ≠ "java/lang/invoke/VarHandle" ∧ (parseMethodDescriptor yX0_requestProperty.desc).map (fun d => d.parameters.length) = some 2 := by decide +kernel
set_option maxHeartbeats 4000000 in
set_option maxRecDepth 100000 in
theorem c_X0_requestProperty (l : Launch) (dC : Nat → ClassId) (dI : Nat → Nat → Nat) (cI cB : ClassId) (h0 h1 h2 h3 h4 h5 h6 : Nat) (rm : Int32) (fm : Nat → Int32) (rq : Int32) (fr : Nat → Int32) (ap : Nat → Int32) (day : Int32) (grace : Int32) (longest : Int32) (spent : Int32) (spentIn : Int32) (spendings : Int32) (urgentSp : Int32) (dropped : Int32) (lapsedLate : Int32) (p1 : Int32) (p2 : Int32) : Met l yX0_requestProperty wsX0_requestProperty ({ frames := 3, cells := 0, slots := 0, locals := 68 }) (vm_pre [.ref h0, .int p1, .int p2] (dC, dI) [(h0, .inr (0, [.ref h1, .ref h4, .ref h6, .int day, .int grace, .int longest, .int spent, .int spentIn, .int spendings, .int urgentSp, .int dropped, .int lapsedLate])), (h1, .inr (2, [.ref h2])), (h2, .inr (3, [.ref h3, .int 12, .int 8, .int rm])), (h3, .inl (cI, 96, .inl fm)), (h4, .inr (3, [.ref h5, .int 6, .int 6, .int rq])), (h5, .inl (cI, 36, .inl fr)), (h6, .inl (cI, 8, .inl ap))] cI cB) (vp_Si (fun r9 : Int32 => r9 = (f_X0_requestProperty rm fm rq fr p1 p2))) 0 0 (fun _ => False) := by
  refine Met.ofW (cc := cX0_requestProperty) (maxL := 3) (ret := (some .int)) (by decide) rfl ?_
  intro p e s m args below meth c s₁ B hml hv
  obtain ⟨rfl, hP, hK, hN⟩ := hv
  have hx := B.exec
  have hb := B.bytes
  have hr := B.returns
  have hts := atoms_spec (ws := wsX0_requestProperty) B.pre
  have hown : s.vm.findClass RX0 = some m.cls := findClass_of_methodNamed B.named
  have hlocks := B.notSynchronized
  have kw1 := hts (.fieldLink RX0 23 "LapseMandates$Book" "requests" "LLapseMandates$Table;") (List.mem_of_getElem? (i := 1) rfl)
  have iwsX00 : ∀ w ∈ wsX00, w ∈ wsX0_requestProperty := fun w h => List.mem_cons_of_mem _ (List.mem_append_left _ (List.mem_append_left _ (List.mem_append_right _ h)))
  generalize hrr : f_X0_requestProperty rm fm rq fr p1 p2 = rr
  have eF := hrr.symm
  have hl := lv_entry ([.ref h0, .int p1, .int p2]) (n := 3) (Nat.le_of_ble_eq_true rfl)
  rw [lg_entry_eq]
  generalize (lg_sl ([.ref h0, .int p1, .int p2]) ++ List.replicate (3 - (lg_sl ([.ref h0, .int p1, .int p2])).length) Slot.unset).toArray = ls at hl ⊢
  have hl : lv_has ls 3 [(0, .ref h0), (1, .int p1), (2, .int p2)] := hl
  refine lv_iload_n hx hb dX0_requestProperty_0 rfl (lv_at hl 2 rfl) ?_
  by_cases c_1 : p2.toInt < 0 ∨ 5 < p2.toInt
  · refine lv_tableOut (tgt := 100) hx hb dX0_requestProperty_1 c_1 (by decide) ?_
    refine lv_aload_n hx hb dX0_requestProperty_100 rfl (lv_at hl 0 rfl) ?_
    refine lv_iload_n hx hb dX0_requestProperty_101 rfl (lv_at hl 1 rfl) ?_
    refine vm_roVx (v := (f_X0_couldApproveNow rm fm rq fr p1)) (As := [.int p1]) (rest := []) (T := TX0) (N := 12) (wc := [(h0, .inr (0, [.ref h1, .ref h4, .ref h6, .int day, .int grace, .int longest, .int spent, .int spentIn, .int spendings, .int urgentSp, .int dropped, .int lapsedLate])), (h1, .inr (2, [.ref h2])), (h2, .inr (3, [.ref h3, .int 12, .int 8, .int rm])), (h3, .inl (cI, 96, .inl fm)), (h4, .inr (3, [.ref h5, .int 6, .int 6, .int rq])), (h5, .inl (cI, 36, .inl fr)), (h6, .inl (cI, 8, .inl ap))]) ⟨hx, hb, hml, hown, hts⟩ hK hN hP hl.1 ⟨Nat.le_of_ble_eq_true rfl, Nat.le_of_ble_eq_true rfl⟩ (c_X0_couldApproveNow l dC dI cI cB h0 h1 h2 h3 h4 h5 h6 rm fm rq fr ap day grace longest spent spentIn spendings urgentSp dropped lapsedLate p1) (cwV 1 hts gX0_requestProperty_X0_couldApproveNow rfl rfl rfl yd_X0_couldApproveNow ⟨Nat.le_of_ble_eq_true rfl, Nat.le_of_ble_eq_true rfl⟩) [0, 1, 2, 3, 4, 5, 6] rfl 0 rfl rfl rfl rfl (Nat.le_of_ble_eq_true rfl) dX0_requestProperty_102 ?_
    have e9 : rr = (f_X0_couldApproveNow rm fm rq fr p1) := eF.trans (by rw [f_X0_requestProperty, if_pos c_1])
    exact W.iret (v := (f_X0_couldApproveNow rm fm rq fr p1)) hx hb hr (fun t ht hW => ⟨_, rfl, e9.symm, ht⟩) (fun _ hq => by cases hq) dX0_requestProperty_105
  · have c_1_a : ¬ p2.toInt < 0 := fun q => c_1 (Or.inl q)
    have c_1_b : ¬ 5 < p2.toInt := fun q => c_1 (Or.inr q)
    by_cases c_2 : p2.toInt = 0
    · refine lv_tableIn (off := 39) (tgt := 40) hx hb dX0_requestProperty_1 c_1_a c_1_b (by rw [c_2]; rfl) (by decide) ?_
      refine lv_aload_n hx hb dX0_requestProperty_40 rfl (lv_at hl 0 rfl) ?_
      refine va_get (D := (dC, dI)) (ci := 0) (v := .ref h4) (C := RX0) (T := TX0) (N := 12) hx hb hts iwsX00 hown hK hP 0 rfl rfl 1 (by decide) kw1 (fun _ h9 => h9) rfl dX0_requestProperty_41 ?_
      refine lv_iload_n hx hb dX0_requestProperty_44 rfl (lv_at hl 1 rfl) ?_
      refine lv_iconst (v := 0) hx hb dX0_requestProperty_45 (by decide) ?_
      refine vm_roVx (v := (f_X3_get 6 rq 36 fr p1 0)) (As := [.int p1, .int 0]) (rest := []) (T := TX3) (N := 4) (wc := [(h4, .inr (3, [.ref h5, .int 6, .int 6, .int rq])), (h5, .inl (cI, 36, .inl fr))]) ⟨hx, hb, hml, hown, hts⟩ hK hN hP hl.1 ⟨Nat.le_of_ble_eq_true rfl, Nat.le_of_ble_eq_true rfl⟩ (c_X3_get l dC dI cI cB h4 h5 6 6 rq 36 fr p1 0 (by decide)) (cwV 2 hts gX0_requestProperty_X3_get rfl rfl rfl yd_X3_get ⟨Nat.le_of_ble_eq_true rfl, Nat.le_of_ble_eq_true rfl⟩) [4, 5] rfl 3 rfl rfl rfl rfl (Nat.le_of_ble_eq_true rfl) dX0_requestProperty_46 ?_
      have e9 : rr = (f_X3_get 6 rq 36 fr p1 0) := eF.trans (by rw [f_X0_requestProperty, if_neg c_1, if_pos c_2])
      exact W.iret (v := (f_X3_get 6 rq 36 fr p1 0)) hx hb hr (fun t ht hW => ⟨_, rfl, e9.symm, ht⟩) (fun _ hq => by cases hq) dX0_requestProperty_49
    · skip
      by_cases c_3 : p2.toInt = 1
      · refine lv_tableIn (off := 49) (tgt := 50) hx hb dX0_requestProperty_1 c_1_a c_1_b (by rw [c_3]; rfl) (by decide) ?_
        refine lv_aload_n hx hb dX0_requestProperty_50 rfl (lv_at hl 0 rfl) ?_
        refine va_get (D := (dC, dI)) (ci := 0) (v := .ref h4) (C := RX0) (T := TX0) (N := 12) hx hb hts iwsX00 hown hK hP 0 rfl rfl 1 (by decide) kw1 (fun _ h9 => h9) rfl dX0_requestProperty_51 ?_
        refine lv_iload_n hx hb dX0_requestProperty_54 rfl (lv_at hl 1 rfl) ?_
        refine lv_iconst (v := 1) hx hb dX0_requestProperty_55 (by decide) ?_
        refine vm_roVx (v := (f_X3_get 6 rq 36 fr p1 1)) (As := [.int p1, .int 1]) (rest := []) (T := TX3) (N := 4) (wc := [(h4, .inr (3, [.ref h5, .int 6, .int 6, .int rq])), (h5, .inl (cI, 36, .inl fr))]) ⟨hx, hb, hml, hown, hts⟩ hK hN hP hl.1 ⟨Nat.le_of_ble_eq_true rfl, Nat.le_of_ble_eq_true rfl⟩ (c_X3_get l dC dI cI cB h4 h5 6 6 rq 36 fr p1 1 (by decide)) (cwV 2 hts gX0_requestProperty_X3_get rfl rfl rfl yd_X3_get ⟨Nat.le_of_ble_eq_true rfl, Nat.le_of_ble_eq_true rfl⟩) [4, 5] rfl 3 rfl rfl rfl rfl (Nat.le_of_ble_eq_true rfl) dX0_requestProperty_56 ?_
        have e9 : rr = (f_X3_get 6 rq 36 fr p1 1) := eF.trans (by rw [f_X0_requestProperty, if_neg c_1, if_neg c_2, if_pos c_3])
        exact W.iret (v := (f_X3_get 6 rq 36 fr p1 1)) hx hb hr (fun t ht hW => ⟨_, rfl, e9.symm, ht⟩) (fun _ hq => by cases hq) dX0_requestProperty_59
      · skip
        by_cases c_4 : p2.toInt = 2
        · refine lv_tableIn (off := 59) (tgt := 60) hx hb dX0_requestProperty_1 c_1_a c_1_b (by rw [c_4]; rfl) (by decide) ?_
          refine lv_aload_n hx hb dX0_requestProperty_60 rfl (lv_at hl 0 rfl) ?_
          refine va_get (D := (dC, dI)) (ci := 0) (v := .ref h4) (C := RX0) (T := TX0) (N := 12) hx hb hts iwsX00 hown hK hP 0 rfl rfl 1 (by decide) kw1 (fun _ h9 => h9) rfl dX0_requestProperty_61 ?_
          refine lv_iload_n hx hb dX0_requestProperty_64 rfl (lv_at hl 1 rfl) ?_
          refine lv_iconst (v := 2) hx hb dX0_requestProperty_65 (by decide) ?_
          refine vm_roVx (v := (f_X3_get 6 rq 36 fr p1 2)) (As := [.int p1, .int 2]) (rest := []) (T := TX3) (N := 4) (wc := [(h4, .inr (3, [.ref h5, .int 6, .int 6, .int rq])), (h5, .inl (cI, 36, .inl fr))]) ⟨hx, hb, hml, hown, hts⟩ hK hN hP hl.1 ⟨Nat.le_of_ble_eq_true rfl, Nat.le_of_ble_eq_true rfl⟩ (c_X3_get l dC dI cI cB h4 h5 6 6 rq 36 fr p1 2 (by decide)) (cwV 2 hts gX0_requestProperty_X3_get rfl rfl rfl yd_X3_get ⟨Nat.le_of_ble_eq_true rfl, Nat.le_of_ble_eq_true rfl⟩) [4, 5] rfl 3 rfl rfl rfl rfl (Nat.le_of_ble_eq_true rfl) dX0_requestProperty_66 ?_
          have e9 : rr = (f_X3_get 6 rq 36 fr p1 2) := eF.trans (by rw [f_X0_requestProperty, if_neg c_1, if_neg c_2, if_neg c_3, if_pos c_4])
          exact W.iret (v := (f_X3_get 6 rq 36 fr p1 2)) hx hb hr (fun t ht hW => ⟨_, rfl, e9.symm, ht⟩) (fun _ hq => by cases hq) dX0_requestProperty_69
        · skip
          by_cases c_5 : p2.toInt = 3
          · refine lv_tableIn (off := 69) (tgt := 70) hx hb dX0_requestProperty_1 c_1_a c_1_b (by rw [c_5]; rfl) (by decide) ?_
            refine lv_aload_n hx hb dX0_requestProperty_70 rfl (lv_at hl 0 rfl) ?_
            refine va_get (D := (dC, dI)) (ci := 0) (v := .ref h4) (C := RX0) (T := TX0) (N := 12) hx hb hts iwsX00 hown hK hP 0 rfl rfl 1 (by decide) kw1 (fun _ h9 => h9) rfl dX0_requestProperty_71 ?_
            refine lv_iload_n hx hb dX0_requestProperty_74 rfl (lv_at hl 1 rfl) ?_
            refine lv_iconst (v := 3) hx hb dX0_requestProperty_75 (by decide) ?_
            refine vm_roVx (v := (f_X3_get 6 rq 36 fr p1 3)) (As := [.int p1, .int 3]) (rest := []) (T := TX3) (N := 4) (wc := [(h4, .inr (3, [.ref h5, .int 6, .int 6, .int rq])), (h5, .inl (cI, 36, .inl fr))]) ⟨hx, hb, hml, hown, hts⟩ hK hN hP hl.1 ⟨Nat.le_of_ble_eq_true rfl, Nat.le_of_ble_eq_true rfl⟩ (c_X3_get l dC dI cI cB h4 h5 6 6 rq 36 fr p1 3 (by decide)) (cwV 2 hts gX0_requestProperty_X3_get rfl rfl rfl yd_X3_get ⟨Nat.le_of_ble_eq_true rfl, Nat.le_of_ble_eq_true rfl⟩) [4, 5] rfl 3 rfl rfl rfl rfl (Nat.le_of_ble_eq_true rfl) dX0_requestProperty_76 ?_
            have e9 : rr = (f_X3_get 6 rq 36 fr p1 3) := eF.trans (by rw [f_X0_requestProperty, if_neg c_1, if_neg c_2, if_neg c_3, if_neg c_4, if_pos c_5])
            exact W.iret (v := (f_X3_get 6 rq 36 fr p1 3)) hx hb hr (fun t ht hW => ⟨_, rfl, e9.symm, ht⟩) (fun _ hq => by cases hq) dX0_requestProperty_79
          · skip
            by_cases c_6 : p2.toInt = 4
            · refine lv_tableIn (off := 79) (tgt := 80) hx hb dX0_requestProperty_1 c_1_a c_1_b (by rw [c_6]; rfl) (by decide) ?_
              refine lv_aload_n hx hb dX0_requestProperty_80 rfl (lv_at hl 0 rfl) ?_
              refine va_get (D := (dC, dI)) (ci := 0) (v := .ref h4) (C := RX0) (T := TX0) (N := 12) hx hb hts iwsX00 hown hK hP 0 rfl rfl 1 (by decide) kw1 (fun _ h9 => h9) rfl dX0_requestProperty_81 ?_
              refine lv_iload_n hx hb dX0_requestProperty_84 rfl (lv_at hl 1 rfl) ?_
              refine lv_iconst (v := 4) hx hb dX0_requestProperty_85 (by decide) ?_
              refine vm_roVx (v := (f_X3_get 6 rq 36 fr p1 4)) (As := [.int p1, .int 4]) (rest := []) (T := TX3) (N := 4) (wc := [(h4, .inr (3, [.ref h5, .int 6, .int 6, .int rq])), (h5, .inl (cI, 36, .inl fr))]) ⟨hx, hb, hml, hown, hts⟩ hK hN hP hl.1 ⟨Nat.le_of_ble_eq_true rfl, Nat.le_of_ble_eq_true rfl⟩ (c_X3_get l dC dI cI cB h4 h5 6 6 rq 36 fr p1 4 (by decide)) (cwV 2 hts gX0_requestProperty_X3_get rfl rfl rfl yd_X3_get ⟨Nat.le_of_ble_eq_true rfl, Nat.le_of_ble_eq_true rfl⟩) [4, 5] rfl 3 rfl rfl rfl rfl (Nat.le_of_ble_eq_true rfl) dX0_requestProperty_86 ?_
              have e9 : rr = (f_X3_get 6 rq 36 fr p1 4) := eF.trans (by rw [f_X0_requestProperty, if_neg c_1, if_neg c_2, if_neg c_3, if_neg c_4, if_neg c_5, if_pos c_6])
              exact W.iret (v := (f_X3_get 6 rq 36 fr p1 4)) hx hb hr (fun t ht hW => ⟨_, rfl, e9.symm, ht⟩) (fun _ hq => by cases hq) dX0_requestProperty_89
            · skip
              have c_7 : p2.toInt = 5 := by omega
              refine lv_tableIn (off := 89) (tgt := 90) hx hb dX0_requestProperty_1 c_1_a c_1_b (by rw [c_7]; rfl) (by decide) ?_
              refine lv_aload_n hx hb dX0_requestProperty_90 rfl (lv_at hl 0 rfl) ?_
              refine va_get (D := (dC, dI)) (ci := 0) (v := .ref h4) (C := RX0) (T := TX0) (N := 12) hx hb hts iwsX00 hown hK hP 0 rfl rfl 1 (by decide) kw1 (fun _ h9 => h9) rfl dX0_requestProperty_91 ?_
              refine lv_iload_n hx hb dX0_requestProperty_94 rfl (lv_at hl 1 rfl) ?_
              refine lv_iconst (v := 5) hx hb dX0_requestProperty_95 (by decide) ?_
              refine vm_roVx (v := (f_X3_get 6 rq 36 fr p1 5)) (As := [.int p1, .int 5]) (rest := []) (T := TX3) (N := 4) (wc := [(h4, .inr (3, [.ref h5, .int 6, .int 6, .int rq])), (h5, .inl (cI, 36, .inl fr))]) ⟨hx, hb, hml, hown, hts⟩ hK hN hP hl.1 ⟨Nat.le_of_ble_eq_true rfl, Nat.le_of_ble_eq_true rfl⟩ (c_X3_get l dC dI cI cB h4 h5 6 6 rq 36 fr p1 5 (by decide)) (cwV 2 hts gX0_requestProperty_X3_get rfl rfl rfl yd_X3_get ⟨Nat.le_of_ble_eq_true rfl, Nat.le_of_ble_eq_true rfl⟩) [4, 5] rfl 3 rfl rfl rfl rfl (Nat.le_of_ble_eq_true rfl) dX0_requestProperty_96 ?_
              have e9 : rr = (f_X3_get 6 rq 36 fr p1 5) := eF.trans (by rw [f_X0_requestProperty, if_neg c_1, if_neg c_2, if_neg c_3, if_neg c_4, if_neg c_5, if_neg c_6])
              exact W.iret (v := (f_X3_get 6 rq 36 fr p1 5)) hx hb hr (fun t ht hW => ⟨_, rfl, e9.symm, ht⟩) (fun _ hq => by cases hq) dX0_requestProperty_99

def f_X0_personNumber (rm : Int32) (fm : Nat → Int32) (rq : Int32) (fr : Nat → Int32) (ap : Nat → Int32) (p1 : Int32) (p2 : Int32) : Int32 :=
  if p2.toInt < 0 ∨ 2 < p2.toInt then
    (f_X0_approvableBy rm fm rq fr p1)
  else
    if p2.toInt = 0 then
      (f_X2_standingHeldBy rm fm p1)
    else
      if p2.toInt = 1 then
        (f_X2_spentByHolder rm fm p1)
      else
        if p1 < 0 then
          0
        else
          if 8 ≤ p1 then
            0
          else
            (ap (Int32.toNatClampNeg p1))
theorem yd_X0_personNumber : yX0_personNumber.cls = RX0 ∧ yX0_personNumber.cls ≠ "java/lang/invoke/MethodHandle" ∧ yX0_personNumber.cls ≠ "java/lang/invoke/VarHandle" ∧ (parseMethodDescriptor yX0_personNumber.desc).map (fun d => d.parameters.length) = some 2 := by decide +kernel
set_option maxHeartbeats 4000000 in
set_option maxRecDepth 100000 in
theorem c_X0_personNumber (l : Launch) (dC : Nat → ClassId) (dI : Nat → Nat → Nat) (cI cB : ClassId) (h0 h1 h2 h3 h4 h5 h6 : Nat) (rm : Int32) (fm : Nat → Int32) (rq : Int32) (fr : Nat → Int32) (ap : Nat → Int32) (day : Int32) (grace : Int32) (longest : Int32) (spent : Int32) (spentIn : Int32) (spendings : Int32) (urgentSp : Int32) (dropped : Int32) (lapsedLate : Int32) (p1 : Int32) (p2 : Int32) : Met l yX0_personNumber wsX0_personNumber ({ frames := 4, cells := 0, slots := 0, locals := 91 }) (vm_pre [.ref h0, .int p1, .int p2] (dC, dI) [(h0, .inr (0, [.ref h1, .ref h4, .ref h6, .int day, .int grace, .int longest, .int spent, .int spentIn, .int spendings, .int urgentSp, .int dropped, .int lapsedLate])), (h1, .inr (2, [.ref h2])), (h2, .inr (3, [.ref h3, .int 12, .int 8, .int rm])), (h3, .inl (cI, 96, .inl fm)), (h4, .inr (3, [.ref h5, .int 6, .int 6, .int rq])), (h5, .inl (cI, 36, .inl fr)), (h6, .inl (cI, 8, .inl ap))] cI cB) (vp_Si (fun r9 : Int32 => r9 = (f_X0_personNumber rm fm rq fr ap p1 p2))) 0 0 (fun _ => False) := by
  refine Met.ofW (cc := cX0_personNumber) (maxL := 3) (ret := (some .int)) (by decide) rfl ?_
  intro p e s m args below meth c s₁ B hml hv
  obtain ⟨rfl, hP, hK, hN⟩ := hv
  have hx := B.exec
  have hb := B.bytes
  have hr := B.returns
  have hts := atoms_spec (ws := wsX0_personNumber) B.pre
  have hown : s.vm.findClass RX0 = some m.cls := findClass_of_methodNamed B.named
  have hlocks := B.notSynchronized
  have kw1 := hts (.fieldLink RX0 12 "LapseMandates$Book" "mandates" "LLapseMandates$Mandates;") (List.mem_of_getElem? (i := 1) rfl)
  have kw2 := hts (.fieldLink RX0 27 "LapseMandates$Book" "approvals" "[I") (List.mem_of_getElem? (i := 2) rfl)
  have iwsX00 : ∀ w ∈ wsX00, w ∈ wsX0_personNumber := fun w h => List.mem_cons_of_mem _ (List.mem_append_left _ (List.mem_append_left _ (List.mem_append_right _ h)))
  generalize hrr : f_X0_personNumber rm fm rq fr ap p1 p2 = rr
  have eF := hrr.symm
  have hl := lv_entry ([.ref h0, .int p1, .int p2]) (n := 3) (Nat.le_of_ble_eq_true rfl)
  rw [lg_entry_eq]
  generalize (lg_sl ([.ref h0, .int p1, .int p2]) ++ List.replicate (3 - (lg_sl ([.ref h0, .int p1, .int p2])).length) Slot.unset).toArray = ls at hl ⊢
  have hl : lv_has ls 3 [(0, .ref h0), (1, .int p1), (2, .int p2)] := hl
  refine lv_iload_n hx hb dX0_personNumber_0 rfl (lv_at hl 2 rfl) ?_
  by_cases c_1 : p2.toInt < 0 ∨ 2 < p2.toInt
  · refine lv_tableOut (tgt := 70) hx hb dX0_personNumber_1 c_1 (by decide) ?_
    refine lv_aload_n hx hb dX0_personNumber_70 rfl (lv_at hl 0 rfl) ?_
    refine lv_iload_n hx hb dX0_personNumber_71 rfl (lv_at hl 1 rfl) ?_
    refine vm_roVx (v := (f_X0_approvableBy rm fm rq fr p1)) (As := [.int p1]) (rest := []) (T := TX0) (N := 12) (wc := [(h0, .inr (0, [.ref h1, .ref h4, .ref h6, .int day, .int grace, .int longest, .int spent, .int spentIn, .int spendings, .int urgentSp, .int dropped, .int lapsedLate])), (h1, .inr (2, [.ref h2])), (h2, .inr (3, [.ref h3, .int 12, .int 8, .int rm])), (h3, .inl (cI, 96, .inl fm)), (h4, .inr (3, [.ref h5, .int 6, .int 6, .int rq])), (h5, .inl (cI, 36, .inl fr)), (h6, .inl (cI, 8, .inl ap))]) ⟨hx, hb, hml, hown, hts⟩ hK hN hP hl.1 ⟨Nat.le_of_ble_eq_true rfl, Nat.le_of_ble_eq_true rfl⟩ (c_X0_approvableBy l dC dI cI cB h0 h1 h2 h3 h4 h5 h6 rm fm rq fr ap day grace longest spent spentIn spendings urgentSp dropped lapsedLate p1) (cwV 1 hts gX0_personNumber_X0_approvableBy rfl rfl rfl yd_X0_approvableBy ⟨Nat.le_of_ble_eq_true rfl, Nat.le_of_ble_eq_true rfl⟩) [0, 1, 2, 3, 4, 5, 6] rfl 0 rfl rfl rfl rfl (Nat.le_of_ble_eq_true rfl) dX0_personNumber_72 ?_
    have e9 : rr = (f_X0_approvableBy rm fm rq fr p1) := eF.trans (by rw [f_X0_personNumber, if_pos c_1])
    exact W.iret (v := (f_X0_approvableBy rm fm rq fr p1)) hx hb hr (fun t ht hW => ⟨_, rfl, e9.symm, ht⟩) (fun _ hq => by cases hq) dX0_personNumber_75
  · have c_1_a : ¬ p2.toInt < 0 := fun q => c_1 (Or.inl q)
    have c_1_b : ¬ 2 < p2.toInt := fun q => c_1 (Or.inr q)
    by_cases c_2 : p2.toInt = 0
    · refine lv_tableIn (off := 27) (tgt := 28) hx hb dX0_personNumber_1 c_1_a c_1_b (by rw [c_2]; rfl) (by decide) ?_
      refine lv_aload_n hx hb dX0_personNumber_28 rfl (lv_at hl 0 rfl) ?_
      refine va_get (D := (dC, dI)) (ci := 0) (v := .ref h1) (C := RX0) (T := TX0) (N := 12) hx hb hts iwsX00 hown hK hP 0 rfl rfl 0 (by decide) kw1 (fun _ h9 => h9) rfl dX0_personNumber_29 ?_
      refine lv_iload_n hx hb dX0_personNumber_32 rfl (lv_at hl 1 rfl) ?_
      refine vm_roVx (v := (f_X2_standingHeldBy rm fm p1)) (As := [.int p1]) (rest := []) (T := TX2) (N := 1) (wc := [(h1, .inr (2, [.ref h2])), (h2, .inr (3, [.ref h3, .int 12, .int 8, .int rm])), (h3, .inl (cI, 96, .inl fm))]) ⟨hx, hb, hml, hown, hts⟩ hK hN hP hl.1 ⟨Nat.le_of_ble_eq_true rfl, Nat.le_of_ble_eq_true rfl⟩ (c_X2_standingHeldBy l dC dI cI cB h1 h2 h3 rm fm p1) (cwV 1 hts gX0_personNumber_X2_standingHeldBy rfl rfl rfl yd_X2_standingHeldBy ⟨Nat.le_of_ble_eq_true rfl, Nat.le_of_ble_eq_true rfl⟩) [1, 2, 3] rfl 2 rfl rfl rfl rfl (Nat.le_of_ble_eq_true rfl) dX0_personNumber_33 ?_
      have e9 : rr = (f_X2_standingHeldBy rm fm p1) := eF.trans (by rw [f_X0_personNumber, if_neg c_1, if_pos c_2])
      exact W.iret (v := (f_X2_standingHeldBy rm fm p1)) hx hb hr (fun t ht hW => ⟨_, rfl, e9.symm, ht⟩) (fun _ hq => by cases hq) dX0_personNumber_36
    · skip
      by_cases c_3 : p2.toInt = 1
      · refine lv_tableIn (off := 36) (tgt := 37) hx hb dX0_personNumber_1 c_1_a c_1_b (by rw [c_3]; rfl) (by decide) ?_
        refine lv_aload_n hx hb dX0_personNumber_37 rfl (lv_at hl 0 rfl) ?_
        refine va_get (D := (dC, dI)) (ci := 0) (v := .ref h1) (C := RX0) (T := TX0) (N := 12) hx hb hts iwsX00 hown hK hP 0 rfl rfl 0 (by decide) kw1 (fun _ h9 => h9) rfl dX0_personNumber_38 ?_
        refine lv_iload_n hx hb dX0_personNumber_41 rfl (lv_at hl 1 rfl) ?_
        refine vm_roVx (v := (f_X2_spentByHolder rm fm p1)) (As := [.int p1]) (rest := []) (T := TX2) (N := 1) (wc := [(h1, .inr (2, [.ref h2])), (h2, .inr (3, [.ref h3, .int 12, .int 8, .int rm])), (h3, .inl (cI, 96, .inl fm))]) ⟨hx, hb, hml, hown, hts⟩ hK hN hP hl.1 ⟨Nat.le_of_ble_eq_true rfl, Nat.le_of_ble_eq_true rfl⟩ (c_X2_spentByHolder l dC dI cI cB h1 h2 h3 rm fm p1) (cwV 1 hts gX0_personNumber_X2_spentByHolder rfl rfl rfl yd_X2_spentByHolder ⟨Nat.le_of_ble_eq_true rfl, Nat.le_of_ble_eq_true rfl⟩) [1, 2, 3] rfl 2 rfl rfl rfl rfl (Nat.le_of_ble_eq_true rfl) dX0_personNumber_42 ?_
        have e9 : rr = (f_X2_spentByHolder rm fm p1) := eF.trans (by rw [f_X0_personNumber, if_neg c_1, if_neg c_2, if_pos c_3])
        exact W.iret (v := (f_X2_spentByHolder rm fm p1)) hx hb hr (fun t ht hW => ⟨_, rfl, e9.symm, ht⟩) (fun _ hq => by cases hq) dX0_personNumber_45
      · skip
        have c_4 : p2.toInt = 2 := by omega
        refine lv_tableIn (off := 45) (tgt := 46) hx hb dX0_personNumber_1 c_1_a c_1_b (by rw [c_4]; rfl) (by decide) ?_
        refine lv_iload_n hx hb dX0_personNumber_46 rfl (lv_at hl 1 rfl) ?_
        refine lv_if_lt (tgt := 68) hx hb dX0_personNumber_47 (by decide) (fun c_5 => ?_) (fun c_5 => ?_)
        · refine lv_iconst (v := 0) hx hb dX0_personNumber_68 (by decide) ?_
          have e9 : rr = 0 := eF.trans (by rw [f_X0_personNumber, if_neg c_1, if_neg c_2, if_neg c_3, if_pos c_5])
          exact W.iret (v := 0) hx hb hr (fun t ht hW => ⟨_, rfl, e9.symm, ht⟩) (fun _ hq => by cases hq) dX0_personNumber_69
        · refine lv_iload_n hx hb dX0_personNumber_50 rfl (lv_at hl 1 rfl) ?_
          refine lv_aload_n hx hb dX0_personNumber_51 rfl (lv_at hl 0 rfl) ?_
          refine va_get (D := (dC, dI)) (ci := 0) (v := .ref h6) (C := RX0) (T := TX0) (N := 12) hx hb hts iwsX00 hown hK hP 0 rfl rfl 2 (by decide) kw2 (fun _ h9 => h9) rfl dX0_personNumber_52 ?_
          refine va_alen hx hb hK hP 6 0 rfl rfl (v := 8) rfl dX0_personNumber_55 ?_
          refine lv_icmp_ge (tgt := 68) hx hb dX0_personNumber_56 (by decide) (fun c_6 => ?_) (fun c_6 => ?_)
          · refine lv_iconst (v := 0) hx hb dX0_personNumber_68 (by decide) ?_
            have e9 : rr = 0 := eF.trans (by rw [f_X0_personNumber, if_neg c_1, if_neg c_2, if_neg c_3, if_neg c_5, if_pos c_6])
            exact W.iret (v := 0) hx hb hr (fun t ht hW => ⟨_, rfl, e9.symm, ht⟩) (fun _ hq => by cases hq) dX0_personNumber_69
          · refine lv_aload_n hx hb dX0_personNumber_59 rfl (lv_at hl 0 rfl) ?_
            refine va_get (D := (dC, dI)) (ci := 0) (v := .ref h6) (C := RX0) (T := TX0) (N := 12) hx hb hts iwsX00 hown hK hP 0 rfl rfl 2 (by decide) kw2 (fun _ h9 => h9) rfl dX0_personNumber_60 ?_
            refine lv_iload_n hx hb dX0_personNumber_63 rfl (lv_at hl 1 rfl) ?_
            refine va_iald hx hb hK hP 6 0 rfl rfl (vm_in (vm_nlt c_5) (vm_nle c_6) (by decide)) dX0_personNumber_64 ?_
            refine lv_goto (tgt := 69) hx hb dX0_personNumber_65 (by decide) ?_
            have e9 : rr = (ap (Int32.toNatClampNeg p1)) := eF.trans (by rw [f_X0_personNumber, if_neg c_1, if_neg c_2, if_neg c_3, if_neg c_5, if_neg c_6])
            exact W.iret (v := (ap (Int32.toNatClampNeg p1))) hx hb hr (fun t ht hW => ⟨_, rfl, e9.symm, ht⟩) (fun _ hq => by cases hq) dX0_personNumber_69

def f_X0_number (rm : Int32) (fm : Nat → Int32) (rq : Int32) (day : Int32) (spent : Int32) (spentIn : Int32) (spendings : Int32) (urgentSp : Int32) (dropped : Int32) (lapsedLate : Int32) (p1 : Int32) : Int32 :=
  if p1.toInt < 0 ∨ 9 < p1.toInt then
    lapsedLate
  else
    if p1.toInt = 0 then
      (f_X2_total rm)
    else
      if p1.toInt = 1 then
        (f_X2_standingTotal rm fm)
      else
        if p1.toInt = 2 then
          rq
        else
          if p1.toInt = 3 then
            day
          else
            if p1.toInt = 4 then
              (day / 10)
            else
              if p1.toInt = 5 then
                spent
              else
                if p1.toInt = 6 then
                  spentIn
                else
                  if p1.toInt = 7 then
                    spendings
                  else
                    if p1.toInt = 8 then
                      urgentSp
                    else
                      dropped
theorem yd_X0_number : yX0_number.cls = RX0 ∧ yX0_number.cls ≠ "java/lang/invoke/MethodHandle" ∧ yX0_number.cls ≠ "java/lang/invoke/VarHandle" ∧ (parseMethodDescriptor yX0_number.desc).map (fun d => d.parameters.length) = some 1 := by decide +kernel
set_option maxHeartbeats 4000000 in
set_option maxRecDepth 100000 in
theorem c_X0_number (l : Launch) (dC : Nat → ClassId) (dI : Nat → Nat → Nat) (cI cB : ClassId) (h0 h1 h2 h3 h4 h5 h6 : Nat) (rm : Int32) (fm : Nat → Int32) (rq : Int32) (fr : Nat → Int32) (ap : Nat → Int32) (day : Int32) (grace : Int32) (longest : Int32) (spent : Int32) (spentIn : Int32) (spendings : Int32) (urgentSp : Int32) (dropped : Int32) (lapsedLate : Int32) (p1 : Int32) : Met l yX0_number wsX0_number ({ frames := 3, cells := 0, slots := 0, locals := 66 }) (vm_pre [.ref h0, .int p1] (dC, dI) [(h0, .inr (0, [.ref h1, .ref h4, .ref h6, .int day, .int grace, .int longest, .int spent, .int spentIn, .int spendings, .int urgentSp, .int dropped, .int lapsedLate])), (h1, .inr (2, [.ref h2])), (h2, .inr (3, [.ref h3, .int 12, .int 8, .int rm])), (h3, .inl (cI, 96, .inl fm)), (h4, .inr (3, [.ref h5, .int 6, .int 6, .int rq])), (h5, .inl (cI, 36, .inl fr)), (h6, .inl (cI, 8, .inl ap))] cI cB) (vp_Si (fun r9 : Int32 => r9 = (f_X0_number rm fm rq day spent spentIn spendings urgentSp dropped lapsedLate p1))) 0 0 (fun _ => False) := by
  refine Met.ofW (cc := cX0_number) (maxL := 2) (ret := (some .int)) (by decide) rfl ?_
  intro p e s m args below meth c s₁ B hml hv
  obtain ⟨rfl, hP, hK, hN⟩ := hv
  have hx := B.exec
  have hb := B.bytes
  have hr := B.returns
  have hts := atoms_spec (ws := wsX0_number) B.pre
  have hown : s.vm.findClass RX0 = some m.cls := findClass_of_methodNamed B.named
  have hlocks := B.notSynchronized
  have kw1 := hts (.fieldLink RX0 12 "LapseMandates$Book" "mandates" "LLapseMandates$Mandates;") (List.mem_of_getElem? (i := 1) rfl)
  have kw2 := hts (.fieldLink RX0 23 "LapseMandates$Book" "requests" "LLapseMandates$Table;") (List.mem_of_getElem? (i := 2) rfl)
  have kw3 := hts (.fieldLink RX0 45 "LapseMandates$Book" "day" "I") (List.mem_of_getElem? (i := 3) rfl)
  have kw4 := hts (.fieldLink RX0 48 "LapseMandates$Book" "spent" "I") (List.mem_of_getElem? (i := 4) rfl)
  have kw5 := hts (.fieldLink RX0 51 "LapseMandates$Book" "spentInPeriod" "I") (List.mem_of_getElem? (i := 5) rfl)
  have kw6 := hts (.fieldLink RX0 54 "LapseMandates$Book" "spendings" "I") (List.mem_of_getElem? (i := 6) rfl)
  have kw7 := hts (.fieldLink RX0 57 "LapseMandates$Book" "urgentSpendings" "I") (List.mem_of_getElem? (i := 7) rfl)
  have kw8 := hts (.fieldLink RX0 60 "LapseMandates$Book" "droppedOrFailed" "I") (List.mem_of_getElem? (i := 8) rfl)
  have kw9 := hts (.fieldLink RX0 63 "LapseMandates$Book" "lapsedByLate" "I") (List.mem_of_getElem? (i := 9) rfl)
  have iwsX00 : ∀ w ∈ wsX00, w ∈ wsX0_number := fun w h => List.mem_cons_of_mem _ (List.mem_append_left _ (List.mem_append_left _ (List.mem_append_right _ h)))
  have iwsX30 : ∀ w ∈ wsX30, w ∈ wsX0_number := fun w h => List.mem_cons_of_mem _ (List.mem_append_left _ (List.mem_append_right _ h))
  generalize hrr : f_X0_number rm fm rq day spent spentIn spendings urgentSp dropped lapsedLate p1 = rr
  have eF := hrr.symm
  have hl := lv_entry ([.ref h0, .int p1]) (n := 2) (Nat.le_of_ble_eq_true rfl)
  rw [lg_entry_eq]
  generalize (lg_sl ([.ref h0, .int p1]) ++ List.replicate (2 - (lg_sl ([.ref h0, .int p1])).length) Slot.unset).toArray = ls at hl ⊢
  have hl : lv_has ls 2 [(0, .ref h0), (1, .int p1)] := hl
  refine lv_iload_n hx hb dX0_number_0 rfl (lv_at hl 1 rfl) ?_
  by_cases c_1 : p1.toInt < 0 ∨ 9 < p1.toInt
  · refine lv_tableOut (tgt := 118) hx hb dX0_number_1 c_1 (by decide) ?_
    refine lv_aload_n hx hb dX0_number_118 rfl (lv_at hl 0 rfl) ?_
    refine va_get (D := (dC, dI)) (ci := 0) (v := .int lapsedLate) (C := RX0) (T := TX0) (N := 12) hx hb hts iwsX00 hown hK hP 0 rfl rfl 11 (by decide) kw9 (fun _ h9 => h9) rfl dX0_number_119 ?_
    have e9 : rr = lapsedLate := eF.trans (by rw [f_X0_number, if_pos c_1])
    exact W.iret (v := lapsedLate) hx hb hr (fun t ht hW => ⟨_, rfl, e9.symm, ht⟩) (fun _ hq => by cases hq) dX0_number_122
  · have c_1_a : ¬ p1.toInt < 0 := fun q => c_1 (Or.inl q)
    have c_1_b : ¬ 9 < p1.toInt := fun q => c_1 (Or.inr q)
    by_cases c_2 : p1.toInt = 0
    · refine lv_tableIn (off := 55) (tgt := 56) hx hb dX0_number_1 c_1_a c_1_b (by rw [c_2]; rfl) (by decide) ?_
      refine lv_aload_n hx hb dX0_number_56 rfl (lv_at hl 0 rfl) ?_
      refine va_get (D := (dC, dI)) (ci := 0) (v := .ref h1) (C := RX0) (T := TX0) (N := 12) hx hb hts iwsX00 hown hK hP 0 rfl rfl 0 (by decide) kw1 (fun _ h9 => h9) rfl dX0_number_57 ?_
      refine vm_roVx (v := (f_X2_total rm)) (As := []) (rest := []) (T := TX2) (N := 1) (wc := [(h1, .inr (2, [.ref h2])), (h2, .inr (3, [.ref h3, .int 12, .int 8, .int rm])), (h3, .inl (cI, 96, .inl fm))]) ⟨hx, hb, hml, hown, hts⟩ hK hN hP hl.1 ⟨Nat.le_of_ble_eq_true rfl, Nat.le_of_ble_eq_true rfl⟩ (c_X2_total l dC dI cI cB h1 h2 h3 rm fm) (cwV 0 hts gX0_number_X2_total rfl rfl rfl yd_X2_total ⟨Nat.le_of_ble_eq_true rfl, Nat.le_of_ble_eq_true rfl⟩) [1, 2, 3] rfl 2 rfl rfl rfl rfl (Nat.le_of_ble_eq_true rfl) dX0_number_60 ?_
      have e9 : rr = (f_X2_total rm) := eF.trans (by rw [f_X0_number, if_neg c_1, if_pos c_2])
      exact W.iret (v := (f_X2_total rm)) hx hb hr (fun t ht hW => ⟨_, rfl, e9.symm, ht⟩) (fun _ hq => by cases hq) dX0_number_63
    · skip
      by_cases c_3 : p1.toInt = 1
      · refine lv_tableIn (off := 63) (tgt := 64) hx hb dX0_number_1 c_1_a c_1_b (by rw [c_3]; rfl) (by decide) ?_
        refine lv_aload_n hx hb dX0_number_64 rfl (lv_at hl 0 rfl) ?_
        refine va_get (D := (dC, dI)) (ci := 0) (v := .ref h1) (C := RX0) (T := TX0) (N := 12) hx hb hts iwsX00 hown hK hP 0 rfl rfl 0 (by decide) kw1 (fun _ h9 => h9) rfl dX0_number_65 ?_
        refine vm_roVx (v := (f_X2_standingTotal rm fm)) (As := []) (rest := []) (T := TX2) (N := 1) (wc := [(h1, .inr (2, [.ref h2])), (h2, .inr (3, [.ref h3, .int 12, .int 8, .int rm])), (h3, .inl (cI, 96, .inl fm))]) ⟨hx, hb, hml, hown, hts⟩ hK hN hP hl.1 ⟨Nat.le_of_ble_eq_true rfl, Nat.le_of_ble_eq_true rfl⟩ (c_X2_standingTotal l dC dI cI cB h1 h2 h3 rm fm) (cwV 0 hts gX0_number_X2_standingTotal rfl rfl rfl yd_X2_standingTotal ⟨Nat.le_of_ble_eq_true rfl, Nat.le_of_ble_eq_true rfl⟩) [1, 2, 3] rfl 2 rfl rfl rfl rfl (Nat.le_of_ble_eq_true rfl) dX0_number_68 ?_
        have e9 : rr = (f_X2_standingTotal rm fm) := eF.trans (by rw [f_X0_number, if_neg c_1, if_neg c_2, if_pos c_3])
        exact W.iret (v := (f_X2_standingTotal rm fm)) hx hb hr (fun t ht hW => ⟨_, rfl, e9.symm, ht⟩) (fun _ hq => by cases hq) dX0_number_71
      · skip
        by_cases c_4 : p1.toInt = 2
        · refine lv_tableIn (off := 71) (tgt := 72) hx hb dX0_number_1 c_1_a c_1_b (by rw [c_4]; rfl) (by decide) ?_
          refine lv_aload_n hx hb dX0_number_72 rfl (lv_at hl 0 rfl) ?_
          refine va_get (D := (dC, dI)) (ci := 0) (v := .ref h4) (C := RX0) (T := TX0) (N := 12) hx hb hts iwsX00 hown hK hP 0 rfl rfl 1 (by decide) kw2 (fun _ h9 => h9) rfl dX0_number_73 ?_
          refine va_getN (D := (dC, dI)) (ci := 3) (v := .int rq) (C := RX3) (T := TX3) (N := 4) hx hb hts iwsX30 hown hK hP 4 rfl rfl 3 (by decide) (va_Nw.use rfl hN.2.2.2.2.2.1) (fun _ h9 => h9) rfl dX0_number_76 ?_
          have e9 : rr = rq := eF.trans (by rw [f_X0_number, if_neg c_1, if_neg c_2, if_neg c_3, if_pos c_4])
          exact W.iret (v := rq) hx hb hr (fun t ht hW => ⟨_, rfl, e9.symm, ht⟩) (fun _ hq => by cases hq) dX0_number_79
        · skip
          by_cases c_5 : p1.toInt = 3
          · refine lv_tableIn (off := 79) (tgt := 80) hx hb dX0_number_1 c_1_a c_1_b (by rw [c_5]; rfl) (by decide) ?_
            refine lv_aload_n hx hb dX0_number_80 rfl (lv_at hl 0 rfl) ?_
            refine va_get (D := (dC, dI)) (ci := 0) (v := .int day) (C := RX0) (T := TX0) (N := 12) hx hb hts iwsX00 hown hK hP 0 rfl rfl 3 (by decide) kw3 (fun _ h9 => h9) rfl dX0_number_81 ?_
            have e9 : rr = day := eF.trans (by rw [f_X0_number, if_neg c_1, if_neg c_2, if_neg c_3, if_neg c_4, if_pos c_5])
            exact W.iret (v := day) hx hb hr (fun t ht hW => ⟨_, rfl, e9.symm, ht⟩) (fun _ hq => by cases hq) dX0_number_84
          · skip
            by_cases c_6 : p1.toInt = 4
            · refine lv_tableIn (off := 84) (tgt := 85) hx hb dX0_number_1 c_1_a c_1_b (by rw [c_6]; rfl) (by decide) ?_
              refine lv_aload_n hx hb dX0_number_85 rfl (lv_at hl 0 rfl) ?_
              refine va_get (D := (dC, dI)) (ci := 0) (v := .int day) (C := RX0) (T := TX0) (N := 12) hx hb hts iwsX00 hown hK hP 0 rfl rfl 3 (by decide) kw3 (fun _ h9 => h9) rfl dX0_number_86 ?_
              refine lv_bipush (v := 10) hx hb dX0_number_89 (by decide) ?_
              refine lv_idiv hx hb dX0_number_91 (by decide) ?_
              have e9 : rr = (day / 10) := eF.trans (by rw [f_X0_number, if_neg c_1, if_neg c_2, if_neg c_3, if_neg c_4, if_neg c_5, if_pos c_6])
              exact W.iret (v := (day / 10)) hx hb hr (fun t ht hW => ⟨_, rfl, e9.symm, ht⟩) (fun _ hq => by cases hq) dX0_number_92
            · skip
              by_cases c_7 : p1.toInt = 5
              · refine lv_tableIn (off := 92) (tgt := 93) hx hb dX0_number_1 c_1_a c_1_b (by rw [c_7]; rfl) (by decide) ?_
                refine lv_aload_n hx hb dX0_number_93 rfl (lv_at hl 0 rfl) ?_
                refine va_get (D := (dC, dI)) (ci := 0) (v := .int spent) (C := RX0) (T := TX0) (N := 12) hx hb hts iwsX00 hown hK hP 0 rfl rfl 6 (by decide) kw4 (fun _ h9 => h9) rfl dX0_number_94 ?_
                have e9 : rr = spent := eF.trans (by rw [f_X0_number, if_neg c_1, if_neg c_2, if_neg c_3, if_neg c_4, if_neg c_5, if_neg c_6, if_pos c_7])
                exact W.iret (v := spent) hx hb hr (fun t ht hW => ⟨_, rfl, e9.symm, ht⟩) (fun _ hq => by cases hq) dX0_number_97
              · skip
                by_cases c_8 : p1.toInt = 6
                · refine lv_tableIn (off := 97) (tgt := 98) hx hb dX0_number_1 c_1_a c_1_b (by rw [c_8]; rfl) (by decide) ?_
                  refine lv_aload_n hx hb dX0_number_98 rfl (lv_at hl 0 rfl) ?_
                  refine va_get (D := (dC, dI)) (ci := 0) (v := .int spentIn) (C := RX0) (T := TX0) (N := 12) hx hb hts iwsX00 hown hK hP 0 rfl rfl 7 (by decide) kw5 (fun _ h9 => h9) rfl dX0_number_99 ?_
                  have e9 : rr = spentIn := eF.trans (by rw [f_X0_number, if_neg c_1, if_neg c_2, if_neg c_3, if_neg c_4, if_neg c_5, if_neg c_6, if_neg c_7, if_pos c_8])
                  exact W.iret (v := spentIn) hx hb hr (fun t ht hW => ⟨_, rfl, e9.symm, ht⟩) (fun _ hq => by cases hq) dX0_number_102
                · skip
                  by_cases c_9 : p1.toInt = 7
                  · refine lv_tableIn (off := 102) (tgt := 103) hx hb dX0_number_1 c_1_a c_1_b (by rw [c_9]; rfl) (by decide) ?_
                    refine lv_aload_n hx hb dX0_number_103 rfl (lv_at hl 0 rfl) ?_
                    refine va_get (D := (dC, dI)) (ci := 0) (v := .int spendings) (C := RX0) (T := TX0) (N := 12) hx hb hts iwsX00 hown hK hP 0 rfl rfl 8 (by decide) kw6 (fun _ h9 => h9) rfl dX0_number_104 ?_
                    have e9 : rr = spendings := eF.trans (by rw [f_X0_number, if_neg c_1, if_neg c_2, if_neg c_3, if_neg c_4, if_neg c_5, if_neg c_6, if_neg c_7, if_neg c_8, if_pos c_9])
                    exact W.iret (v := spendings) hx hb hr (fun t ht hW => ⟨_, rfl, e9.symm, ht⟩) (fun _ hq => by cases hq) dX0_number_107
                  · skip
                    by_cases c_10 : p1.toInt = 8
                    · refine lv_tableIn (off := 107) (tgt := 108) hx hb dX0_number_1 c_1_a c_1_b (by rw [c_10]; rfl) (by decide) ?_
                      refine lv_aload_n hx hb dX0_number_108 rfl (lv_at hl 0 rfl) ?_
                      refine va_get (D := (dC, dI)) (ci := 0) (v := .int urgentSp) (C := RX0) (T := TX0) (N := 12) hx hb hts iwsX00 hown hK hP 0 rfl rfl 9 (by decide) kw7 (fun _ h9 => h9) rfl dX0_number_109 ?_
                      have e9 : rr = urgentSp := eF.trans (by rw [f_X0_number, if_neg c_1, if_neg c_2, if_neg c_3, if_neg c_4, if_neg c_5, if_neg c_6, if_neg c_7, if_neg c_8, if_neg c_9, if_pos c_10])
                      exact W.iret (v := urgentSp) hx hb hr (fun t ht hW => ⟨_, rfl, e9.symm, ht⟩) (fun _ hq => by cases hq) dX0_number_112
                    · skip
                      have c_11 : p1.toInt = 9 := by omega
                      refine lv_tableIn (off := 112) (tgt := 113) hx hb dX0_number_1 c_1_a c_1_b (by rw [c_11]; rfl) (by decide) ?_
                      refine lv_aload_n hx hb dX0_number_113 rfl (lv_at hl 0 rfl) ?_
                      refine va_get (D := (dC, dI)) (ci := 0) (v := .int dropped) (C := RX0) (T := TX0) (N := 12) hx hb hts iwsX00 hown hK hP 0 rfl rfl 10 (by decide) kw8 (fun _ h9 => h9) rfl dX0_number_114 ?_
                      have e9 : rr = dropped := eF.trans (by rw [f_X0_number, if_neg c_1, if_neg c_2, if_neg c_3, if_neg c_4, if_neg c_5, if_neg c_6, if_neg c_7, if_neg c_8, if_neg c_9, if_neg c_10])
                      exact W.iret (v := dropped) hx hb hr (fun t ht hW => ⟨_, rfl, e9.symm, ht⟩) (fun _ hq => by cases hq) dX0_number_117

def f_X0_daysUntilLate (rq : Int32) (fr : Nat → Int32) (day : Int32) (grace : Int32) (p1 : Int32) : Int32 :=
  (if 1 < ((((f_X3_get 6 rq 36 fr p1 2) + grace) + 1) - day) then ((((f_X3_get 6 rq 36 fr p1 2) + grace) + 1) - day) else 1)
theorem yd_X0_daysUntilLate : yX0_daysUntilLate.cls = RX0 ∧ yX0_daysUntilLate.cls ≠ "java/lang/invoke/MethodHandle" ∧ yX0_daysUntilLate.cls ≠ "java/lang/invoke/VarHandle" ∧ (parseMethodDescriptor yX0_daysUntilLate.desc).map (fun d => d.parameters.length) = some 1 := by decide +kernel
set_option maxHeartbeats 4000000 in
set_option maxRecDepth 100000 in
theorem c_X0_daysUntilLate (l : Launch) (dC : Nat → ClassId) (dI : Nat → Nat → Nat) (cI cB : ClassId) (h0 h1 h2 h3 h4 h5 h6 : Nat) (rm : Int32) (fm : Nat → Int32) (rq : Int32) (fr : Nat → Int32) (ap : Nat → Int32) (day : Int32) (grace : Int32) (longest : Int32) (spent : Int32) (spentIn : Int32) (spendings : Int32) (urgentSp : Int32) (dropped : Int32) (lapsedLate : Int32) (p1 : Int32) : Met l yX0_daysUntilLate wsX0_daysUntilLate ({ frames := 1, cells := 0, slots := 0, locals := 23 }) (vm_pre [.ref h0, .int p1] (dC, dI) [(h0, .inr (0, [.ref h1, .ref h4, .ref h6, .int day, .int grace, .int longest, .int spent, .int spentIn, .int spendings, .int urgentSp, .int dropped, .int lapsedLate])), (h1, .inr (2, [.ref h2])), (h2, .inr (3, [.ref h3, .int 12, .int 8, .int rm])), (h3, .inl (cI, 96, .inl fm)), (h4, .inr (3, [.ref h5, .int 6, .int 6, .int rq])), (h5, .inl (cI, 36, .inl fr)), (h6, .inl (cI, 8, .inl ap))] cI cB) (vp_Si (fun r9 : Int32 => r9 = (f_X0_daysUntilLate rq fr day grace p1))) 0 0 (fun _ => False) := by
  refine Met.ofW (cc := cX0_daysUntilLate) (maxL := 2) (ret := (some .int)) (by decide) rfl ?_
  intro p e s m args below meth c s₁ B hml hv
  obtain ⟨rfl, hP, hK, hN⟩ := hv
  have hx := B.exec
  have hb := B.bytes
  have hr := B.returns
  have hts := atoms_spec (ws := wsX0_daysUntilLate) B.pre
  have hown : s.vm.findClass RX0 = some m.cls := findClass_of_methodNamed B.named
  have hlocks := B.notSynchronized
  have kw1 := hts (.fieldLink RX0 23 "LapseMandates$Book" "requests" "LLapseMandates$Table;") (List.mem_of_getElem? (i := 1) rfl)
  have kw2 := hts (.fieldLink RX0 31 "LapseMandates$Book" "grace" "I") (List.mem_of_getElem? (i := 2) rfl)
  have kw3 := hts (.fieldLink RX0 45 "LapseMandates$Book" "day" "I") (List.mem_of_getElem? (i := 3) rfl)
  have kw4 := hts (.methodLink RX0 186 Lib.Math.max.name) (List.mem_of_getElem? (i := 4) rfl)
  have kw5 := hts (.static Lib.Math.max.name) (List.mem_of_getElem? (i := 5) rfl)
  have kw6 := hts (.initialized "java/lang/Math") (List.mem_of_getElem? (i := 6) rfl)
  have kw7 := hts (.code Lib.Math.max.name Lib.Math.max.code 2 (some .int)) (List.mem_of_getElem? (i := 7) rfl)
  have iwsX00 : ∀ w ∈ wsX00, w ∈ wsX0_daysUntilLate := fun w h => List.mem_cons_of_mem _ (List.mem_append_left _ (List.mem_append_right _ h))
  generalize hrr : f_X0_daysUntilLate rq fr day grace p1 = rr
  have eF := hrr.symm
  have hl := lv_entry ([.ref h0, .int p1]) (n := 2) (Nat.le_of_ble_eq_true rfl)
  rw [lg_entry_eq]
  generalize (lg_sl ([.ref h0, .int p1]) ++ List.replicate (2 - (lg_sl ([.ref h0, .int p1])).length) Slot.unset).toArray = ls at hl ⊢
  have hl : lv_has ls 2 [(0, .ref h0), (1, .int p1)] := hl
  refine lv_iconst (v := 1) hx hb dX0_daysUntilLate_0 (by decide) ?_
  refine lv_aload_n hx hb dX0_daysUntilLate_1 rfl (lv_at hl 0 rfl) ?_
  refine va_get (D := (dC, dI)) (ci := 0) (v := .ref h4) (C := RX0) (T := TX0) (N := 12) hx hb hts iwsX00 hown hK hP 0 rfl rfl 1 (by decide) kw1 (fun _ h9 => h9) rfl dX0_daysUntilLate_2 ?_
  refine lv_iload_n hx hb dX0_daysUntilLate_5 rfl (lv_at hl 1 rfl) ?_
  refine lv_iconst (v := 2) hx hb dX0_daysUntilLate_6 (by decide) ?_
  refine vm_roVx (v := (f_X3_get 6 rq 36 fr p1 2)) (As := [.int p1, .int 2]) (rest := [.int 1]) (T := TX3) (N := 4) (wc := [(h4, .inr (3, [.ref h5, .int 6, .int 6, .int rq])), (h5, .inl (cI, 36, .inl fr))]) ⟨hx, hb, hml, hown, hts⟩ hK hN hP hl.1 ⟨Nat.le_of_ble_eq_true rfl, Nat.le_of_ble_eq_true rfl⟩ (c_X3_get l dC dI cI cB h4 h5 6 6 rq 36 fr p1 2 (by decide)) (cwV 2 hts gX0_daysUntilLate_X3_get rfl rfl rfl yd_X3_get ⟨Nat.le_of_ble_eq_true rfl, Nat.le_of_ble_eq_true rfl⟩) [4, 5] rfl 3 rfl rfl rfl rfl (Nat.le_of_ble_eq_true rfl) dX0_daysUntilLate_7 ?_
  refine lv_aload_n hx hb dX0_daysUntilLate_10 rfl (lv_at hl 0 rfl) ?_
  refine va_get (D := (dC, dI)) (ci := 0) (v := .int grace) (C := RX0) (T := TX0) (N := 12) hx hb hts iwsX00 hown hK hP 0 rfl rfl 4 (by decide) kw2 (fun _ h9 => h9) rfl dX0_daysUntilLate_11 ?_
  refine lv_iadd hx hb dX0_daysUntilLate_14 ?_
  refine lv_iconst (v := 1) hx hb dX0_daysUntilLate_15 (by decide) ?_
  refine lv_iadd hx hb dX0_daysUntilLate_16 ?_
  refine lv_aload_n hx hb dX0_daysUntilLate_17 rfl (lv_at hl 0 rfl) ?_
  refine va_get (D := (dC, dI)) (ci := 0) (v := .int day) (C := RX0) (T := TX0) (N := 12) hx hb hts iwsX00 hown hK hP 0 rfl rfl 3 (by decide) kw3 (fun _ h9 => h9) rfl dX0_daysUntilLate_18 ?_
  refine lv_isub hx hb dX0_daysUntilLate_21 ?_
  refine va_mmax hx hb (hml.trans hl.1.symm) hown kw4 kw5 kw6 kw7 (Nat.le_of_ble_eq_true rfl) (Nat.le_of_ble_eq_true rfl) (Nat.le_of_ble_eq_true rfl) (Nat.le_of_ble_eq_true rfl) dX0_daysUntilLate_22 ?_
  have e9 : rr = (if 1 < ((((f_X3_get 6 rq 36 fr p1 2) + grace) + 1) - day) then ((((f_X3_get 6 rq 36 fr p1 2) + grace) + 1) - day) else 1) := eF.trans (by rw [f_X0_daysUntilLate])
  exact W.iret (v := (if 1 < ((((f_X3_get 6 rq 36 fr p1 2) + grace) + 1) - day) then ((((f_X3_get 6 rq 36 fr p1 2) + grace) + 1) - day) else 1)) hx hb hr (fun t ht hW => ⟨_, rfl, e9.symm, ht⟩) (fun _ hq => by cases hq) dX0_daysUntilLate_25

def f_X0_daysUntilLapse_j90 (x4_27 : Int32) (kj27 : Int32 → Int32 → Int32) (x3_90 : Int32) : Int32 :=
  kj27 x3_90 (x4_27 + 1)
def f_X0_daysUntilLapse_j89 (x4_27 : Int32) (kj27 : Int32 → Int32 → Int32) (s0_89 : Int32) : Int32 :=
  f_X0_daysUntilLapse_j90 x4_27 kj27 s0_89
def f_X0_daysUntilLapse_j27 (rm : Int32) (fm : Nat → Int32) (rq : Int32) (fr : Nat → Int32) (day : Int32) (grace : Int32) (p1 : Int32) : Nat → Int32 → Int32 → Int32
  | 0, _, _ => 0
  | n27 + 1, x3_27, x4_27 => if rq ≤ x4_27 then
      x3_27
    else
      if (vm_bi (f_X0_isUrgent rq fr x4_27)) = 0 then
        f_X0_daysUntilLapse_j90 x4_27 (f_X0_daysUntilLapse_j27 rm fm rq fr day grace p1 n27) x3_27
      else
        if (vm_bi (f_X2_isIn (f_X2_chainOf rm fm p1) (f_X3_get 6 rq 36 fr x4_27 0))) = 0 then
          f_X0_daysUntilLapse_j90 x4_27 (f_X0_daysUntilLapse_j27 rm fm rq fr day grace p1 n27) x3_27
        else
          if x3_27 = (-1) then
            f_X0_daysUntilLapse_j89 x4_27 (f_X0_daysUntilLapse_j27 rm fm rq fr day grace p1 n27) (f_X0_daysUntilLate rq fr day grace x4_27)
          else
            f_X0_daysUntilLapse_j89 x4_27 (f_X0_daysUntilLapse_j27 rm fm rq fr day grace p1 n27) (if (f_X0_daysUntilLate rq fr day grace x4_27) < x3_27 then (f_X0_daysUntilLate rq fr day grace x4_27) else x3_27)
def f_X0_daysUntilLapse (rm : Int32) (fm : Nat → Int32) (rq : Int32) (fr : Nat → Int32) (day : Int32) (grace : Int32) (p1 : Int32) : Int32 :=
  if (vm_bi (f_X2_stands rm fm p1)) = 0 then
    (-1)
  else
    f_X0_daysUntilLapse_j27 rm fm rq fr day grace p1 (((rq).toInt - ((0 : Int32)).toInt).toNat + 1) (-1) 0
theorem yd_X0_daysUntilLapse : yX0_daysUntilLapse.cls = RX0 ∧ yX0_daysUntilLapse.cls ≠ "java/lang/invoke/MethodHandle" ∧ yX0_daysUntilLapse.cls ≠ "java/lang/invoke/VarHandle" ∧ (parseMethodDescriptor yX0_daysUntilLapse.desc).map (fun d => d.parameters.length) = some 1 := by decide +kernel
set_option maxHeartbeats 4000000 in
set_option maxRecDepth 100000 in
theorem c_X0_daysUntilLapse (l : Launch) (dC : Nat → ClassId) (dI : Nat → Nat → Nat) (cI cB : ClassId) (h0 h1 h2 h3 h4 h5 h6 : Nat) (rm : Int32) (fm : Nat → Int32) (rq : Int32) (fr : Nat → Int32) (ap : Nat → Int32) (day : Int32) (grace : Int32) (longest : Int32) (spent : Int32) (spentIn : Int32) (spendings : Int32) (urgentSp : Int32) (dropped : Int32) (lapsedLate : Int32) (p1 : Int32) : Met l yX0_daysUntilLapse wsX0_daysUntilLapse ({ frames := 2, cells := 0, slots := 0, locals := 47 }) (vm_pre [.ref h0, .int p1] (dC, dI) [(h0, .inr (0, [.ref h1, .ref h4, .ref h6, .int day, .int grace, .int longest, .int spent, .int spentIn, .int spendings, .int urgentSp, .int dropped, .int lapsedLate])), (h1, .inr (2, [.ref h2])), (h2, .inr (3, [.ref h3, .int 12, .int 8, .int rm])), (h3, .inl (cI, 96, .inl fm)), (h4, .inr (3, [.ref h5, .int 6, .int 6, .int rq])), (h5, .inl (cI, 36, .inl fr)), (h6, .inl (cI, 8, .inl ap))] cI cB) (vp_Si (fun r9 : Int32 => r9 = (f_X0_daysUntilLapse rm fm rq fr day grace p1))) 0 0 (fun _ => False) := by
  refine Met.ofW (cc := cX0_daysUntilLapse) (maxL := 6) (ret := (some .int)) (by decide) rfl ?_
  intro p e s m args below meth c s₁ B hml hv
  obtain ⟨rfl, hP, hK, hN⟩ := hv
  have hx := B.exec
  have hb := B.bytes
  have hr := B.returns
  have hts := atoms_spec (ws := wsX0_daysUntilLapse) B.pre
  have hown : s.vm.findClass RX0 = some m.cls := findClass_of_methodNamed B.named
  have hlocks := B.notSynchronized
  have kw1 := hts (.fieldLink RX0 12 "LapseMandates$Book" "mandates" "LLapseMandates$Mandates;") (List.mem_of_getElem? (i := 1) rfl)
  have kw2 := hts (.fieldLink RX0 23 "LapseMandates$Book" "requests" "LLapseMandates$Table;") (List.mem_of_getElem? (i := 2) rfl)
  have kw3 := hts (.methodLink RX0 181 Lib.Math.min.name) (List.mem_of_getElem? (i := 3) rfl)
  have kw4 := hts (.static Lib.Math.min.name) (List.mem_of_getElem? (i := 4) rfl)
  have kw5 := hts (.initialized "java/lang/Math") (List.mem_of_getElem? (i := 5) rfl)
  have kw6 := hts (.code Lib.Math.min.name Lib.Math.min.code 2 (some .int)) (List.mem_of_getElem? (i := 6) rfl)
  have iwsX00 : ∀ w ∈ wsX00, w ∈ wsX0_daysUntilLapse := fun w h => List.mem_cons_of_mem _ (List.mem_append_left _ (List.mem_append_left _ (List.mem_append_right _ h)))
  have iwsX30 : ∀ w ∈ wsX30, w ∈ wsX0_daysUntilLapse := fun w h => List.mem_cons_of_mem _ (List.mem_append_left _ (List.mem_append_right _ h))
  generalize hrr : f_X0_daysUntilLapse rm fm rq fr day grace p1 = rr
  have eF := hrr.symm
  have hl := lv_entry ([.ref h0, .int p1]) (n := 6) (Nat.le_of_ble_eq_true rfl)
  rw [lg_entry_eq]
  generalize (lg_sl ([.ref h0, .int p1]) ++ List.replicate (6 - (lg_sl ([.ref h0, .int p1])).length) Slot.unset).toArray = ls at hl ⊢
  have hl : lv_has ls 6 [(0, .ref h0), (1, .int p1)] := hl
  have hJ27 : ∀ (n27 : Nat) (x3_27 : Int32) (x4_27 : Int32), ((rq).toInt - (x4_27).toInt).toNat < n27 → 0 ≤ x4_27 → rr = f_X0_daysUntilLapse_j27 rm fm rq fr day grace p1 n27 x3_27 x4_27 → ∀ (ls : Array Slot), lv_has ls 6 [(0, .ref h0), (2, .int (f_X2_chainOf rm fm p1)), (3, .int x3_27), (4, .int x4_27)] → W p l e (headSpec wsX0_daysUntilLapse ({ frames := 2, cells := 0, slots := 0, locals := 47 })).room s m ([.ref h0, .int p1] : List Value).toArray below meth c s.heap [] 0 0 (MQ below (vp_Si (fun r9 : Int32 => r9 = rr)) ([.ref h0, .int p1] : List Value).toArray s 0 0 (fun _ => False)) (F0 m 27 ls []) := by
    intro n27
    induction n27 with
    | zero =>
      intro x3_27 x4_27 hm27
      exact absurd hm27 (Nat.not_lt_zero _)
    | succ n27 ih27 =>
      intro x3_27 x4_27 hm27 hi27 eF ls hl
      have hJ90 : ∀ (x3_90 : Int32), ¬ rq ≤ x4_27 → rr = f_X0_daysUntilLapse_j90 x4_27 (f_X0_daysUntilLapse_j27 rm fm rq fr day grace p1 n27) x3_90 → ∀ (ls : Array Slot), lv_has ls 6 [(0, .ref h0), (2, .int (f_X2_chainOf rm fm p1)), (3, .int x3_90), (4, .int x4_27)] → W p l e (headSpec wsX0_daysUntilLapse ({ frames := 2, cells := 0, slots := 0, locals := 47 })).room s m ([.ref h0, .int p1] : List Value).toArray below meth c s.heap [] 0 0 (MQ below (vp_Si (fun r9 : Int32 => r9 = rr)) ([.ref h0, .int p1] : List Value).toArray s 0 0 (fun _ => False)) (F0 m 90 ls []) := by
        intro x3_90 cL27 eF ls hl
        refine lv_iinc (v := (x4_27 + 1)) (lv' := [(4, .int (x4_27 + 1)), (0, .ref h0), (2, .int (f_X2_chainOf rm fm p1)), (3, .int x3_90)]) hx hb dX0_daysUntilLapse_90 hl (k := 3) rfl rfl (by decide) rfl (fun ls hl => ?_)
        refine lv_goto (tgt := 27) hx hb dX0_daysUntilLapse_93 (by decide) ?_
        exact ih27 x3_90 (x4_27 + 1) (vm_up (vm_nle cL27) hm27) (vm_nn hi27 (vm_nle cL27)) (eF.trans (by rw [f_X0_daysUntilLapse_j90])) ls (lv_sub hl [1, 2, 3, 0] rfl)
      have hJ89 : ∀ (s0_89 : Int32), ¬ rq ≤ x4_27 → rr = f_X0_daysUntilLapse_j89 x4_27 (f_X0_daysUntilLapse_j27 rm fm rq fr day grace p1 n27) s0_89 → ∀ (ls : Array Slot), lv_has ls 6 [(0, .ref h0), (2, .int (f_X2_chainOf rm fm p1)), (4, .int x4_27)] → W p l e (headSpec wsX0_daysUntilLapse ({ frames := 2, cells := 0, slots := 0, locals := 47 })).room s m ([.ref h0, .int p1] : List Value).toArray below meth c s.heap [] 0 0 (MQ below (vp_Si (fun r9 : Int32 => r9 = rr)) ([.ref h0, .int p1] : List Value).toArray s 0 0 (fun _ => False)) (F0 m 89 ls [.int s0_89]) := by
        intro s0_89 cL27 eF ls hl
        refine lv_istore_n (lv' := [(3, .int s0_89), (0, .ref h0), (2, .int (f_X2_chainOf rm fm p1)), (4, .int x4_27)]) hx hb dX0_daysUntilLapse_89 rfl hl (by decide) rfl (fun ls hl => ?_)
        exact hJ90 s0_89 cL27 (eF.trans (by rw [f_X0_daysUntilLapse_j89])) ls (lv_sub hl [1, 2, 0, 3] rfl)
      refine lv_iload hx hb dX0_daysUntilLapse_27 (lv_at hl 3 rfl) ?_
      refine lv_aload_n hx hb dX0_daysUntilLapse_29 rfl (lv_at hl 0 rfl) ?_
      refine va_get (D := (dC, dI)) (ci := 0) (v := .ref h4) (C := RX0) (T := TX0) (N := 12) hx hb hts iwsX00 hown hK hP 0 rfl rfl 1 (by decide) kw2 (fun _ h9 => h9) rfl dX0_daysUntilLapse_30 ?_
      refine va_getN (D := (dC, dI)) (ci := 3) (v := .int rq) (C := RX3) (T := TX3) (N := 4) hx hb hts iwsX30 hown hK hP 4 rfl rfl 3 (by decide) (va_Nw.use rfl hN.2.2.2.2.2.1) (fun _ h9 => h9) rfl dX0_daysUntilLapse_33 ?_
      refine lv_icmp_ge (tgt := 96) hx hb dX0_daysUntilLapse_36 (by decide) (fun cL27 => ?_) (fun cL27 => ?_)
      · refine lv_iload_n hx hb dX0_daysUntilLapse_96 rfl (lv_at hl 2 rfl) ?_
        have e9 : rr = x3_27 := eF.trans (by rw [f_X0_daysUntilLapse_j27, if_pos cL27])
        exact W.iret (v := x3_27) hx hb hr (fun t ht hW => ⟨_, rfl, e9.symm, ht⟩) (fun _ hq => by cases hq) dX0_daysUntilLapse_97
      · refine lv_aload_n hx hb dX0_daysUntilLapse_39 rfl (lv_at hl 0 rfl) ?_
        refine lv_iload hx hb dX0_daysUntilLapse_40 (lv_at hl 3 rfl) ?_
        refine vm_roVx (v := vm_bi (f_X0_isUrgent rq fr x4_27)) (As := [.int x4_27]) (rest := []) (T := TX0) (N := 12) (wc := [(h0, .inr (0, [.ref h1, .ref h4, .ref h6, .int day, .int grace, .int longest, .int spent, .int spentIn, .int spendings, .int urgentSp, .int dropped, .int lapsedLate])), (h1, .inr (2, [.ref h2])), (h2, .inr (3, [.ref h3, .int 12, .int 8, .int rm])), (h3, .inl (cI, 96, .inl fm)), (h4, .inr (3, [.ref h5, .int 6, .int 6, .int rq])), (h5, .inl (cI, 36, .inl fr)), (h6, .inl (cI, 8, .inl ap))]) ⟨hx, hb, hml, hown, hts⟩ hK hN hP hl.1 ⟨Nat.le_of_ble_eq_true rfl, Nat.le_of_ble_eq_true rfl⟩ (c_X0_isUrgent l dC dI cI cB h0 h1 h2 h3 h4 h5 h6 rm fm rq fr ap day grace longest spent spentIn spendings urgentSp dropped lapsedLate x4_27) (cwV 1 hts gX0_daysUntilLapse_X0_isUrgent rfl rfl rfl yd_X0_isUrgent ⟨Nat.le_of_ble_eq_true rfl, Nat.le_of_ble_eq_true rfl⟩) [0, 1, 2, 3, 4, 5, 6] rfl 0 rfl rfl rfl rfl (Nat.le_of_ble_eq_true rfl) dX0_daysUntilLapse_42 ?_
        refine lv_if_eq (tgt := 90) hx hb dX0_daysUntilLapse_45 (by decide) (fun c_2 => ?_) (fun c_2 => ?_)
        · exact hJ90 x3_27 cL27 (eF.trans (by rw [f_X0_daysUntilLapse_j27, if_neg cL27, if_pos c_2])) ls (lv_sub hl [0, 1, 2, 3] rfl)
        · refine lv_iload_n hx hb dX0_daysUntilLapse_48 rfl (lv_at hl 1 rfl) ?_
          refine lv_aload_n hx hb dX0_daysUntilLapse_49 rfl (lv_at hl 0 rfl) ?_
          refine va_get (D := (dC, dI)) (ci := 0) (v := .ref h4) (C := RX0) (T := TX0) (N := 12) hx hb hts iwsX00 hown hK hP 0 rfl rfl 1 (by decide) kw2 (fun _ h9 => h9) rfl dX0_daysUntilLapse_50 ?_
          refine lv_iload hx hb dX0_daysUntilLapse_53 (lv_at hl 3 rfl) ?_
          refine lv_iconst (v := 0) hx hb dX0_daysUntilLapse_55 (by decide) ?_
          refine vm_roVx (v := (f_X3_get 6 rq 36 fr x4_27 0)) (As := [.int x4_27, .int 0]) (rest := [.int (f_X2_chainOf rm fm p1)]) (T := TX3) (N := 4) (wc := [(h4, .inr (3, [.ref h5, .int 6, .int 6, .int rq])), (h5, .inl (cI, 36, .inl fr))]) ⟨hx, hb, hml, hown, hts⟩ hK hN hP hl.1 ⟨Nat.le_of_ble_eq_true rfl, Nat.le_of_ble_eq_true rfl⟩ (c_X3_get l dC dI cI cB h4 h5 6 6 rq 36 fr x4_27 0 (by decide)) (cwV 2 hts gX0_daysUntilLapse_X3_get rfl rfl rfl yd_X3_get ⟨Nat.le_of_ble_eq_true rfl, Nat.le_of_ble_eq_true rfl⟩) [4, 5] rfl 3 rfl rfl rfl rfl (Nat.le_of_ble_eq_true rfl) dX0_daysUntilLapse_56 ?_
          refine vm_roSx (v := vm_bi (f_X2_isIn (f_X2_chainOf rm fm p1) (f_X3_get 6 rq 36 fr x4_27 0))) (As := [.int (f_X2_chainOf rm fm p1), .int (f_X3_get 6 rq 36 fr x4_27 0)]) (rest := []) ⟨hx, hb, hml, hown, hts⟩ hK hN hP hl.1 ⟨Nat.le_of_ble_eq_true rfl, Nat.le_of_ble_eq_true rfl⟩ (c_X2_isIn l dC dI cI cB (f_X2_chainOf rm fm p1) (f_X3_get 6 rq 36 fr x4_27 0)) (va_cwS 2 hts gX0_daysUntilLapse_X2_isIn rfl rfl rfl yd_X2_isIn ⟨Nat.le_of_ble_eq_true rfl, Nat.le_of_ble_eq_true rfl⟩) rfl rfl (Nat.le_of_ble_eq_true rfl) dX0_daysUntilLapse_59 ?_
          refine lv_if_eq (tgt := 90) hx hb dX0_daysUntilLapse_62 (by decide) (fun c_3 => ?_) (fun c_3 => ?_)
          · exact hJ90 x3_27 cL27 (eF.trans (by rw [f_X0_daysUntilLapse_j27, if_neg cL27, if_neg c_2, if_pos c_3])) ls (lv_sub hl [0, 1, 2, 3] rfl)
          · refine lv_aload_n hx hb dX0_daysUntilLapse_65 rfl (lv_at hl 0 rfl) ?_
            refine lv_iload hx hb dX0_daysUntilLapse_66 (lv_at hl 3 rfl) ?_
            refine vm_roVx (v := (f_X0_daysUntilLate rq fr day grace x4_27)) (As := [.int x4_27]) (rest := []) (T := TX0) (N := 12) (wc := [(h0, .inr (0, [.ref h1, .ref h4, .ref h6, .int day, .int grace, .int longest, .int spent, .int spentIn, .int spendings, .int urgentSp, .int dropped, .int lapsedLate])), (h1, .inr (2, [.ref h2])), (h2, .inr (3, [.ref h3, .int 12, .int 8, .int rm])), (h3, .inl (cI, 96, .inl fm)), (h4, .inr (3, [.ref h5, .int 6, .int 6, .int rq])), (h5, .inl (cI, 36, .inl fr)), (h6, .inl (cI, 8, .inl ap))]) ⟨hx, hb, hml, hown, hts⟩ hK hN hP hl.1 ⟨Nat.le_of_ble_eq_true rfl, Nat.le_of_ble_eq_true rfl⟩ (c_X0_daysUntilLate l dC dI cI cB h0 h1 h2 h3 h4 h5 h6 rm fm rq fr ap day grace longest spent spentIn spendings urgentSp dropped lapsedLate x4_27) (cwV 1 hts gX0_daysUntilLapse_X0_daysUntilLate rfl rfl rfl yd_X0_daysUntilLate ⟨Nat.le_of_ble_eq_true rfl, Nat.le_of_ble_eq_true rfl⟩) [0, 1, 2, 3, 4, 5, 6] rfl 0 rfl rfl rfl rfl (Nat.le_of_ble_eq_true rfl) dX0_daysUntilLapse_68 ?_
            refine lv_istore (lv' := [(5, .int (f_X0_daysUntilLate rq fr day grace x4_27)), (0, .ref h0), (2, .int (f_X2_chainOf rm fm p1)), (3, .int x3_27), (4, .int x4_27)]) hx hb dX0_daysUntilLapse_71 hl (by decide) rfl (fun ls hl => ?_)
            refine lv_iload_n hx hb dX0_daysUntilLapse_73 rfl (lv_at hl 3 rfl) ?_
            refine lv_iconst (v := (-1)) hx hb dX0_daysUntilLapse_74 (by decide) ?_
            refine lv_icmp_ne (tgt := 83) hx hb dX0_daysUntilLapse_75 (by decide) (fun c_4 => ?_) (fun c_4 => ?_)
            · refine lv_iload_n hx hb dX0_daysUntilLapse_83 rfl (lv_at hl 3 rfl) ?_
              refine lv_iload hx hb dX0_daysUntilLapse_84 (lv_at hl 0 rfl) ?_
              refine va_mmin hx hb (hml.trans hl.1.symm) hown kw3 kw4 kw5 kw6 (Nat.le_of_ble_eq_true rfl) (Nat.le_of_ble_eq_true rfl) (Nat.le_of_ble_eq_true rfl) (Nat.le_of_ble_eq_true rfl) dX0_daysUntilLapse_86 ?_
              exact hJ89 (if (f_X0_daysUntilLate rq fr day grace x4_27) < x3_27 then (f_X0_daysUntilLate rq fr day grace x4_27) else x3_27) cL27 (eF.trans (by rw [f_X0_daysUntilLapse_j27, if_neg cL27, if_neg c_2, if_neg c_3, if_neg c_4])) ls (lv_sub hl [1, 2, 4] rfl)
            · refine lv_iload hx hb dX0_daysUntilLapse_78 (lv_at hl 0 rfl) ?_
              refine lv_goto (tgt := 89) hx hb dX0_daysUntilLapse_80 (by decide) ?_
              exact hJ89 (f_X0_daysUntilLate rq fr day grace x4_27) cL27 (eF.trans (by rw [f_X0_daysUntilLapse_j27, if_neg cL27, if_neg c_2, if_neg c_3, if_pos c_4])) ls (lv_sub hl [1, 2, 4] rfl)
  refine lv_aload_n hx hb dX0_daysUntilLapse_0 rfl (lv_at hl 0 rfl) ?_
  refine va_get (D := (dC, dI)) (ci := 0) (v := .ref h1) (C := RX0) (T := TX0) (N := 12) hx hb hts iwsX00 hown hK hP 0 rfl rfl 0 (by decide) kw1 (fun _ h9 => h9) rfl dX0_daysUntilLapse_1 ?_
  refine lv_iload_n hx hb dX0_daysUntilLapse_4 rfl (lv_at hl 1 rfl) ?_
  refine vm_roVx (v := vm_bi (f_X2_stands rm fm p1)) (As := [.int p1]) (rest := []) (T := TX2) (N := 1) (wc := [(h1, .inr (2, [.ref h2])), (h2, .inr (3, [.ref h3, .int 12, .int 8, .int rm])), (h3, .inl (cI, 96, .inl fm))]) ⟨hx, hb, hml, hown, hts⟩ hK hN hP hl.1 ⟨Nat.le_of_ble_eq_true rfl, Nat.le_of_ble_eq_true rfl⟩ (c_X2_stands l dC dI cI cB h1 h2 h3 rm fm p1) (cwV 1 hts gX0_daysUntilLapse_X2_stands rfl rfl rfl yd_X2_stands ⟨Nat.le_of_ble_eq_true rfl, Nat.le_of_ble_eq_true rfl⟩) [1, 2, 3] rfl 2 rfl rfl rfl rfl (Nat.le_of_ble_eq_true rfl) dX0_daysUntilLapse_5 ?_
  refine lv_if_ne (tgt := 13) hx hb dX0_daysUntilLapse_8 (by decide) (fun c_5 => ?_) (fun c_5 => ?_)
  · refine lv_aload_n hx hb dX0_daysUntilLapse_13 rfl (lv_at hl 0 rfl) ?_
    refine va_get (D := (dC, dI)) (ci := 0) (v := .ref h1) (C := RX0) (T := TX0) (N := 12) hx hb hts iwsX00 hown hK hP 0 rfl rfl 0 (by decide) kw1 (fun _ h9 => h9) rfl dX0_daysUntilLapse_14 ?_
    refine lv_iload_n hx hb dX0_daysUntilLapse_17 rfl (lv_at hl 1 rfl) ?_
    refine vm_roVx (v := (f_X2_chainOf rm fm p1)) (As := [.int p1]) (rest := []) (T := TX2) (N := 1) (wc := [(h1, .inr (2, [.ref h2])), (h2, .inr (3, [.ref h3, .int 12, .int 8, .int rm])), (h3, .inl (cI, 96, .inl fm))]) ⟨hx, hb, hml, hown, hts⟩ hK hN hP hl.1 ⟨Nat.le_of_ble_eq_true rfl, Nat.le_of_ble_eq_true rfl⟩ (c_X2_chainOf l dC dI cI cB h1 h2 h3 rm fm p1) (cwV 1 hts gX0_daysUntilLapse_X2_chainOf rfl rfl rfl yd_X2_chainOf ⟨Nat.le_of_ble_eq_true rfl, Nat.le_of_ble_eq_true rfl⟩) [1, 2, 3] rfl 2 rfl rfl rfl rfl (Nat.le_of_ble_eq_true rfl) dX0_daysUntilLapse_18 ?_
    refine lv_istore_n (lv' := [(2, .int (f_X2_chainOf rm fm p1)), (0, .ref h0), (1, .int p1)]) hx hb dX0_daysUntilLapse_21 rfl hl (by decide) rfl (fun ls hl => ?_)
    refine lv_iconst (v := (-1)) hx hb dX0_daysUntilLapse_22 (by decide) ?_
    refine lv_istore_n (lv' := [(3, .int (-1)), (2, .int (f_X2_chainOf rm fm p1)), (0, .ref h0), (1, .int p1)]) hx hb dX0_daysUntilLapse_23 rfl hl (by decide) rfl (fun ls hl => ?_)
    refine lv_iconst (v := 0) hx hb dX0_daysUntilLapse_24 (by decide) ?_
    refine lv_istore (lv' := [(4, .int 0), (3, .int (-1)), (2, .int (f_X2_chainOf rm fm p1)), (0, .ref h0), (1, .int p1)]) hx hb dX0_daysUntilLapse_25 hl (by decide) rfl (fun ls hl => ?_)
    exact hJ27 (((rq).toInt - ((0 : Int32)).toInt).toNat + 1) (-1) 0 (Nat.lt_succ_self _) (by decide) (eF.trans (by rw [f_X0_daysUntilLapse, if_neg c_5])) ls (lv_sub hl [3, 2, 1, 0] rfl)
  · refine lv_iconst (v := (-1)) hx hb dX0_daysUntilLapse_11 (by decide) ?_
    have e9 : rr = (-1) := eF.trans (by rw [f_X0_daysUntilLapse, if_pos c_5])
    exact W.iret (v := (-1)) hx hb hr (fun t ht hW => ⟨_, rfl, e9.symm, ht⟩) (fun _ hq => by cases hq) dX0_daysUntilLapse_12
