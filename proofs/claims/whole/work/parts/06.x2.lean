def f_X2_total (r : Int32) : Int32 :=
  r
theorem yd_X2_total : yX2_total.cls = RX2 ∧ yX2_total.cls ≠ "java/lang/invoke/MethodHandle" ∧ yX2_total.cls ≠ "java/lang/invoke/VarHandle" ∧ (parseMethodDescriptor yX2_total.desc).map (fun d => d.parameters.length) = some 0 := by decide +kernel
set_option maxHeartbeats 4000000 in
set_option maxRecDepth 100000 in
theorem c_X2_total (l : Launch) (dC : Nat → ClassId) (dI : Nat → Nat → Nat) (cI cB : ClassId) (h0 h1 h2 : Nat) (r : Int32) (f : Nat → Int32) : Met l yX2_total wsX2_total ({ frames := 0, cells := 0, slots := 0, locals := 0 }) (vm_pre [.ref h0] (dC, dI) [(h0, .inr (2, [.ref h1])), (h1, .inr (3, [.ref h2, .int 12, .int 8, .int r])), (h2, .inl (cI, 96, .inl f))] cI cB) (vp_Si (fun r9 : Int32 => r9 = (f_X2_total r))) 0 0 (fun _ => False) := by
  refine Met.ofW (cc := cX2_total) (maxL := 1) (ret := (some .int)) (by decide) rfl ?_
  intro p e s m args below meth c s₁ B hml hv
  obtain ⟨rfl, hP, hK, hN⟩ := hv
  have hx := B.exec
  have hb := B.bytes
  have hr := B.returns
  have hts := atoms_spec (ws := wsX2_total) B.pre
  have hown : s.vm.findClass RX2 = some m.cls := findClass_of_methodNamed B.named
  have hlocks := B.notSynchronized
  have kw1 := hts (.fieldLink RX2 16 "LapseMandates$Mandates" "table" "LLapseMandates$Table;") (List.mem_of_getElem? (i := 1) rfl)
  have iwsX20 : ∀ w ∈ wsX20, w ∈ wsX2_total := fun w h => List.mem_cons_of_mem _ (List.mem_append_left _ (List.mem_append_right _ h))
  have iwsX30 : ∀ w ∈ wsX30, w ∈ wsX2_total := fun w h => List.mem_cons_of_mem _ (List.mem_append_right _ h)
  generalize hrr : f_X2_total r = rr
  have eF := hrr.symm
  have hl := lv_entry ([.ref h0]) (n := 1) (Nat.le_of_ble_eq_true rfl)
  rw [lg_entry_eq]
  generalize (lg_sl ([.ref h0]) ++ List.replicate (1 - (lg_sl ([.ref h0])).length) Slot.unset).toArray = ls at hl ⊢
  have hl : lv_has ls 1 [(0, .ref h0)] := hl
  refine lv_aload_n hx hb dX2_total_0 rfl (lv_at hl 0 rfl) ?_
  refine va_get (D := (dC, dI)) (ci := 2) (v := .ref h1) (C := RX2) (T := TX2) (N := 1) hx hb hts iwsX20 hown hK hP 0 rfl rfl 0 (by decide) kw1 (fun _ h9 => h9) rfl dX2_total_1 ?_
  refine va_getN (D := (dC, dI)) (ci := 3) (v := .int r) (C := RX3) (T := TX3) (N := 4) hx hb hts iwsX30 hown hK hP 1 rfl rfl 3 (by decide) (va_Nw.use rfl hN.2.2.2.2.1) (fun _ h9 => h9) rfl dX2_total_4 ?_
  have e9 : rr = r := eF.trans (by rw [f_X2_total])
  exact W.iret (v := r) hx hb hr (fun t ht hW => ⟨_, rfl, e9.symm, ht⟩) (fun _ hq => by cases hq) dX2_total_7

def f_X2_get (r : Int32) (f : Nat → Int32) (p1 : Int32) (p2 : Int32) : Int32 :=
  (f_X3_get 8 r 96 f p1 p2)
theorem yd_X2_get : yX2_get.cls = RX2 ∧ yX2_get.cls ≠ "java/lang/invoke/MethodHandle" ∧ yX2_get.cls ≠ "java/lang/invoke/VarHandle" ∧ (parseMethodDescriptor yX2_get.desc).map (fun d => d.parameters.length) = some 2 := by decide +kernel
set_option maxHeartbeats 4000000 in
set_option maxRecDepth 100000 in
theorem c_X2_get (l : Launch) (dC : Nat → ClassId) (dI : Nat → Nat → Nat) (cI cB : ClassId) (h0 h1 h2 : Nat) (r : Int32) (f : Nat → Int32) (p1 : Int32) (p2 : Int32) : Met l yX2_get wsX2_get ({ frames := 1, cells := 0, slots := 0, locals := 23 }) (vm_pre [.ref h0, .int p1, .int p2] (dC, dI) [(h0, .inr (2, [.ref h1])), (h1, .inr (3, [.ref h2, .int 12, .int 8, .int r])), (h2, .inl (cI, 96, .inl f))] cI cB) (vp_Si (fun r9 : Int32 => r9 = (f_X2_get r f p1 p2))) 0 0 (fun _ => False) := by
  refine Met.ofW (cc := cX2_get) (maxL := 3) (ret := (some .int)) (by decide) rfl ?_
  intro p e s m args below meth c s₁ B hml hv
  obtain ⟨rfl, hP, hK, hN⟩ := hv
  have hx := B.exec
  have hb := B.bytes
  have hr := B.returns
  have hts := atoms_spec (ws := wsX2_get) B.pre
  have hown : s.vm.findClass RX2 = some m.cls := findClass_of_methodNamed B.named
  have hlocks := B.notSynchronized
  have kw1 := hts (.fieldLink RX2 16 "LapseMandates$Mandates" "table" "LLapseMandates$Table;") (List.mem_of_getElem? (i := 1) rfl)
  have iwsX20 : ∀ w ∈ wsX20, w ∈ wsX2_get := fun w h => List.mem_cons_of_mem _ (List.mem_append_left _ (List.mem_append_right _ h))
  generalize hrr : f_X2_get r f p1 p2 = rr
  have eF := hrr.symm
  have hl := lv_entry ([.ref h0, .int p1, .int p2]) (n := 3) (Nat.le_of_ble_eq_true rfl)
  rw [lg_entry_eq]
  generalize (lg_sl ([.ref h0, .int p1, .int p2]) ++ List.replicate (3 - (lg_sl ([.ref h0, .int p1, .int p2])).length) Slot.unset).toArray = ls at hl ⊢
  have hl : lv_has ls 3 [(0, .ref h0), (1, .int p1), (2, .int p2)] := hl
  refine lv_aload_n hx hb dX2_get_0 rfl (lv_at hl 0 rfl) ?_
  refine va_get (D := (dC, dI)) (ci := 2) (v := .ref h1) (C := RX2) (T := TX2) (N := 1) hx hb hts iwsX20 hown hK hP 0 rfl rfl 0 (by decide) kw1 (fun _ h9 => h9) rfl dX2_get_1 ?_
  refine lv_iload_n hx hb dX2_get_4 rfl (lv_at hl 1 rfl) ?_
  refine lv_iload_n hx hb dX2_get_5 rfl (lv_at hl 2 rfl) ?_
  refine vm_roVx (v := (f_X3_get 8 r 96 f p1 p2)) (As := [.int p1, .int p2]) (rest := []) (T := TX3) (N := 4) (wc := [(h1, .inr (3, [.ref h2, .int 12, .int 8, .int r])), (h2, .inl (cI, 96, .inl f))]) ⟨hx, hb, hml, hown, hts⟩ hK hN hP hl.1 ⟨Nat.le_of_ble_eq_true rfl, Nat.le_of_ble_eq_true rfl⟩ (c_X3_get l dC dI cI cB h1 h2 12 8 r 96 f p1 p2 (by decide)) (cwV 2 hts gX2_get_X3_get rfl rfl rfl yd_X3_get ⟨Nat.le_of_ble_eq_true rfl, Nat.le_of_ble_eq_true rfl⟩) [1, 2] rfl 3 rfl rfl rfl rfl (Nat.le_of_ble_eq_true rfl) dX2_get_6 ?_
  have e9 : rr = (f_X3_get 8 r 96 f p1 p2) := eF.trans (by rw [f_X2_get])
  exact W.iret (v := (f_X3_get 8 r 96 f p1 p2)) hx hb hr (fun t ht hW => ⟨_, rfl, e9.symm, ht⟩) (fun _ hq => by cases hq) dX2_get_9

def f_X2_exchange_c21 (r : Int32) (f : Nat → Int32) (p1 : Int32) (p2 : Int32) (f_c21 : Nat → Int32) : Int32 × (Nat → Int32) :=
  ((f_X3_get 8 r 96 f p1 p2), f_c21)
def f_X2_exchange (r : Int32) (f : Nat → Int32) (p1 : Int32) (p2 : Int32) (p3 : Int32) : Int32 × (Nat → Int32) :=
  f_X2_exchange_c21 r f p1 p2 (f_X3_put 8 r 96 f p1 p2 p3)
theorem yd_X2_exchange : yX2_exchange.cls = RX2 ∧ yX2_exchange.cls ≠ "java/lang/invoke/MethodHandle" ∧ yX2_exchange.cls ≠ "java/lang/invoke/VarHandle" ∧ (parseMethodDescriptor yX2_exchange.desc).map (fun d => d.parameters.length) = some 3 := by decide +kernel
set_option maxHeartbeats 4000000 in
set_option maxRecDepth 100000 in
theorem c_X2_exchange (l : Launch) (dC : Nat → ClassId) (dI : Nat → Nat → Nat) (cI cB : ClassId) (h0 h1 h2 : Nat) (sz : Nat) (r : Int32) (f : Nat → Int32) (p1 : Int32) (p2 : Int32) (p3 : Int32) : Met l yX2_exchange wsX2_exchange ({ frames := 1, cells := 0, slots := 0, locals := 24 }) (vm_prw [.ref h0, .int p1, .int p2, .int p3] (dC, dI) [(h0, .inr (2, [.ref h1])), (h1, .inr (3, [.ref h2, .int 12, .int 8, .int r])), (h2, .inl (cI, 96, .inl f))] cI cB sz) (va_Qi (fun (r9 : Int32) (_ : Unit) => r9 = (f_X2_exchange r f p1 p2 p3).1) (fun _ t => va_P (dC, dI) vwCl [(h0, .inr (2, [.ref h1])), (h1, .inr (3, [.ref h2, .int 12, .int 8, .int r])), (h2, .inl (cI, 96, .inl ((f_X2_exchange r f p1 p2 p3).2)))] t.heap) (va_A [(h0, .inr (2, [.ref h1])), (h1, .inr (3, [.ref h2, .int 12, .int 8, .int r])), (h2, .inl (cI, 96, .inl f))] sz)) 0 0 (va_A [(h0, .inr (2, [.ref h1])), (h1, .inr (3, [.ref h2, .int 12, .int 8, .int r])), (h2, .inl (cI, 96, .inl f))] sz) := by
  refine Met.ofW (cc := cX2_exchange) (maxL := 5) (ret := (some .int)) (by decide) rfl ?_
  intro p e s m args below meth c s₁ B hml hv
  obtain ⟨rfl, hsz, hP, hK, hN, hD0⟩ := hv
  have hx := B.exec
  have hb := B.bytes
  have hr := B.returns
  have hts := atoms_spec (ws := wsX2_exchange) B.pre
  have hown : s.vm.findClass RX2 = some m.cls := findClass_of_methodNamed B.named
  have hlocks := B.notSynchronized
  subst hsz
  have hD := hD0.self (sz := s.heap.size)
  generalize hAe : va_A [(h0, .inr (2, [.ref h1])), (h1, .inr (3, [.ref h2, .int 12, .int 8, .int r])), (h2, .inl (cI, 96, .inl f))] s.heap.size = A at hD ⊢
  have hA : ∀ q : Nat, s.heap.size ≤ q → A q := fun q h => by rw [← hAe]; exact Or.inr h
  have hS : va_S A s.heap s.heap [] := va_S.rf
  have hP : va_P (dC, dI) vwCl [(h0, .inr (2, [.ref h1])), (h1, .inr (3, [.ref h2, .int 12, .int 8, .int r])), (h2, .inl (cI, 96, .inl f))] s.heap := hP
  have kw1 := hts (.fieldLink RX2 16 "LapseMandates$Mandates" "table" "LLapseMandates$Table;") (List.mem_of_getElem? (i := 1) rfl)
  have iwsX20 : ∀ w ∈ wsX20, w ∈ wsX2_exchange := fun w h => List.mem_cons_of_mem _ (List.mem_append_left _ (List.mem_append_right _ h))
  generalize hrr : f_X2_exchange r f p1 p2 p3 = rr
  have eF := hrr.symm
  have hl := lv_entry ([.ref h0, .int p1, .int p2, .int p3]) (n := 5) (Nat.le_of_ble_eq_true rfl)
  rw [lg_entry_eq]
  generalize (lg_sl ([.ref h0, .int p1, .int p2, .int p3]) ++ List.replicate (5 - (lg_sl ([.ref h0, .int p1, .int p2, .int p3])).length) Slot.unset).toArray = ls at hl ⊢
  have hl : lv_has ls 5 [(0, .ref h0), (1, .int p1), (2, .int p2), (3, .int p3)] := hl
  refine lv_aload_n hx hb dX2_exchange_0 rfl (lv_at hl 0 rfl) ?_
  refine va_get (D := (dC, dI)) (ci := 2) (v := .ref h1) (C := RX2) (T := TX2) (N := 1) hx hb hts iwsX20 hown hK hP 0 rfl rfl 0 (by decide) kw1 (fun _ h9 => h9) rfl dX2_exchange_1 ?_
  refine lv_iload_n hx hb dX2_exchange_4 rfl (lv_at hl 1 rfl) ?_
  refine lv_iload_n hx hb dX2_exchange_5 rfl (lv_at hl 2 rfl) ?_
  refine vm_roVx (v := (f_X3_get 8 r 96 f p1 p2)) (As := [.int p1, .int p2]) (rest := []) (T := TX3) (N := 4) (wc := [(h1, .inr (3, [.ref h2, .int 12, .int 8, .int r])), (h2, .inl (cI, 96, .inl f))]) ⟨hx, hb, hml, hown, hts⟩ hK hN hP hl.1 ⟨Nat.le_of_ble_eq_true rfl, Nat.le_of_ble_eq_true rfl⟩ (c_X3_get l dC dI cI cB h1 h2 12 8 r 96 f p1 p2 (by decide)) (cwV 2 hts gX2_exchange_X3_get rfl rfl rfl yd_X3_get ⟨Nat.le_of_ble_eq_true rfl, Nat.le_of_ble_eq_true rfl⟩) [1, 2] rfl 3 rfl rfl rfl rfl (Nat.le_of_ble_eq_true rfl) dX2_exchange_6 ?_
  refine lv_istore (lv' := [(4, .int (f_X3_get 8 r 96 f p1 p2)), (0, .ref h0), (1, .int p1), (2, .int p2), (3, .int p3)]) hx hb dX2_exchange_9 hl (by decide) rfl (fun ls hl => ?_)
  refine lv_aload_n hx hb dX2_exchange_11 rfl (lv_at hl 1 rfl) ?_
  refine va_get (D := (dC, dI)) (ci := 2) (v := .ref h1) (C := RX2) (T := TX2) (N := 1) hx hb hts iwsX20 hown hK hP 0 rfl rfl 0 (by decide) kw1 (fun _ h9 => h9) rfl dX2_exchange_12 ?_
  refine lv_iload_n hx hb dX2_exchange_15 rfl (lv_at hl 2 rfl) ?_
  refine lv_iload_n hx hb dX2_exchange_16 rfl (lv_at hl 3 rfl) ?_
  refine lv_iload_n hx hb dX2_exchange_17 rfl (lv_at hl 4 rfl) ?_
  refine vm_rwVv (As := [.int p1, .int p2, .int p3]) (rest := []) (T := TX3) (N := 4) (wc := [(h1, .inr (3, [.ref h2, .int 12, .int 8, .int r])), (h2, .inl (cI, 96, .inl f))]) (w1 := [(h1, .inr (3, [.ref h2, .int 12, .int 8, .int r])), (h2, .inl (cI, 96, .inl (f_X3_put 8 r 96 f p1 p2 p3)))]) ⟨hx, hb, hml, hown, hts⟩ hK hN hP hD hS hA hl.1 ⟨Nat.le_of_ble_eq_true rfl, Nat.le_of_ble_eq_true rfl⟩ (c_X3_put l dC dI cI cB h1 h2 _ 12 8 r 96 f p1 p2 p3 (by decide)) (cwV 3 hts gX2_exchange_X3_put rfl rfl rfl yd_X3_put ⟨Nat.le_of_ble_eq_true rfl, Nat.le_of_ble_eq_true rfl⟩) [1, 2] rfl rfl rfl 3 rfl rfl rfl rfl (Nat.le_of_ble_eq_true rfl) dX2_exchange_18 (fun H locs hP hD hS => ?_)
  have hP : va_P (dC, dI) vwCl [(h0, .inr (2, [.ref h1])), (h1, .inr (3, [.ref h2, .int 12, .int 8, .int r])), (h2, .inl (cI, 96, .inl (f_X3_put 8 r 96 f p1 p2 p3)))] H := hP
  have hD : va_D A [(h0, .inr (2, [.ref h1])), (h1, .inr (3, [.ref h2, .int 12, .int 8, .int r])), (h2, .inl (cI, 96, .inl (f_X3_put 8 r 96 f p1 p2 p3)))] := hD
  obtain ⟨f_c21, ef_c21⟩ : ∃ z, z = (f_X3_put 8 r 96 f p1 p2 p3) := ⟨_, rfl⟩
  rw [← ef_c21] at hP hD
  have eF : rr = f_X2_exchange_c21 r f p1 p2 f_c21 := eF.trans (by rw [f_X2_exchange, ef_c21])
  refine lv_iload hx hb dX2_exchange_21 (lv_at hl 0 rfl) ?_
  have e9 : rr = ((f_X3_get 8 r 96 f p1 p2), f_c21) := eF.trans (by rw [f_X2_exchange_c21])
  exact W.iret (v := (f_X3_get 8 r 96 f p1 p2)) hx hb hr (fun t ht hW => ⟨⟨_, (), rfl, by rw [e9], (by rw [e9]; show va_P _ _ _ t.heap; rw [ht]; exact hP)⟩, hS.F ht⟩) hS.2.2 dX2_exchange_23

def f_X2_begin_c77 (y7 : Int32) (r_c7 : Int32) (f_c77 : Nat → Int32) : Int32 × Int32 × (Nat → Int32) :=
  (y7, r_c7, f_c77)
def f_X2_begin_c66 (y7 : Int32) (r_c7 : Int32) (f_c66 : Nat → Int32) : Int32 × Int32 × (Nat → Int32) :=
  f_X2_begin_c77 y7 r_c7 (f_X3_put 8 r_c7 96 f_c66 y7 5 (-1))
def f_X2_begin_c54 (p5 : Int32) (y7 : Int32) (r_c7 : Int32) (f_c54 : Nat → Int32) : Int32 × Int32 × (Nat → Int32) :=
  f_X2_begin_c66 y7 r_c7 (f_X3_put 8 r_c7 96 f_c54 y7 4 p5)
def f_X2_begin_c42 (p4 : Int32) (p5 : Int32) (y7 : Int32) (r_c7 : Int32) (f_c42 : Nat → Int32) : Int32 × Int32 × (Nat → Int32) :=
  f_X2_begin_c54 p5 y7 r_c7 (f_X3_put 8 r_c7 96 f_c42 y7 3 p4)
def f_X2_begin_c31 (p3 : Int32) (p4 : Int32) (p5 : Int32) (y7 : Int32) (r_c7 : Int32) (f_c31 : Nat → Int32) : Int32 × Int32 × (Nat → Int32) :=
  f_X2_begin_c42 p4 p5 y7 r_c7 (f_X3_put 8 r_c7 96 f_c31 y7 2 p3)
def f_X2_begin_c20 (p2 : Int32) (p3 : Int32) (p4 : Int32) (p5 : Int32) (y7 : Int32) (r_c7 : Int32) (f_c20 : Nat → Int32) : Int32 × Int32 × (Nat → Int32) :=
  f_X2_begin_c31 p3 p4 p5 y7 r_c7 (f_X3_put 8 r_c7 96 f_c20 y7 1 p2)
def f_X2_begin_c7 (p1 : Int32) (p2 : Int32) (p3 : Int32) (p4 : Int32) (p5 : Int32) (y7 : Int32) (r_c7 : Int32) (f_c7 : Nat → Int32) : Int32 × Int32 × (Nat → Int32) :=
  f_X2_begin_c20 p2 p3 p4 p5 y7 r_c7 (f_X3_put 8 r_c7 96 f_c7 y7 0 p1)
def f_X2_begin (r : Int32) (f : Nat → Int32) (p1 : Int32) (p2 : Int32) (p3 : Int32) (p4 : Int32) (p5 : Int32) : Int32 × Int32 × (Nat → Int32) :=
  f_X2_begin_c7 p1 p2 p3 p4 p5 ((f_X3_addRow 12 8 r 96 f).1) ((f_X3_addRow 12 8 r 96 f).2.1) ((f_X3_addRow 12 8 r 96 f).2.2)
theorem yd_X2_begin : yX2_begin.cls = RX2 ∧ yX2_begin.cls ≠ "java/lang/invoke/MethodHandle" ∧ yX2_begin.cls ≠ "java/lang/invoke/VarHandle" ∧ (parseMethodDescriptor yX2_begin.desc).map (fun d => d.parameters.length) = some 5 := by decide +kernel
set_option maxHeartbeats 4000000 in
set_option maxRecDepth 100000 in
theorem c_X2_begin (l : Launch) (dC : Nat → ClassId) (dI : Nat → Nat → Nat) (cI cB : ClassId) (h0 h1 h2 : Nat) (sz : Nat) (r : Int32) (f : Nat → Int32) (p1 : Int32) (p2 : Int32) (p3 : Int32) (p4 : Int32) (p5 : Int32) : Met l yX2_begin wsX2_begin ({ frames := 2, cells := 0, slots := 0, locals := 46 }) (vm_prw [.ref h0, .int p1, .int p2, .int p3, .int p4, .int p5] (dC, dI) [(h0, .inr (2, [.ref h1])), (h1, .inr (3, [.ref h2, .int 12, .int 8, .int r])), (h2, .inl (cI, 96, .inl f))] cI cB sz) (va_Qi (fun (r9 : Int32) (_ : Unit) => r9 = (f_X2_begin r f p1 p2 p3 p4 p5).1) (fun _ t => va_P (dC, dI) vwCl [(h0, .inr (2, [.ref h1])), (h1, .inr (3, [.ref h2, .int 12, .int 8, .int ((f_X2_begin r f p1 p2 p3 p4 p5).2.1)])), (h2, .inl (cI, 96, .inl ((f_X2_begin r f p1 p2 p3 p4 p5).2.2)))] t.heap) (va_A [(h0, .inr (2, [.ref h1])), (h1, .inr (3, [.ref h2, .int 12, .int 8, .int r])), (h2, .inl (cI, 96, .inl f))] sz)) 0 0 (va_A [(h0, .inr (2, [.ref h1])), (h1, .inr (3, [.ref h2, .int 12, .int 8, .int r])), (h2, .inl (cI, 96, .inl f))] sz) := by
  refine Met.ofW (cc := cX2_begin) (maxL := 7) (ret := (some .int)) (by decide) rfl ?_
  intro p e s m args below meth c s₁ B hml hv
  obtain ⟨rfl, hsz, hP, hK, hN, hD0⟩ := hv
  have hx := B.exec
  have hb := B.bytes
  have hr := B.returns
  have hts := atoms_spec (ws := wsX2_begin) B.pre
  have hown : s.vm.findClass RX2 = some m.cls := findClass_of_methodNamed B.named
  have hlocks := B.notSynchronized
  subst hsz
  have hD := hD0.self (sz := s.heap.size)
  generalize hAe : va_A [(h0, .inr (2, [.ref h1])), (h1, .inr (3, [.ref h2, .int 12, .int 8, .int r])), (h2, .inl (cI, 96, .inl f))] s.heap.size = A at hD ⊢
  have hA : ∀ q : Nat, s.heap.size ≤ q → A q := fun q h => by rw [← hAe]; exact Or.inr h
  have hS : va_S A s.heap s.heap [] := va_S.rf
  have hP : va_P (dC, dI) vwCl [(h0, .inr (2, [.ref h1])), (h1, .inr (3, [.ref h2, .int 12, .int 8, .int r])), (h2, .inl (cI, 96, .inl f))] s.heap := hP
  have kw1 := hts (.fieldLink RX2 16 "LapseMandates$Mandates" "table" "LLapseMandates$Table;") (List.mem_of_getElem? (i := 1) rfl)
  have iwsX20 : ∀ w ∈ wsX20, w ∈ wsX2_begin := fun w h => List.mem_cons_of_mem _ (List.mem_append_left _ (List.mem_append_right _ h))
  generalize hrr : f_X2_begin r f p1 p2 p3 p4 p5 = rr
  have eF := hrr.symm
  have hl := lv_entry ([.ref h0, .int p1, .int p2, .int p3, .int p4, .int p5]) (n := 7) (Nat.le_of_ble_eq_true rfl)
  rw [lg_entry_eq]
  generalize (lg_sl ([.ref h0, .int p1, .int p2, .int p3, .int p4, .int p5]) ++ List.replicate (7 - (lg_sl ([.ref h0, .int p1, .int p2, .int p3, .int p4, .int p5])).length) Slot.unset).toArray = ls at hl ⊢
  have hl : lv_has ls 7 [(0, .ref h0), (1, .int p1), (2, .int p2), (3, .int p3), (4, .int p4), (5, .int p5)] := hl
  refine lv_aload_n hx hb dX2_begin_0 rfl (lv_at hl 0 rfl) ?_
  refine va_get (D := (dC, dI)) (ci := 2) (v := .ref h1) (C := RX2) (T := TX2) (N := 1) hx hb hts iwsX20 hown hK hP 0 rfl rfl 0 (by decide) kw1 (fun _ h9 => h9) rfl dX2_begin_1 ?_
  refine vm_rwV (As := []) (rest := []) (T := TX3) (N := 4) (wc := [(h1, .inr (3, [.ref h2, .int 12, .int 8, .int r])), (h2, .inl (cI, 96, .inl f))]) (w1 := [(h1, .inr (3, [.ref h2, .int 12, .int 8, .int ((f_X3_addRow 12 8 r 96 f).2.1)])), (h2, .inl (cI, 96, .inl ((f_X3_addRow 12 8 r 96 f).2.2)))]) ⟨hx, hb, hml, hown, hts⟩ hK hN hP hD hS hA hl.1 ⟨Nat.le_of_ble_eq_true rfl, Nat.le_of_ble_eq_true rfl⟩ (c_X3_addRow l dC dI cI cB h1 h2 _ 12 8 r 96 f (by decide)) (cwV 0 hts gX2_begin_X3_addRow rfl rfl rfl yd_X3_addRow ⟨Nat.le_of_ble_eq_true rfl, Nat.le_of_ble_eq_true rfl⟩) [1, 2] rfl rfl rfl 3 rfl rfl rfl rfl (Nat.le_of_ble_eq_true rfl) dX2_begin_4 (fun r7 H locs hw hP hD hS => ?_)
  have hP : va_P (dC, dI) vwCl [(h0, .inr (2, [.ref h1])), (h1, .inr (3, [.ref h2, .int 12, .int 8, .int ((f_X3_addRow 12 8 r 96 f).2.1)])), (h2, .inl (cI, 96, .inl ((f_X3_addRow 12 8 r 96 f).2.2)))] H := hP
  have hD : va_D A [(h0, .inr (2, [.ref h1])), (h1, .inr (3, [.ref h2, .int 12, .int 8, .int ((f_X3_addRow 12 8 r 96 f).2.1)])), (h2, .inl (cI, 96, .inl ((f_X3_addRow 12 8 r 96 f).2.2)))] := hD
  obtain ⟨y7, ey7⟩ : ∃ z, z = (f_X3_addRow 12 8 r 96 f).1 := ⟨_, rfl⟩
  obtain rfl : y7 = r7 := (hw.trans ey7.symm).symm
  obtain ⟨r_c7, er_c7⟩ : ∃ z, z = (f_X3_addRow 12 8 r 96 f).2.1 := ⟨_, rfl⟩
  rw [← er_c7] at hP hD
  obtain ⟨f_c7, ef_c7⟩ : ∃ z, z = (f_X3_addRow 12 8 r 96 f).2.2 := ⟨_, rfl⟩
  rw [← ef_c7] at hP hD
  have eF : rr = f_X2_begin_c7 p1 p2 p3 p4 p5 y7 r_c7 f_c7 := eF.trans (by rw [f_X2_begin, ey7, er_c7, ef_c7])
  refine lv_istore (lv' := [(6, .int y7), (0, .ref h0), (1, .int p1), (2, .int p2), (3, .int p3), (4, .int p4), (5, .int p5)]) hx hb dX2_begin_7 hl (by decide) rfl (fun ls hl => ?_)
  refine lv_aload_n hx hb dX2_begin_9 rfl (lv_at hl 1 rfl) ?_
  refine va_get (D := (dC, dI)) (ci := 2) (v := .ref h1) (C := RX2) (T := TX2) (N := 1) hx hb hts iwsX20 hown hK hP 0 rfl rfl 0 (by decide) kw1 (fun _ h9 => h9) rfl dX2_begin_10 ?_
  refine lv_iload hx hb dX2_begin_13 (lv_at hl 0 rfl) ?_
  refine lv_iconst (v := 0) hx hb dX2_begin_15 (by decide) ?_
  refine lv_iload_n hx hb dX2_begin_16 rfl (lv_at hl 2 rfl) ?_
  refine vm_rwVv (As := [.int y7, .int 0, .int p1]) (rest := []) (T := TX3) (N := 4) (wc := [(h1, .inr (3, [.ref h2, .int 12, .int 8, .int r_c7])), (h2, .inl (cI, 96, .inl f_c7))]) (w1 := [(h1, .inr (3, [.ref h2, .int 12, .int 8, .int r_c7])), (h2, .inl (cI, 96, .inl (f_X3_put 8 r_c7 96 f_c7 y7 0 p1)))]) ⟨hx, hb, hml, hown, hts⟩ hK hN hP hD hS hA hl.1 ⟨Nat.le_of_ble_eq_true rfl, Nat.le_of_ble_eq_true rfl⟩ (c_X3_put l dC dI cI cB h1 h2 _ 12 8 r_c7 96 f_c7 y7 0 p1 (by decide)) (cwV 3 hts gX2_begin_X3_put rfl rfl rfl yd_X3_put ⟨Nat.le_of_ble_eq_true rfl, Nat.le_of_ble_eq_true rfl⟩) [1, 2] rfl rfl rfl 3 rfl rfl rfl rfl (Nat.le_of_ble_eq_true rfl) dX2_begin_17 (fun H locs hP hD hS => ?_)
  have hP : va_P (dC, dI) vwCl [(h0, .inr (2, [.ref h1])), (h1, .inr (3, [.ref h2, .int 12, .int 8, .int r_c7])), (h2, .inl (cI, 96, .inl (f_X3_put 8 r_c7 96 f_c7 y7 0 p1)))] H := hP
  have hD : va_D A [(h0, .inr (2, [.ref h1])), (h1, .inr (3, [.ref h2, .int 12, .int 8, .int r_c7])), (h2, .inl (cI, 96, .inl (f_X3_put 8 r_c7 96 f_c7 y7 0 p1)))] := hD
  obtain ⟨f_c20, ef_c20⟩ : ∃ z, z = (f_X3_put 8 r_c7 96 f_c7 y7 0 p1) := ⟨_, rfl⟩
  rw [← ef_c20] at hP hD
  have eF : rr = f_X2_begin_c20 p2 p3 p4 p5 y7 r_c7 f_c20 := eF.trans (by rw [f_X2_begin_c7, ef_c20])
  refine lv_aload_n hx hb dX2_begin_20 rfl (lv_at hl 1 rfl) ?_
  refine va_get (D := (dC, dI)) (ci := 2) (v := .ref h1) (C := RX2) (T := TX2) (N := 1) hx hb hts iwsX20 hown hK hP 0 rfl rfl 0 (by decide) kw1 (fun _ h9 => h9) rfl dX2_begin_21 ?_
  refine lv_iload hx hb dX2_begin_24 (lv_at hl 0 rfl) ?_
  refine lv_iconst (v := 1) hx hb dX2_begin_26 (by decide) ?_
  refine lv_iload_n hx hb dX2_begin_27 rfl (lv_at hl 3 rfl) ?_
  refine vm_rwVv (As := [.int y7, .int 1, .int p2]) (rest := []) (T := TX3) (N := 4) (wc := [(h1, .inr (3, [.ref h2, .int 12, .int 8, .int r_c7])), (h2, .inl (cI, 96, .inl f_c20))]) (w1 := [(h1, .inr (3, [.ref h2, .int 12, .int 8, .int r_c7])), (h2, .inl (cI, 96, .inl (f_X3_put 8 r_c7 96 f_c20 y7 1 p2)))]) ⟨hx, hb, hml, hown, hts⟩ hK hN hP hD hS hA hl.1 ⟨Nat.le_of_ble_eq_true rfl, Nat.le_of_ble_eq_true rfl⟩ (c_X3_put l dC dI cI cB h1 h2 _ 12 8 r_c7 96 f_c20 y7 1 p2 (by decide)) (cwV 3 hts gX2_begin_X3_put rfl rfl rfl yd_X3_put ⟨Nat.le_of_ble_eq_true rfl, Nat.le_of_ble_eq_true rfl⟩) [1, 2] rfl rfl rfl 3 rfl rfl rfl rfl (Nat.le_of_ble_eq_true rfl) dX2_begin_28 (fun H locs hP hD hS => ?_)
  have hP : va_P (dC, dI) vwCl [(h0, .inr (2, [.ref h1])), (h1, .inr (3, [.ref h2, .int 12, .int 8, .int r_c7])), (h2, .inl (cI, 96, .inl (f_X3_put 8 r_c7 96 f_c20 y7 1 p2)))] H := hP
  have hD : va_D A [(h0, .inr (2, [.ref h1])), (h1, .inr (3, [.ref h2, .int 12, .int 8, .int r_c7])), (h2, .inl (cI, 96, .inl (f_X3_put 8 r_c7 96 f_c20 y7 1 p2)))] := hD
  obtain ⟨f_c31, ef_c31⟩ : ∃ z, z = (f_X3_put 8 r_c7 96 f_c20 y7 1 p2) := ⟨_, rfl⟩
  rw [← ef_c31] at hP hD
  have eF : rr = f_X2_begin_c31 p3 p4 p5 y7 r_c7 f_c31 := eF.trans (by rw [f_X2_begin_c20, ef_c31])
  refine lv_aload_n hx hb dX2_begin_31 rfl (lv_at hl 1 rfl) ?_
  refine va_get (D := (dC, dI)) (ci := 2) (v := .ref h1) (C := RX2) (T := TX2) (N := 1) hx hb hts iwsX20 hown hK hP 0 rfl rfl 0 (by decide) kw1 (fun _ h9 => h9) rfl dX2_begin_32 ?_
  refine lv_iload hx hb dX2_begin_35 (lv_at hl 0 rfl) ?_
  refine lv_iconst (v := 2) hx hb dX2_begin_37 (by decide) ?_
  refine lv_iload_n hx hb dX2_begin_38 rfl (lv_at hl 4 rfl) ?_
  refine vm_rwVv (As := [.int y7, .int 2, .int p3]) (rest := []) (T := TX3) (N := 4) (wc := [(h1, .inr (3, [.ref h2, .int 12, .int 8, .int r_c7])), (h2, .inl (cI, 96, .inl f_c31))]) (w1 := [(h1, .inr (3, [.ref h2, .int 12, .int 8, .int r_c7])), (h2, .inl (cI, 96, .inl (f_X3_put 8 r_c7 96 f_c31 y7 2 p3)))]) ⟨hx, hb, hml, hown, hts⟩ hK hN hP hD hS hA hl.1 ⟨Nat.le_of_ble_eq_true rfl, Nat.le_of_ble_eq_true rfl⟩ (c_X3_put l dC dI cI cB h1 h2 _ 12 8 r_c7 96 f_c31 y7 2 p3 (by decide)) (cwV 3 hts gX2_begin_X3_put rfl rfl rfl yd_X3_put ⟨Nat.le_of_ble_eq_true rfl, Nat.le_of_ble_eq_true rfl⟩) [1, 2] rfl rfl rfl 3 rfl rfl rfl rfl (Nat.le_of_ble_eq_true rfl) dX2_begin_39 (fun H locs hP hD hS => ?_)
  have hP : va_P (dC, dI) vwCl [(h0, .inr (2, [.ref h1])), (h1, .inr (3, [.ref h2, .int 12, .int 8, .int r_c7])), (h2, .inl (cI, 96, .inl (f_X3_put 8 r_c7 96 f_c31 y7 2 p3)))] H := hP
  have hD : va_D A [(h0, .inr (2, [.ref h1])), (h1, .inr (3, [.ref h2, .int 12, .int 8, .int r_c7])), (h2, .inl (cI, 96, .inl (f_X3_put 8 r_c7 96 f_c31 y7 2 p3)))] := hD
  obtain ⟨f_c42, ef_c42⟩ : ∃ z, z = (f_X3_put 8 r_c7 96 f_c31 y7 2 p3) := ⟨_, rfl⟩
  rw [← ef_c42] at hP hD
  have eF : rr = f_X2_begin_c42 p4 p5 y7 r_c7 f_c42 := eF.trans (by rw [f_X2_begin_c31, ef_c42])
  refine lv_aload_n hx hb dX2_begin_42 rfl (lv_at hl 1 rfl) ?_
  refine va_get (D := (dC, dI)) (ci := 2) (v := .ref h1) (C := RX2) (T := TX2) (N := 1) hx hb hts iwsX20 hown hK hP 0 rfl rfl 0 (by decide) kw1 (fun _ h9 => h9) rfl dX2_begin_43 ?_
  refine lv_iload hx hb dX2_begin_46 (lv_at hl 0 rfl) ?_
  refine lv_iconst (v := 3) hx hb dX2_begin_48 (by decide) ?_
  refine lv_iload hx hb dX2_begin_49 (lv_at hl 5 rfl) ?_
  refine vm_rwVv (As := [.int y7, .int 3, .int p4]) (rest := []) (T := TX3) (N := 4) (wc := [(h1, .inr (3, [.ref h2, .int 12, .int 8, .int r_c7])), (h2, .inl (cI, 96, .inl f_c42))]) (w1 := [(h1, .inr (3, [.ref h2, .int 12, .int 8, .int r_c7])), (h2, .inl (cI, 96, .inl (f_X3_put 8 r_c7 96 f_c42 y7 3 p4)))]) ⟨hx, hb, hml, hown, hts⟩ hK hN hP hD hS hA hl.1 ⟨Nat.le_of_ble_eq_true rfl, Nat.le_of_ble_eq_true rfl⟩ (c_X3_put l dC dI cI cB h1 h2 _ 12 8 r_c7 96 f_c42 y7 3 p4 (by decide)) (cwV 3 hts gX2_begin_X3_put rfl rfl rfl yd_X3_put ⟨Nat.le_of_ble_eq_true rfl, Nat.le_of_ble_eq_true rfl⟩) [1, 2] rfl rfl rfl 3 rfl rfl rfl rfl (Nat.le_of_ble_eq_true rfl) dX2_begin_51 (fun H locs hP hD hS => ?_)
  have hP : va_P (dC, dI) vwCl [(h0, .inr (2, [.ref h1])), (h1, .inr (3, [.ref h2, .int 12, .int 8, .int r_c7])), (h2, .inl (cI, 96, .inl (f_X3_put 8 r_c7 96 f_c42 y7 3 p4)))] H := hP
  have hD : va_D A [(h0, .inr (2, [.ref h1])), (h1, .inr (3, [.ref h2, .int 12, .int 8, .int r_c7])), (h2, .inl (cI, 96, .inl (f_X3_put 8 r_c7 96 f_c42 y7 3 p4)))] := hD
  obtain ⟨f_c54, ef_c54⟩ : ∃ z, z = (f_X3_put 8 r_c7 96 f_c42 y7 3 p4) := ⟨_, rfl⟩
  rw [← ef_c54] at hP hD
  have eF : rr = f_X2_begin_c54 p5 y7 r_c7 f_c54 := eF.trans (by rw [f_X2_begin_c42, ef_c54])
  refine lv_aload_n hx hb dX2_begin_54 rfl (lv_at hl 1 rfl) ?_
  refine va_get (D := (dC, dI)) (ci := 2) (v := .ref h1) (C := RX2) (T := TX2) (N := 1) hx hb hts iwsX20 hown hK hP 0 rfl rfl 0 (by decide) kw1 (fun _ h9 => h9) rfl dX2_begin_55 ?_
  refine lv_iload hx hb dX2_begin_58 (lv_at hl 0 rfl) ?_
  refine lv_iconst (v := 4) hx hb dX2_begin_60 (by decide) ?_
  refine lv_iload hx hb dX2_begin_61 (lv_at hl 6 rfl) ?_
  refine vm_rwVv (As := [.int y7, .int 4, .int p5]) (rest := []) (T := TX3) (N := 4) (wc := [(h1, .inr (3, [.ref h2, .int 12, .int 8, .int r_c7])), (h2, .inl (cI, 96, .inl f_c54))]) (w1 := [(h1, .inr (3, [.ref h2, .int 12, .int 8, .int r_c7])), (h2, .inl (cI, 96, .inl (f_X3_put 8 r_c7 96 f_c54 y7 4 p5)))]) ⟨hx, hb, hml, hown, hts⟩ hK hN hP hD hS hA hl.1 ⟨Nat.le_of_ble_eq_true rfl, Nat.le_of_ble_eq_true rfl⟩ (c_X3_put l dC dI cI cB h1 h2 _ 12 8 r_c7 96 f_c54 y7 4 p5 (by decide)) (cwV 3 hts gX2_begin_X3_put rfl rfl rfl yd_X3_put ⟨Nat.le_of_ble_eq_true rfl, Nat.le_of_ble_eq_true rfl⟩) [1, 2] rfl rfl rfl 3 rfl rfl rfl rfl (Nat.le_of_ble_eq_true rfl) dX2_begin_63 (fun H locs hP hD hS => ?_)
  have hP : va_P (dC, dI) vwCl [(h0, .inr (2, [.ref h1])), (h1, .inr (3, [.ref h2, .int 12, .int 8, .int r_c7])), (h2, .inl (cI, 96, .inl (f_X3_put 8 r_c7 96 f_c54 y7 4 p5)))] H := hP
  have hD : va_D A [(h0, .inr (2, [.ref h1])), (h1, .inr (3, [.ref h2, .int 12, .int 8, .int r_c7])), (h2, .inl (cI, 96, .inl (f_X3_put 8 r_c7 96 f_c54 y7 4 p5)))] := hD
  obtain ⟨f_c66, ef_c66⟩ : ∃ z, z = (f_X3_put 8 r_c7 96 f_c54 y7 4 p5) := ⟨_, rfl⟩
  rw [← ef_c66] at hP hD
  have eF : rr = f_X2_begin_c66 y7 r_c7 f_c66 := eF.trans (by rw [f_X2_begin_c54, ef_c66])
  refine lv_aload_n hx hb dX2_begin_66 rfl (lv_at hl 1 rfl) ?_
  refine va_get (D := (dC, dI)) (ci := 2) (v := .ref h1) (C := RX2) (T := TX2) (N := 1) hx hb hts iwsX20 hown hK hP 0 rfl rfl 0 (by decide) kw1 (fun _ h9 => h9) rfl dX2_begin_67 ?_
  refine lv_iload hx hb dX2_begin_70 (lv_at hl 0 rfl) ?_
  refine lv_iconst (v := 5) hx hb dX2_begin_72 (by decide) ?_
  refine lv_iconst (v := (-1)) hx hb dX2_begin_73 (by decide) ?_
  refine vm_rwVv (As := [.int y7, .int 5, .int (-1)]) (rest := []) (T := TX3) (N := 4) (wc := [(h1, .inr (3, [.ref h2, .int 12, .int 8, .int r_c7])), (h2, .inl (cI, 96, .inl f_c66))]) (w1 := [(h1, .inr (3, [.ref h2, .int 12, .int 8, .int r_c7])), (h2, .inl (cI, 96, .inl (f_X3_put 8 r_c7 96 f_c66 y7 5 (-1))))]) ⟨hx, hb, hml, hown, hts⟩ hK hN hP hD hS hA hl.1 ⟨Nat.le_of_ble_eq_true rfl, Nat.le_of_ble_eq_true rfl⟩ (c_X3_put l dC dI cI cB h1 h2 _ 12 8 r_c7 96 f_c66 y7 5 (-1) (by decide)) (cwV 3 hts gX2_begin_X3_put rfl rfl rfl yd_X3_put ⟨Nat.le_of_ble_eq_true rfl, Nat.le_of_ble_eq_true rfl⟩) [1, 2] rfl rfl rfl 3 rfl rfl rfl rfl (Nat.le_of_ble_eq_true rfl) dX2_begin_74 (fun H locs hP hD hS => ?_)
  have hP : va_P (dC, dI) vwCl [(h0, .inr (2, [.ref h1])), (h1, .inr (3, [.ref h2, .int 12, .int 8, .int r_c7])), (h2, .inl (cI, 96, .inl (f_X3_put 8 r_c7 96 f_c66 y7 5 (-1))))] H := hP
  have hD : va_D A [(h0, .inr (2, [.ref h1])), (h1, .inr (3, [.ref h2, .int 12, .int 8, .int r_c7])), (h2, .inl (cI, 96, .inl (f_X3_put 8 r_c7 96 f_c66 y7 5 (-1))))] := hD
  obtain ⟨f_c77, ef_c77⟩ : ∃ z, z = (f_X3_put 8 r_c7 96 f_c66 y7 5 (-1)) := ⟨_, rfl⟩
  rw [← ef_c77] at hP hD
  have eF : rr = f_X2_begin_c77 y7 r_c7 f_c77 := eF.trans (by rw [f_X2_begin_c66, ef_c77])
  refine lv_iload hx hb dX2_begin_77 (lv_at hl 0 rfl) ?_
  have e9 : rr = (y7, r_c7, f_c77) := eF.trans (by rw [f_X2_begin_c77])
  exact W.iret (v := y7) hx hb hr (fun t ht hW => ⟨⟨_, (), rfl, by rw [e9], (by rw [e9]; show va_P _ _ _ t.heap; rw [ht]; exact hP)⟩, hS.F ht⟩) hS.2.2 dX2_begin_79

def f_X2_stands (r : Int32) (f : Nat → Int32) (p1 : Int32) : Bool :=
  if p1 < 0 then
    false
  else
    if (f_X2_total r) ≤ p1 then
      false
    else
      if (f_X3_get 8 r 96 f p1 5) = (-1) then
        true
      else
        false
theorem yd_X2_stands : yX2_stands.cls = RX2 ∧ yX2_stands.cls ≠ "java/lang/invoke/MethodHandle" ∧ yX2_stands.cls ≠ "java/lang/invoke/VarHandle" ∧ (parseMethodDescriptor yX2_stands.desc).map (fun d => d.parameters.length) = some 1 := by decide +kernel
set_option maxHeartbeats 4000000 in
set_option maxRecDepth 100000 in
theorem c_X2_stands (l : Launch) (dC : Nat → ClassId) (dI : Nat → Nat → Nat) (cI cB : ClassId) (h0 h1 h2 : Nat) (r : Int32) (f : Nat → Int32) (p1 : Int32) : Met l yX2_stands wsX2_stands ({ frames := 1, cells := 0, slots := 0, locals := 23 }) (vm_pre [.ref h0, .int p1] (dC, dI) [(h0, .inr (2, [.ref h1])), (h1, .inr (3, [.ref h2, .int 12, .int 8, .int r])), (h2, .inl (cI, 96, .inl f))] cI cB) (vp_Si (fun r9 : Int32 => r9 = vm_bi (f_X2_stands r f p1))) 0 0 (fun _ => False) := by
  refine Met.ofW (cc := cX2_stands) (maxL := 2) (ret := (some .boolean)) (by decide) rfl ?_
  intro p e s m args below meth c s₁ B hml hv
  obtain ⟨rfl, hP, hK, hN⟩ := hv
  have hx := B.exec
  have hb := B.bytes
  have hr := B.returns
  have hts := atoms_spec (ws := wsX2_stands) B.pre
  have hown : s.vm.findClass RX2 = some m.cls := findClass_of_methodNamed B.named
  have hlocks := B.notSynchronized
  have kw1 := hts (.fieldLink RX2 16 "LapseMandates$Mandates" "table" "LLapseMandates$Table;") (List.mem_of_getElem? (i := 1) rfl)
  have iwsX20 : ∀ w ∈ wsX20, w ∈ wsX2_stands := fun w h => List.mem_cons_of_mem _ (List.mem_append_left _ (List.mem_append_right _ h))
  generalize hrr : f_X2_stands r f p1 = rr
  have eF := hrr.symm
  have hl := lv_entry ([.ref h0, .int p1]) (n := 2) (Nat.le_of_ble_eq_true rfl)
  rw [lg_entry_eq]
  generalize (lg_sl ([.ref h0, .int p1]) ++ List.replicate (2 - (lg_sl ([.ref h0, .int p1])).length) Slot.unset).toArray = ls at hl ⊢
  have hl : lv_has ls 2 [(0, .ref h0), (1, .int p1)] := hl
  refine lv_iload_n hx hb dX2_stands_0 rfl (lv_at hl 1 rfl) ?_
  refine lv_if_lt (tgt := 29) hx hb dX2_stands_1 (by decide) (fun c_1 => ?_) (fun c_1 => ?_)
  · refine lv_iconst (v := 0) hx hb dX2_stands_29 (by decide) ?_
    have e9 : rr = false := eF.trans (by rw [f_X2_stands, if_pos c_1])
    exact W.zret (v := 0) hx hb hr rfl (fun t ht hW => ⟨_, rfl, by rw [e9] <;> rfl, ht⟩) (fun _ hq => by cases hq) dX2_stands_30
  · refine lv_iload_n hx hb dX2_stands_4 rfl (lv_at hl 1 rfl) ?_
    refine lv_aload_n hx hb dX2_stands_5 rfl (lv_at hl 0 rfl) ?_
    refine vm_roVx (v := (f_X2_total r)) (As := []) (rest := [.int p1]) (T := TX2) (N := 1) (wc := [(h0, .inr (2, [.ref h1])), (h1, .inr (3, [.ref h2, .int 12, .int 8, .int r])), (h2, .inl (cI, 96, .inl f))]) ⟨hx, hb, hml, hown, hts⟩ hK hN hP hl.1 ⟨Nat.le_of_ble_eq_true rfl, Nat.le_of_ble_eq_true rfl⟩ (c_X2_total l dC dI cI cB h0 h1 h2 r f) (cwV 0 hts gX2_stands_X2_total rfl rfl rfl yd_X2_total ⟨Nat.le_of_ble_eq_true rfl, Nat.le_of_ble_eq_true rfl⟩) [0, 1, 2] rfl 2 rfl rfl rfl rfl (Nat.le_of_ble_eq_true rfl) dX2_stands_6 ?_
    refine lv_icmp_ge (tgt := 29) hx hb dX2_stands_9 (by decide) (fun c_2 => ?_) (fun c_2 => ?_)
    · refine lv_iconst (v := 0) hx hb dX2_stands_29 (by decide) ?_
      have e9 : rr = false := eF.trans (by rw [f_X2_stands, if_neg c_1, if_pos c_2])
      exact W.zret (v := 0) hx hb hr rfl (fun t ht hW => ⟨_, rfl, by rw [e9] <;> rfl, ht⟩) (fun _ hq => by cases hq) dX2_stands_30
    · refine lv_aload_n hx hb dX2_stands_12 rfl (lv_at hl 0 rfl) ?_
      refine va_get (D := (dC, dI)) (ci := 2) (v := .ref h1) (C := RX2) (T := TX2) (N := 1) hx hb hts iwsX20 hown hK hP 0 rfl rfl 0 (by decide) kw1 (fun _ h9 => h9) rfl dX2_stands_13 ?_
      refine lv_iload_n hx hb dX2_stands_16 rfl (lv_at hl 1 rfl) ?_
      refine lv_iconst (v := 5) hx hb dX2_stands_17 (by decide) ?_
      refine vm_roVx (v := (f_X3_get 8 r 96 f p1 5)) (As := [.int p1, .int 5]) (rest := []) (T := TX3) (N := 4) (wc := [(h1, .inr (3, [.ref h2, .int 12, .int 8, .int r])), (h2, .inl (cI, 96, .inl f))]) ⟨hx, hb, hml, hown, hts⟩ hK hN hP hl.1 ⟨Nat.le_of_ble_eq_true rfl, Nat.le_of_ble_eq_true rfl⟩ (c_X3_get l dC dI cI cB h1 h2 12 8 r 96 f p1 5 (by decide)) (cwV 2 hts gX2_stands_X3_get rfl rfl rfl yd_X3_get ⟨Nat.le_of_ble_eq_true rfl, Nat.le_of_ble_eq_true rfl⟩) [1, 2] rfl 3 rfl rfl rfl rfl (Nat.le_of_ble_eq_true rfl) dX2_stands_18 ?_
      refine lv_iconst (v := (-1)) hx hb dX2_stands_21 (by decide) ?_
      refine lv_icmp_ne (tgt := 29) hx hb dX2_stands_22 (by decide) (fun c_3 => ?_) (fun c_3 => ?_)
      · refine lv_iconst (v := 0) hx hb dX2_stands_29 (by decide) ?_
        have e9 : rr = false := eF.trans (by rw [f_X2_stands, if_neg c_1, if_neg c_2, if_neg c_3])
        exact W.zret (v := 0) hx hb hr rfl (fun t ht hW => ⟨_, rfl, by rw [e9] <;> rfl, ht⟩) (fun _ hq => by cases hq) dX2_stands_30
      · refine lv_iconst (v := 1) hx hb dX2_stands_25 (by decide) ?_
        refine lv_goto (tgt := 30) hx hb dX2_stands_26 (by decide) ?_
        have e9 : rr = true := eF.trans (by rw [f_X2_stands, if_neg c_1, if_neg c_2, if_pos c_3])
        exact W.zret (v := 1) hx hb hr rfl (fun t ht hW => ⟨_, rfl, by rw [e9] <;> rfl, ht⟩) (fun _ hq => by cases hq) dX2_stands_30

def f_X2_isIn (p1 : Int32) (p2 : Int32) : Bool :=
  if p2 < 0 then
    false
  else
    if 12 ≤ p2 then
      false
    else
      if ((p1 >>> (p2 &&& 31)) &&& 1) = 1 then
        true
      else
        false
theorem yd_X2_isIn : yX2_isIn.cls ≠ "java/lang/invoke/MethodHandle" ∧ yX2_isIn.cls ≠ "java/lang/invoke/VarHandle" ∧ (parseMethodDescriptor yX2_isIn.desc).map (fun d => d.parameters.length) = some 2 := by decide +kernel
set_option maxHeartbeats 4000000 in
set_option maxRecDepth 100000 in
theorem c_X2_isIn (l : Launch) (dC : Nat → ClassId) (dI : Nat → Nat → Nat) (cI cB : ClassId) (p1 : Int32) (p2 : Int32) : Met l yX2_isIn wsX2_isIn ({ frames := 0, cells := 0, slots := 0, locals := 0 }) (vm_pre [.int p1, .int p2] (dC, dI) [] cI cB) (vp_Si (fun r9 : Int32 => r9 = vm_bi (f_X2_isIn p1 p2))) 0 0 (fun _ => False) := by
  refine Met.ofW (cc := cX2_isIn) (maxL := 2) (ret := (some .boolean)) (by decide) rfl ?_
  intro p e s m args below meth c s₁ B hml hv
  obtain ⟨rfl, hP, hK, hN⟩ := hv
  have hx := B.exec
  have hb := B.bytes
  have hr := B.returns
  have hts := atoms_spec (ws := wsX2_isIn) B.pre
  have hown : s.vm.findClass RX2 = some m.cls := findClass_of_methodNamed B.named
  have hlocks := B.notSynchronized
  generalize hrr : f_X2_isIn p1 p2 = rr
  have eF := hrr.symm
  have hl := lv_entry ([.int p1, .int p2]) (n := 2) (Nat.le_of_ble_eq_true rfl)
  rw [lg_entry_eq]
  generalize (lg_sl ([.int p1, .int p2]) ++ List.replicate (2 - (lg_sl ([.int p1, .int p2])).length) Slot.unset).toArray = ls at hl ⊢
  have hl : lv_has ls 2 [(0, .int p1), (1, .int p2)] := hl
  refine lv_iload_n hx hb dX2_isIn_0 rfl (lv_at hl 1 rfl) ?_
  refine lv_if_lt (tgt := 23) hx hb dX2_isIn_1 (by decide) (fun c_1 => ?_) (fun c_1 => ?_)
  · refine lv_iconst (v := 0) hx hb dX2_isIn_23 (by decide) ?_
    have e9 : rr = false := eF.trans (by rw [f_X2_isIn, if_pos c_1])
    exact W.zret (v := 0) hx hb hr rfl (fun t ht hW => ⟨_, rfl, by rw [e9] <;> rfl, ht⟩) (fun _ hq => by cases hq) dX2_isIn_24
  · refine lv_iload_n hx hb dX2_isIn_4 rfl (lv_at hl 1 rfl) ?_
    refine lv_bipush (v := 12) hx hb dX2_isIn_5 (by decide) ?_
    refine lv_icmp_ge (tgt := 23) hx hb dX2_isIn_7 (by decide) (fun c_2 => ?_) (fun c_2 => ?_)
    · refine lv_iconst (v := 0) hx hb dX2_isIn_23 (by decide) ?_
      have e9 : rr = false := eF.trans (by rw [f_X2_isIn, if_neg c_1, if_pos c_2])
      exact W.zret (v := 0) hx hb hr rfl (fun t ht hW => ⟨_, rfl, by rw [e9] <;> rfl, ht⟩) (fun _ hq => by cases hq) dX2_isIn_24
    · refine lv_iload_n hx hb dX2_isIn_10 rfl (lv_at hl 0 rfl) ?_
      refine lv_iload_n hx hb dX2_isIn_11 rfl (lv_at hl 1 rfl) ?_
      refine lv_ishr hx hb dX2_isIn_12 ?_
      refine lv_iconst (v := 1) hx hb dX2_isIn_13 (by decide) ?_
      refine lv_iand hx hb dX2_isIn_14 ?_
      refine lv_iconst (v := 1) hx hb dX2_isIn_15 (by decide) ?_
      refine lv_icmp_ne (tgt := 23) hx hb dX2_isIn_16 (by decide) (fun c_3 => ?_) (fun c_3 => ?_)
      · refine lv_iconst (v := 0) hx hb dX2_isIn_23 (by decide) ?_
        have e9 : rr = false := eF.trans (by rw [f_X2_isIn, if_neg c_1, if_neg c_2, if_neg c_3])
        exact W.zret (v := 0) hx hb hr rfl (fun t ht hW => ⟨_, rfl, by rw [e9] <;> rfl, ht⟩) (fun _ hq => by cases hq) dX2_isIn_24
      · refine lv_iconst (v := 1) hx hb dX2_isIn_19 (by decide) ?_
        refine lv_goto (tgt := 24) hx hb dX2_isIn_20 (by decide) ?_
        have e9 : rr = true := eF.trans (by rw [f_X2_isIn, if_neg c_1, if_neg c_2, if_pos c_3])
        exact W.zret (v := 1) hx hb hr rfl (fun t ht hW => ⟨_, rfl, by rw [e9] <;> rfl, ht⟩) (fun _ hq => by cases hq) dX2_isIn_24

def f_X2_chainOf_j7 (r : Int32) (f : Nat → Int32) : Nat → Int32 → Int32 → Int32 → Int32
  | 0, _, _, _ => 0
  | n7 + 1, x2_7, x3_7, x4_7 => if 12 ≤ x4_7 then
      x2_7
    else
      if x3_7 < 0 then
        x2_7
      else
        f_X2_chainOf_j7 r f n7 (x2_7 ||| (1 <<< (x3_7 &&& 31))) (f_X3_get 8 r 96 f x3_7 0) (x4_7 + 1)
def f_X2_chainOf (r : Int32) (f : Nat → Int32) (p1 : Int32) : Int32 :=
  f_X2_chainOf_j7 r f ((((12 : Int32)).toInt - ((0 : Int32)).toInt).toNat + 1) 0 p1 0
theorem yd_X2_chainOf : yX2_chainOf.cls = RX2 ∧ yX2_chainOf.cls ≠ "java/lang/invoke/MethodHandle" ∧ yX2_chainOf.cls ≠ "java/lang/invoke/VarHandle" ∧ (parseMethodDescriptor yX2_chainOf.desc).map (fun d => d.parameters.length) = some 1 := by decide +kernel
set_option maxHeartbeats 4000000 in
set_option maxRecDepth 100000 in
theorem c_X2_chainOf (l : Launch) (dC : Nat → ClassId) (dI : Nat → Nat → Nat) (cI cB : ClassId) (h0 h1 h2 : Nat) (r : Int32) (f : Nat → Int32) (p1 : Int32) : Met l yX2_chainOf wsX2_chainOf ({ frames := 1, cells := 0, slots := 0, locals := 23 }) (vm_pre [.ref h0, .int p1] (dC, dI) [(h0, .inr (2, [.ref h1])), (h1, .inr (3, [.ref h2, .int 12, .int 8, .int r])), (h2, .inl (cI, 96, .inl f))] cI cB) (vp_Si (fun r9 : Int32 => r9 = (f_X2_chainOf r f p1))) 0 0 (fun _ => False) := by
  refine Met.ofW (cc := cX2_chainOf) (maxL := 5) (ret := (some .int)) (by decide) rfl ?_
  intro p e s m args below meth c s₁ B hml hv
  obtain ⟨rfl, hP, hK, hN⟩ := hv
  have hx := B.exec
  have hb := B.bytes
  have hr := B.returns
  have hts := atoms_spec (ws := wsX2_chainOf) B.pre
  have hown : s.vm.findClass RX2 = some m.cls := findClass_of_methodNamed B.named
  have hlocks := B.notSynchronized
  have kw1 := hts (.fieldLink RX2 16 "LapseMandates$Mandates" "table" "LLapseMandates$Table;") (List.mem_of_getElem? (i := 1) rfl)
  have iwsX20 : ∀ w ∈ wsX20, w ∈ wsX2_chainOf := fun w h => List.mem_cons_of_mem _ (List.mem_append_left _ (List.mem_append_right _ h))
  generalize hrr : f_X2_chainOf r f p1 = rr
  have eF := hrr.symm
  have hl := lv_entry ([.ref h0, .int p1]) (n := 5) (Nat.le_of_ble_eq_true rfl)
  rw [lg_entry_eq]
  generalize (lg_sl ([.ref h0, .int p1]) ++ List.replicate (5 - (lg_sl ([.ref h0, .int p1])).length) Slot.unset).toArray = ls at hl ⊢
  have hl : lv_has ls 5 [(0, .ref h0), (1, .int p1)] := hl
  have hJ7 : ∀ (n7 : Nat) (x2_7 : Int32) (x3_7 : Int32) (x4_7 : Int32), (((12 : Int32)).toInt - (x4_7).toInt).toNat < n7 → 0 ≤ x4_7 → rr = f_X2_chainOf_j7 r f n7 x2_7 x3_7 x4_7 → ∀ (ls : Array Slot), lv_has ls 5 [(0, .ref h0), (2, .int x2_7), (3, .int x3_7), (4, .int x4_7)] → W p l e (headSpec wsX2_chainOf ({ frames := 1, cells := 0, slots := 0, locals := 23 })).room s m ([.ref h0, .int p1] : List Value).toArray below meth c s.heap [] 0 0 (MQ below (vp_Si (fun r9 : Int32 => r9 = rr)) ([.ref h0, .int p1] : List Value).toArray s 0 0 (fun _ => False)) (F0 m 7 ls []) := by
    intro n7
    induction n7 with
    | zero =>
      intro x2_7 x3_7 x4_7 hm7
      exact absurd hm7 (Nat.not_lt_zero _)
    | succ n7 ih7 =>
      intro x2_7 x3_7 x4_7 hm7 hi7 eF ls hl
      refine lv_iload hx hb dX2_chainOf_7 (lv_at hl 3 rfl) ?_
      refine lv_bipush (v := 12) hx hb dX2_chainOf_9 (by decide) ?_
      refine lv_icmp_ge (tgt := 40) hx hb dX2_chainOf_11 (by decide) (fun cL7 => ?_) (fun cL7 => ?_)
      · refine lv_iload_n hx hb dX2_chainOf_40 rfl (lv_at hl 1 rfl) ?_
        have e9 : rr = x2_7 := eF.trans (by rw [f_X2_chainOf_j7, if_pos cL7])
        exact W.iret (v := x2_7) hx hb hr (fun t ht hW => ⟨_, rfl, e9.symm, ht⟩) (fun _ hq => by cases hq) dX2_chainOf_41
      · refine lv_iload_n hx hb dX2_chainOf_14 rfl (lv_at hl 2 rfl) ?_
        refine lv_if_lt (tgt := 40) hx hb dX2_chainOf_15 (by decide) (fun c_2 => ?_) (fun c_2 => ?_)
        · refine lv_iload_n hx hb dX2_chainOf_40 rfl (lv_at hl 1 rfl) ?_
          have e9 : rr = x2_7 := eF.trans (by rw [f_X2_chainOf_j7, if_neg cL7, if_pos c_2])
          exact W.iret (v := x2_7) hx hb hr (fun t ht hW => ⟨_, rfl, e9.symm, ht⟩) (fun _ hq => by cases hq) dX2_chainOf_41
        · refine lv_iload_n hx hb dX2_chainOf_18 rfl (lv_at hl 1 rfl) ?_
          refine lv_iconst (v := 1) hx hb dX2_chainOf_19 (by decide) ?_
          refine lv_iload_n hx hb dX2_chainOf_20 rfl (lv_at hl 2 rfl) ?_
          refine lv_ishl hx hb dX2_chainOf_21 ?_
          refine lv_ior hx hb dX2_chainOf_22 ?_
          refine lv_istore_n (lv' := [(2, .int (x2_7 ||| (1 <<< (x3_7 &&& 31)))), (0, .ref h0), (3, .int x3_7), (4, .int x4_7)]) hx hb dX2_chainOf_23 rfl hl (by decide) rfl (fun ls hl => ?_)
          refine lv_aload_n hx hb dX2_chainOf_24 rfl (lv_at hl 1 rfl) ?_
          refine va_get (D := (dC, dI)) (ci := 2) (v := .ref h1) (C := RX2) (T := TX2) (N := 1) hx hb hts iwsX20 hown hK hP 0 rfl rfl 0 (by decide) kw1 (fun _ h9 => h9) rfl dX2_chainOf_25 ?_
          refine lv_iload_n hx hb dX2_chainOf_28 rfl (lv_at hl 2 rfl) ?_
          refine lv_iconst (v := 0) hx hb dX2_chainOf_29 (by decide) ?_
          refine vm_roVx (v := (f_X3_get 8 r 96 f x3_7 0)) (As := [.int x3_7, .int 0]) (rest := []) (T := TX3) (N := 4) (wc := [(h1, .inr (3, [.ref h2, .int 12, .int 8, .int r])), (h2, .inl (cI, 96, .inl f))]) ⟨hx, hb, hml, hown, hts⟩ hK hN hP hl.1 ⟨Nat.le_of_ble_eq_true rfl, Nat.le_of_ble_eq_true rfl⟩ (c_X3_get l dC dI cI cB h1 h2 12 8 r 96 f x3_7 0 (by decide)) (cwV 2 hts gX2_chainOf_X3_get rfl rfl rfl yd_X3_get ⟨Nat.le_of_ble_eq_true rfl, Nat.le_of_ble_eq_true rfl⟩) [1, 2] rfl 3 rfl rfl rfl rfl (Nat.le_of_ble_eq_true rfl) dX2_chainOf_30 ?_
          refine lv_istore_n (lv' := [(3, .int (f_X3_get 8 r 96 f x3_7 0)), (2, .int (x2_7 ||| (1 <<< (x3_7 &&& 31)))), (0, .ref h0), (4, .int x4_7)]) hx hb dX2_chainOf_33 rfl hl (by decide) rfl (fun ls hl => ?_)
          refine lv_iinc (v := (x4_7 + 1)) (lv' := [(4, .int (x4_7 + 1)), (3, .int (f_X3_get 8 r 96 f x3_7 0)), (2, .int (x2_7 ||| (1 <<< (x3_7 &&& 31)))), (0, .ref h0)]) hx hb dX2_chainOf_34 hl (k := 3) rfl rfl (by decide) rfl (fun ls hl => ?_)
          refine lv_goto (tgt := 7) hx hb dX2_chainOf_37 (by decide) ?_
          exact ih7 (x2_7 ||| (1 <<< (x3_7 &&& 31))) (f_X3_get 8 r 96 f x3_7 0) (x4_7 + 1) (vm_up (vm_nle cL7) hm7) (vm_nn hi7 (vm_nle cL7)) (eF.trans (by rw [f_X2_chainOf_j7, if_neg cL7, if_neg c_2])) ls (lv_sub hl [3, 2, 1, 0] rfl)
  refine lv_iconst (v := 0) hx hb dX2_chainOf_0 (by decide) ?_
  refine lv_istore_n (lv' := [(2, .int 0), (0, .ref h0), (1, .int p1)]) hx hb dX2_chainOf_1 rfl hl (by decide) rfl (fun ls hl => ?_)
  refine lv_iload_n hx hb dX2_chainOf_2 rfl (lv_at hl 2 rfl) ?_
  refine lv_istore_n (lv' := [(3, .int p1), (2, .int 0), (0, .ref h0), (1, .int p1)]) hx hb dX2_chainOf_3 rfl hl (by decide) rfl (fun ls hl => ?_)
  refine lv_iconst (v := 0) hx hb dX2_chainOf_4 (by decide) ?_
  refine lv_istore (lv' := [(4, .int 0), (3, .int p1), (2, .int 0), (0, .ref h0), (1, .int p1)]) hx hb dX2_chainOf_5 hl (by decide) rfl (fun ls hl => ?_)
  exact hJ7 ((((12 : Int32)).toInt - ((0 : Int32)).toInt).toNat + 1) 0 p1 0 (Nat.lt_succ_self _) (by decide) (eF.trans (by rw [f_X2_chainOf])) ls (lv_sub hl [3, 2, 1, 0] rfl)

def f_X2_chainLength (r : Int32) (f : Nat → Int32) (p1 : Int32) : Int32 :=
  if 0 ≤ p1 then
    (f_J6_bitCount_0f7a4 (f_X2_chainOf r f p1))
  else
    0
theorem yd_X2_chainLength : yX2_chainLength.cls = RX2 ∧ yX2_chainLength.cls ≠ "java/lang/invoke/MethodHandle" ∧ yX2_chainLength.cls ≠ "java/lang/invoke/VarHandle" ∧ (parseMethodDescriptor yX2_chainLength.desc).map (fun d => d.parameters.length) = some 1 := by decide +kernel
set_option maxHeartbeats 4000000 in
set_option maxRecDepth 100000 in
theorem c_X2_chainLength (l : Launch) (dC : Nat → ClassId) (dI : Nat → Nat → Nat) (cI cB : ClassId) (h0 h1 h2 : Nat) (r : Int32) (f : Nat → Int32) (p1 : Int32) : Met l yX2_chainLength wsX2_chainLength ({ frames := 2, cells := 0, slots := 0, locals := 47 }) (vm_pre [.ref h0, .int p1] (dC, dI) [(h0, .inr (2, [.ref h1])), (h1, .inr (3, [.ref h2, .int 12, .int 8, .int r])), (h2, .inl (cI, 96, .inl f))] cI cB) (vp_Si (fun r9 : Int32 => r9 = (f_X2_chainLength r f p1))) 0 0 (fun _ => False) := by
  refine Met.ofW (cc := cX2_chainLength) (maxL := 2) (ret := (some .int)) (by decide) rfl ?_
  intro p e s m args below meth c s₁ B hml hv
  obtain ⟨rfl, hP, hK, hN⟩ := hv
  have hx := B.exec
  have hb := B.bytes
  have hr := B.returns
  have hts := atoms_spec (ws := wsX2_chainLength) B.pre
  have hown : s.vm.findClass RX2 = some m.cls := findClass_of_methodNamed B.named
  have hlocks := B.notSynchronized
  generalize hrr : f_X2_chainLength r f p1 = rr
  have eF := hrr.symm
  have hl := lv_entry ([.ref h0, .int p1]) (n := 2) (Nat.le_of_ble_eq_true rfl)
  rw [lg_entry_eq]
  generalize (lg_sl ([.ref h0, .int p1]) ++ List.replicate (2 - (lg_sl ([.ref h0, .int p1])).length) Slot.unset).toArray = ls at hl ⊢
  have hl : lv_has ls 2 [(0, .ref h0), (1, .int p1)] := hl
  refine lv_iload_n hx hb dX2_chainLength_0 rfl (lv_at hl 1 rfl) ?_
  refine lv_if_ge (tgt := 8) hx hb dX2_chainLength_1 (by decide) (fun c_1 => ?_) (fun c_1 => ?_)
  · refine lv_aload_n hx hb dX2_chainLength_8 rfl (lv_at hl 0 rfl) ?_
    refine lv_iload_n hx hb dX2_chainLength_9 rfl (lv_at hl 1 rfl) ?_
    refine vm_roVx (v := (f_X2_chainOf r f p1)) (As := [.int p1]) (rest := []) (T := TX2) (N := 1) (wc := [(h0, .inr (2, [.ref h1])), (h1, .inr (3, [.ref h2, .int 12, .int 8, .int r])), (h2, .inl (cI, 96, .inl f))]) ⟨hx, hb, hml, hown, hts⟩ hK hN hP hl.1 ⟨Nat.le_of_ble_eq_true rfl, Nat.le_of_ble_eq_true rfl⟩ (c_X2_chainOf l dC dI cI cB h0 h1 h2 r f p1) (cwV 1 hts gX2_chainLength_X2_chainOf rfl rfl rfl yd_X2_chainOf ⟨Nat.le_of_ble_eq_true rfl, Nat.le_of_ble_eq_true rfl⟩) [0, 1, 2] rfl 2 rfl rfl rfl rfl (Nat.le_of_ble_eq_true rfl) dX2_chainLength_10 ?_
    refine vm_roSx (v := (f_J6_bitCount_0f7a4 (f_X2_chainOf r f p1))) (As := [.int (f_X2_chainOf r f p1)]) (rest := []) ⟨hx, hb, hml, hown, hts⟩ hK hN hP hl.1 ⟨Nat.le_of_ble_eq_true rfl, Nat.le_of_ble_eq_true rfl⟩ (c_J6_bitCount_0f7a4 l dC dI cI cB (f_X2_chainOf r f p1)) (va_cwS 1 hts gX2_chainLength_J6_bitCount_0f7a4 rfl rfl rfl yd_J6_bitCount_0f7a4 ⟨Nat.le_of_ble_eq_true rfl, Nat.le_of_ble_eq_true rfl⟩) rfl rfl (Nat.le_of_ble_eq_true rfl) dX2_chainLength_13 ?_
    have e9 : rr = (f_J6_bitCount_0f7a4 (f_X2_chainOf r f p1)) := eF.trans (by rw [f_X2_chainLength, if_pos c_1])
    exact W.iret (v := (f_J6_bitCount_0f7a4 (f_X2_chainOf r f p1))) hx hb hr (fun t ht hW => ⟨_, rfl, e9.symm, ht⟩) (fun _ hq => by cases hq) dX2_chainLength_16
  · refine lv_iconst (v := 0) hx hb dX2_chainLength_4 (by decide) ?_
    refine lv_goto (tgt := 16) hx hb dX2_chainLength_5 (by decide) ?_
    have e9 : rr = 0 := eF.trans (by rw [f_X2_chainLength, if_neg c_1])
    exact W.iret (v := 0) hx hb hr (fun t ht hW => ⟨_, rfl, e9.symm, ht⟩) (fun _ hq => by cases hq) dX2_chainLength_16

def f_X2_approversOf_j56 (r : Int32) (f : Nat → Int32) (p1 : Int32) (x2_56 : Int32) : Int32 :=
  (x2_56 &&& ((1 <<< ((f_X3_get 8 r 96 f p1 1) &&& 31)) ^^^ (-1)))
def f_X2_approversOf_j15 (r : Int32) (f : Nat → Int32) (p1 : Int32) : Nat → Int32 → Int32 → Int32 → Int32
  | 0, _, _, _ => 0
  | n15 + 1, x2_15, x3_15, x4_15 => if 12 ≤ x4_15 then
      f_X2_approversOf_j56 r f p1 x2_15
    else
      if x3_15 < 0 then
        f_X2_approversOf_j56 r f p1 x2_15
      else
        f_X2_approversOf_j15 r f p1 n15 (x2_15 ||| (1 <<< ((f_X3_get 8 r 96 f x3_15 1) &&& 31))) (f_X3_get 8 r 96 f x3_15 0) (x4_15 + 1)
def f_X2_approversOf (r : Int32) (f : Nat → Int32) (p1 : Int32) : Int32 :=
  f_X2_approversOf_j15 r f p1 ((((12 : Int32)).toInt - ((0 : Int32)).toInt).toNat + 1) 0 (f_X3_get 8 r 96 f p1 0) 0
theorem yd_X2_approversOf : yX2_approversOf.cls = RX2 ∧ yX2_approversOf.cls ≠ "java/lang/invoke/MethodHandle" ∧ yX2_approversOf.cls ≠ "java/lang/invoke/VarHandle" ∧ (parseMethodDescriptor yX2_approversOf.desc).map (fun d => d.parameters.length) = some 1 := by decide +kernel
set_option maxHeartbeats 4000000 in
set_option maxRecDepth 100000 in
theorem c_X2_approversOf (l : Launch) (dC : Nat → ClassId) (dI : Nat → Nat → Nat) (cI cB : ClassId) (h0 h1 h2 : Nat) (r : Int32) (f : Nat → Int32) (p1 : Int32) : Met l yX2_approversOf wsX2_approversOf ({ frames := 1, cells := 0, slots := 0, locals := 23 }) (vm_pre [.ref h0, .int p1] (dC, dI) [(h0, .inr (2, [.ref h1])), (h1, .inr (3, [.ref h2, .int 12, .int 8, .int r])), (h2, .inl (cI, 96, .inl f))] cI cB) (vp_Si (fun r9 : Int32 => r9 = (f_X2_approversOf r f p1))) 0 0 (fun _ => False) := by
  refine Met.ofW (cc := cX2_approversOf) (maxL := 5) (ret := (some .int)) (by decide) rfl ?_
  intro p e s m args below meth c s₁ B hml hv
  obtain ⟨rfl, hP, hK, hN⟩ := hv
  have hx := B.exec
  have hb := B.bytes
  have hr := B.returns
  have hts := atoms_spec (ws := wsX2_approversOf) B.pre
  have hown : s.vm.findClass RX2 = some m.cls := findClass_of_methodNamed B.named
  have hlocks := B.notSynchronized
  have kw1 := hts (.fieldLink RX2 16 "LapseMandates$Mandates" "table" "LLapseMandates$Table;") (List.mem_of_getElem? (i := 1) rfl)
  have iwsX20 : ∀ w ∈ wsX20, w ∈ wsX2_approversOf := fun w h => List.mem_cons_of_mem _ (List.mem_append_left _ (List.mem_append_right _ h))
  generalize hrr : f_X2_approversOf r f p1 = rr
  have eF := hrr.symm
  have hl := lv_entry ([.ref h0, .int p1]) (n := 5) (Nat.le_of_ble_eq_true rfl)
  rw [lg_entry_eq]
  generalize (lg_sl ([.ref h0, .int p1]) ++ List.replicate (5 - (lg_sl ([.ref h0, .int p1])).length) Slot.unset).toArray = ls at hl ⊢
  have hl : lv_has ls 5 [(0, .ref h0), (1, .int p1)] := hl
  have hJ56 : ∀ (x2_56 : Int32), rr = f_X2_approversOf_j56 r f p1 x2_56 → ∀ (ls : Array Slot), lv_has ls 5 [(0, .ref h0), (1, .int p1), (2, .int x2_56)] → W p l e (headSpec wsX2_approversOf ({ frames := 1, cells := 0, slots := 0, locals := 23 })).room s m ([.ref h0, .int p1] : List Value).toArray below meth c s.heap [] 0 0 (MQ below (vp_Si (fun r9 : Int32 => r9 = rr)) ([.ref h0, .int p1] : List Value).toArray s 0 0 (fun _ => False)) (F0 m 56 ls []) := by
    intro x2_56 eF ls hl
    refine lv_iload_n hx hb dX2_approversOf_56 rfl (lv_at hl 2 rfl) ?_
    refine lv_iconst (v := 1) hx hb dX2_approversOf_57 (by decide) ?_
    refine lv_aload_n hx hb dX2_approversOf_58 rfl (lv_at hl 0 rfl) ?_
    refine va_get (D := (dC, dI)) (ci := 2) (v := .ref h1) (C := RX2) (T := TX2) (N := 1) hx hb hts iwsX20 hown hK hP 0 rfl rfl 0 (by decide) kw1 (fun _ h9 => h9) rfl dX2_approversOf_59 ?_
    refine lv_iload_n hx hb dX2_approversOf_62 rfl (lv_at hl 1 rfl) ?_
    refine lv_iconst (v := 1) hx hb dX2_approversOf_63 (by decide) ?_
    refine vm_roVx (v := (f_X3_get 8 r 96 f p1 1)) (As := [.int p1, .int 1]) (rest := [.int 1, .int x2_56]) (T := TX3) (N := 4) (wc := [(h1, .inr (3, [.ref h2, .int 12, .int 8, .int r])), (h2, .inl (cI, 96, .inl f))]) ⟨hx, hb, hml, hown, hts⟩ hK hN hP hl.1 ⟨Nat.le_of_ble_eq_true rfl, Nat.le_of_ble_eq_true rfl⟩ (c_X3_get l dC dI cI cB h1 h2 12 8 r 96 f p1 1 (by decide)) (cwV 2 hts gX2_approversOf_X3_get rfl rfl rfl yd_X3_get ⟨Nat.le_of_ble_eq_true rfl, Nat.le_of_ble_eq_true rfl⟩) [1, 2] rfl 3 rfl rfl rfl rfl (Nat.le_of_ble_eq_true rfl) dX2_approversOf_64 ?_
    refine lv_ishl hx hb dX2_approversOf_67 ?_
    refine lv_iconst (v := (-1)) hx hb dX2_approversOf_68 (by decide) ?_
    refine lv_ixor hx hb dX2_approversOf_69 ?_
    refine lv_iand hx hb dX2_approversOf_70 ?_
    have e9 : rr = (x2_56 &&& ((1 <<< ((f_X3_get 8 r 96 f p1 1) &&& 31)) ^^^ (-1))) := eF.trans (by rw [f_X2_approversOf_j56])
    exact W.iret (v := (x2_56 &&& ((1 <<< ((f_X3_get 8 r 96 f p1 1) &&& 31)) ^^^ (-1)))) hx hb hr (fun t ht hW => ⟨_, rfl, e9.symm, ht⟩) (fun _ hq => by cases hq) dX2_approversOf_71
  have hJ15 : ∀ (n15 : Nat) (x2_15 : Int32) (x3_15 : Int32) (x4_15 : Int32), (((12 : Int32)).toInt - (x4_15).toInt).toNat < n15 → 0 ≤ x4_15 → rr = f_X2_approversOf_j15 r f p1 n15 x2_15 x3_15 x4_15 → ∀ (ls : Array Slot), lv_has ls 5 [(0, .ref h0), (1, .int p1), (2, .int x2_15), (3, .int x3_15), (4, .int x4_15)] → W p l e (headSpec wsX2_approversOf ({ frames := 1, cells := 0, slots := 0, locals := 23 })).room s m ([.ref h0, .int p1] : List Value).toArray below meth c s.heap [] 0 0 (MQ below (vp_Si (fun r9 : Int32 => r9 = rr)) ([.ref h0, .int p1] : List Value).toArray s 0 0 (fun _ => False)) (F0 m 15 ls []) := by
    intro n15
    induction n15 with
    | zero =>
      intro x2_15 x3_15 x4_15 hm15
      exact absurd hm15 (Nat.not_lt_zero _)
    | succ n15 ih15 =>
      intro x2_15 x3_15 x4_15 hm15 hi15 eF ls hl
      refine lv_iload hx hb dX2_approversOf_15 (lv_at hl 4 rfl) ?_
      refine lv_bipush (v := 12) hx hb dX2_approversOf_17 (by decide) ?_
      refine lv_icmp_ge (tgt := 56) hx hb dX2_approversOf_19 (by decide) (fun cL15 => ?_) (fun cL15 => ?_)
      · exact hJ56 x2_15 (eF.trans (by rw [f_X2_approversOf_j15, if_pos cL15])) ls (lv_sub hl [0, 1, 2] rfl)
      · refine lv_iload_n hx hb dX2_approversOf_22 rfl (lv_at hl 3 rfl) ?_
        refine lv_if_lt (tgt := 56) hx hb dX2_approversOf_23 (by decide) (fun c_2 => ?_) (fun c_2 => ?_)
        · exact hJ56 x2_15 (eF.trans (by rw [f_X2_approversOf_j15, if_neg cL15, if_pos c_2])) ls (lv_sub hl [0, 1, 2] rfl)
        · refine lv_iload_n hx hb dX2_approversOf_26 rfl (lv_at hl 2 rfl) ?_
          refine lv_iconst (v := 1) hx hb dX2_approversOf_27 (by decide) ?_
          refine lv_aload_n hx hb dX2_approversOf_28 rfl (lv_at hl 0 rfl) ?_
          refine va_get (D := (dC, dI)) (ci := 2) (v := .ref h1) (C := RX2) (T := TX2) (N := 1) hx hb hts iwsX20 hown hK hP 0 rfl rfl 0 (by decide) kw1 (fun _ h9 => h9) rfl dX2_approversOf_29 ?_
          refine lv_iload_n hx hb dX2_approversOf_32 rfl (lv_at hl 3 rfl) ?_
          refine lv_iconst (v := 1) hx hb dX2_approversOf_33 (by decide) ?_
          refine vm_roVx (v := (f_X3_get 8 r 96 f x3_15 1)) (As := [.int x3_15, .int 1]) (rest := [.int 1, .int x2_15]) (T := TX3) (N := 4) (wc := [(h1, .inr (3, [.ref h2, .int 12, .int 8, .int r])), (h2, .inl (cI, 96, .inl f))]) ⟨hx, hb, hml, hown, hts⟩ hK hN hP hl.1 ⟨Nat.le_of_ble_eq_true rfl, Nat.le_of_ble_eq_true rfl⟩ (c_X3_get l dC dI cI cB h1 h2 12 8 r 96 f x3_15 1 (by decide)) (cwV 2 hts gX2_approversOf_X3_get rfl rfl rfl yd_X3_get ⟨Nat.le_of_ble_eq_true rfl, Nat.le_of_ble_eq_true rfl⟩) [1, 2] rfl 3 rfl rfl rfl rfl (Nat.le_of_ble_eq_true rfl) dX2_approversOf_34 ?_
          refine lv_ishl hx hb dX2_approversOf_37 ?_
          refine lv_ior hx hb dX2_approversOf_38 ?_
          refine lv_istore_n (lv' := [(2, .int (x2_15 ||| (1 <<< ((f_X3_get 8 r 96 f x3_15 1) &&& 31)))), (0, .ref h0), (1, .int p1), (3, .int x3_15), (4, .int x4_15)]) hx hb dX2_approversOf_39 rfl hl (by decide) rfl (fun ls hl => ?_)
          refine lv_aload_n hx hb dX2_approversOf_40 rfl (lv_at hl 1 rfl) ?_
          refine va_get (D := (dC, dI)) (ci := 2) (v := .ref h1) (C := RX2) (T := TX2) (N := 1) hx hb hts iwsX20 hown hK hP 0 rfl rfl 0 (by decide) kw1 (fun _ h9 => h9) rfl dX2_approversOf_41 ?_
          refine lv_iload_n hx hb dX2_approversOf_44 rfl (lv_at hl 3 rfl) ?_
          refine lv_iconst (v := 0) hx hb dX2_approversOf_45 (by decide) ?_
          refine vm_roVx (v := (f_X3_get 8 r 96 f x3_15 0)) (As := [.int x3_15, .int 0]) (rest := []) (T := TX3) (N := 4) (wc := [(h1, .inr (3, [.ref h2, .int 12, .int 8, .int r])), (h2, .inl (cI, 96, .inl f))]) ⟨hx, hb, hml, hown, hts⟩ hK hN hP hl.1 ⟨Nat.le_of_ble_eq_true rfl, Nat.le_of_ble_eq_true rfl⟩ (c_X3_get l dC dI cI cB h1 h2 12 8 r 96 f x3_15 0 (by decide)) (cwV 2 hts gX2_approversOf_X3_get rfl rfl rfl yd_X3_get ⟨Nat.le_of_ble_eq_true rfl, Nat.le_of_ble_eq_true rfl⟩) [1, 2] rfl 3 rfl rfl rfl rfl (Nat.le_of_ble_eq_true rfl) dX2_approversOf_46 ?_
          refine lv_istore_n (lv' := [(3, .int (f_X3_get 8 r 96 f x3_15 0)), (2, .int (x2_15 ||| (1 <<< ((f_X3_get 8 r 96 f x3_15 1) &&& 31)))), (0, .ref h0), (1, .int p1), (4, .int x4_15)]) hx hb dX2_approversOf_49 rfl hl (by decide) rfl (fun ls hl => ?_)
          refine lv_iinc (v := (x4_15 + 1)) (lv' := [(4, .int (x4_15 + 1)), (3, .int (f_X3_get 8 r 96 f x3_15 0)), (2, .int (x2_15 ||| (1 <<< ((f_X3_get 8 r 96 f x3_15 1) &&& 31)))), (0, .ref h0), (1, .int p1)]) hx hb dX2_approversOf_50 hl (k := 4) rfl rfl (by decide) rfl (fun ls hl => ?_)
          refine lv_goto (tgt := 15) hx hb dX2_approversOf_53 (by decide) ?_
          exact ih15 (x2_15 ||| (1 <<< ((f_X3_get 8 r 96 f x3_15 1) &&& 31))) (f_X3_get 8 r 96 f x3_15 0) (x4_15 + 1) (vm_up (vm_nle cL15) hm15) (vm_nn hi15 (vm_nle cL15)) (eF.trans (by rw [f_X2_approversOf_j15, if_neg cL15, if_neg c_2])) ls (lv_sub hl [3, 4, 2, 1, 0] rfl)
  refine lv_iconst (v := 0) hx hb dX2_approversOf_0 (by decide) ?_
  refine lv_istore_n (lv' := [(2, .int 0), (0, .ref h0), (1, .int p1)]) hx hb dX2_approversOf_1 rfl hl (by decide) rfl (fun ls hl => ?_)
  refine lv_aload_n hx hb dX2_approversOf_2 rfl (lv_at hl 1 rfl) ?_
  refine va_get (D := (dC, dI)) (ci := 2) (v := .ref h1) (C := RX2) (T := TX2) (N := 1) hx hb hts iwsX20 hown hK hP 0 rfl rfl 0 (by decide) kw1 (fun _ h9 => h9) rfl dX2_approversOf_3 ?_
  refine lv_iload_n hx hb dX2_approversOf_6 rfl (lv_at hl 2 rfl) ?_
  refine lv_iconst (v := 0) hx hb dX2_approversOf_7 (by decide) ?_
  refine vm_roVx (v := (f_X3_get 8 r 96 f p1 0)) (As := [.int p1, .int 0]) (rest := []) (T := TX3) (N := 4) (wc := [(h1, .inr (3, [.ref h2, .int 12, .int 8, .int r])), (h2, .inl (cI, 96, .inl f))]) ⟨hx, hb, hml, hown, hts⟩ hK hN hP hl.1 ⟨Nat.le_of_ble_eq_true rfl, Nat.le_of_ble_eq_true rfl⟩ (c_X3_get l dC dI cI cB h1 h2 12 8 r 96 f p1 0 (by decide)) (cwV 2 hts gX2_approversOf_X3_get rfl rfl rfl yd_X3_get ⟨Nat.le_of_ble_eq_true rfl, Nat.le_of_ble_eq_true rfl⟩) [1, 2] rfl 3 rfl rfl rfl rfl (Nat.le_of_ble_eq_true rfl) dX2_approversOf_8 ?_
  refine lv_istore_n (lv' := [(3, .int (f_X3_get 8 r 96 f p1 0)), (2, .int 0), (0, .ref h0), (1, .int p1)]) hx hb dX2_approversOf_11 rfl hl (by decide) rfl (fun ls hl => ?_)
  refine lv_iconst (v := 0) hx hb dX2_approversOf_12 (by decide) ?_
  refine lv_istore (lv' := [(4, .int 0), (3, .int (f_X3_get 8 r 96 f p1 0)), (2, .int 0), (0, .ref h0), (1, .int p1)]) hx hb dX2_approversOf_13 hl (by decide) rfl (fun ls hl => ?_)
  exact hJ15 ((((12 : Int32)).toInt - ((0 : Int32)).toInt).toNat + 1) 0 (f_X3_get 8 r 96 f p1 0) 0 (Nat.lt_succ_self _) (by decide) (eF.trans (by rw [f_X2_approversOf])) ls (lv_sub hl [3, 4, 2, 1, 0] rfl)

def f_X2_wouldLapse_j56 (x3_18 : Int32) (kj18 : Int32 → Int32 → Int32) (x2_56 : Int32) : Int32 :=
  kj18 x2_56 (x3_18 + 1)
def f_X2_wouldLapse_j18 (r : Int32) (f : Nat → Int32) : Nat → Int32 → Int32 → Int32
  | 0, _, _ => 0
  | n18 + 1, x2_18, x3_18 => if (f_X2_total r) ≤ x3_18 then
      x2_18
    else
      if (vm_bi (f_X2_stands r f x3_18)) = 0 then
        f_X2_wouldLapse_j56 x3_18 (f_X2_wouldLapse_j18 r f n18) x2_18
      else
        if (vm_bi (f_X2_isIn x2_18 (f_X3_get 8 r 96 f x3_18 0))) = 0 then
          f_X2_wouldLapse_j56 x3_18 (f_X2_wouldLapse_j18 r f n18) x2_18
        else
          f_X2_wouldLapse_j56 x3_18 (f_X2_wouldLapse_j18 r f n18) (x2_18 ||| (1 <<< (x3_18 &&& 31)))
def f_X2_wouldLapse (r : Int32) (f : Nat → Int32) (p1 : Int32) : Int32 :=
  if (vm_bi (f_X2_stands r f p1)) = 0 then
    0
  else
    f_X2_wouldLapse_j18 r f ((((f_X2_total r)).toInt - ((p1 + 1)).toInt).toNat + 1) (1 <<< (p1 &&& 31)) (p1 + 1)
theorem yd_X2_wouldLapse : yX2_wouldLapse.cls = RX2 ∧ yX2_wouldLapse.cls ≠ "java/lang/invoke/MethodHandle" ∧ yX2_wouldLapse.cls ≠ "java/lang/invoke/VarHandle" ∧ (parseMethodDescriptor yX2_wouldLapse.desc).map (fun d => d.parameters.length) = some 1 := by decide +kernel
set_option maxHeartbeats 4000000 in
set_option maxRecDepth 100000 in
theorem c_X2_wouldLapse (l : Launch) (dC : Nat → ClassId) (dI : Nat → Nat → Nat) (cI cB : ClassId) (h0 h1 h2 : Nat) (r : Int32) (f : Nat → Int32) (p1 : Int32) : Met l yX2_wouldLapse wsX2_wouldLapse ({ frames := 2, cells := 0, slots := 0, locals := 44 }) (vm_pre [.ref h0, .int p1] (dC, dI) [(h0, .inr (2, [.ref h1])), (h1, .inr (3, [.ref h2, .int 12, .int 8, .int r])), (h2, .inl (cI, 96, .inl f))] cI cB) (vp_Si (fun r9 : Int32 => r9 = (f_X2_wouldLapse r f p1))) 0 0 (fun _ => False) := by
  refine Met.ofW (cc := cX2_wouldLapse) (maxL := 4) (ret := (some .int)) (by decide) rfl ?_
  intro p e s m args below meth c s₁ B hml hv
  obtain ⟨rfl, hP, hK, hN⟩ := hv
  have hx := B.exec
  have hb := B.bytes
  have hr := B.returns
  have hts := atoms_spec (ws := wsX2_wouldLapse) B.pre
  have hown : s.vm.findClass RX2 = some m.cls := findClass_of_methodNamed B.named
  have hlocks := B.notSynchronized
  have kw1 := hts (.fieldLink RX2 16 "LapseMandates$Mandates" "table" "LLapseMandates$Table;") (List.mem_of_getElem? (i := 1) rfl)
  have iwsX20 : ∀ w ∈ wsX20, w ∈ wsX2_wouldLapse := fun w h => List.mem_cons_of_mem _ (List.mem_append_left _ (List.mem_append_right _ h))
  generalize hrr : f_X2_wouldLapse r f p1 = rr
  have eF := hrr.symm
  have hl := lv_entry ([.ref h0, .int p1]) (n := 4) (Nat.le_of_ble_eq_true rfl)
  rw [lg_entry_eq]
  generalize (lg_sl ([.ref h0, .int p1]) ++ List.replicate (4 - (lg_sl ([.ref h0, .int p1])).length) Slot.unset).toArray = ls at hl ⊢
  have hl : lv_has ls 4 [(0, .ref h0), (1, .int p1)] := hl
  have hJ18 : ∀ (n18 : Nat) (x2_18 : Int32) (x3_18 : Int32), (((f_X2_total r)).toInt - (x3_18).toInt).toNat < n18 → rr = f_X2_wouldLapse_j18 r f n18 x2_18 x3_18 → ∀ (ls : Array Slot), lv_has ls 4 [(0, .ref h0), (2, .int x2_18), (3, .int x3_18)] → W p l e (headSpec wsX2_wouldLapse ({ frames := 2, cells := 0, slots := 0, locals := 44 })).room s m ([.ref h0, .int p1] : List Value).toArray below meth c s.heap [] 0 0 (MQ below (vp_Si (fun r9 : Int32 => r9 = rr)) ([.ref h0, .int p1] : List Value).toArray s 0 0 (fun _ => False)) (F0 m 18 ls []) := by
    intro n18
    induction n18 with
    | zero =>
      intro x2_18 x3_18 hm18
      exact absurd hm18 (Nat.not_lt_zero _)
    | succ n18 ih18 =>
      intro x2_18 x3_18 hm18 eF ls hl
      have hJ56 : ∀ (x2_56 : Int32), ¬ (f_X2_total r) ≤ x3_18 → rr = f_X2_wouldLapse_j56 x3_18 (f_X2_wouldLapse_j18 r f n18) x2_56 → ∀ (ls : Array Slot), lv_has ls 4 [(0, .ref h0), (2, .int x2_56), (3, .int x3_18)] → W p l e (headSpec wsX2_wouldLapse ({ frames := 2, cells := 0, slots := 0, locals := 44 })).room s m ([.ref h0, .int p1] : List Value).toArray below meth c s.heap [] 0 0 (MQ below (vp_Si (fun r9 : Int32 => r9 = rr)) ([.ref h0, .int p1] : List Value).toArray s 0 0 (fun _ => False)) (F0 m 56 ls []) := by
        intro x2_56 cL18 eF ls hl
        refine lv_iinc (v := (x3_18 + 1)) (lv' := [(3, .int (x3_18 + 1)), (0, .ref h0), (2, .int x2_56)]) hx hb dX2_wouldLapse_56 hl (k := 2) rfl rfl (by decide) rfl (fun ls hl => ?_)
        refine lv_goto (tgt := 18) hx hb dX2_wouldLapse_59 (by decide) ?_
        exact ih18 x2_56 (x3_18 + 1) (vm_up (vm_nle cL18) hm18) (eF.trans (by rw [f_X2_wouldLapse_j56])) ls (lv_sub hl [1, 2, 0] rfl)
      refine lv_iload_n hx hb dX2_wouldLapse_18 rfl (lv_at hl 2 rfl) ?_
      refine lv_aload_n hx hb dX2_wouldLapse_19 rfl (lv_at hl 0 rfl) ?_
      refine vm_roVx (v := (f_X2_total r)) (As := []) (rest := [.int x3_18]) (T := TX2) (N := 1) (wc := [(h0, .inr (2, [.ref h1])), (h1, .inr (3, [.ref h2, .int 12, .int 8, .int r])), (h2, .inl (cI, 96, .inl f))]) ⟨hx, hb, hml, hown, hts⟩ hK hN hP hl.1 ⟨Nat.le_of_ble_eq_true rfl, Nat.le_of_ble_eq_true rfl⟩ (c_X2_total l dC dI cI cB h0 h1 h2 r f) (cwV 0 hts gX2_wouldLapse_X2_total rfl rfl rfl yd_X2_total ⟨Nat.le_of_ble_eq_true rfl, Nat.le_of_ble_eq_true rfl⟩) [0, 1, 2] rfl 2 rfl rfl rfl rfl (Nat.le_of_ble_eq_true rfl) dX2_wouldLapse_20 ?_
      refine lv_icmp_ge (tgt := 62) hx hb dX2_wouldLapse_23 (by decide) (fun cL18 => ?_) (fun cL18 => ?_)
      · refine lv_iload_n hx hb dX2_wouldLapse_62 rfl (lv_at hl 1 rfl) ?_
        have e9 : rr = x2_18 := eF.trans (by rw [f_X2_wouldLapse_j18, if_pos cL18])
        exact W.iret (v := x2_18) hx hb hr (fun t ht hW => ⟨_, rfl, e9.symm, ht⟩) (fun _ hq => by cases hq) dX2_wouldLapse_63
      · refine lv_aload_n hx hb dX2_wouldLapse_26 rfl (lv_at hl 0 rfl) ?_
        refine lv_iload_n hx hb dX2_wouldLapse_27 rfl (lv_at hl 2 rfl) ?_
        refine vm_roVx (v := vm_bi (f_X2_stands r f x3_18)) (As := [.int x3_18]) (rest := []) (T := TX2) (N := 1) (wc := [(h0, .inr (2, [.ref h1])), (h1, .inr (3, [.ref h2, .int 12, .int 8, .int r])), (h2, .inl (cI, 96, .inl f))]) ⟨hx, hb, hml, hown, hts⟩ hK hN hP hl.1 ⟨Nat.le_of_ble_eq_true rfl, Nat.le_of_ble_eq_true rfl⟩ (c_X2_stands l dC dI cI cB h0 h1 h2 r f x3_18) (cwV 1 hts gX2_wouldLapse_X2_stands rfl rfl rfl yd_X2_stands ⟨Nat.le_of_ble_eq_true rfl, Nat.le_of_ble_eq_true rfl⟩) [0, 1, 2] rfl 2 rfl rfl rfl rfl (Nat.le_of_ble_eq_true rfl) dX2_wouldLapse_28 ?_
        refine lv_if_eq (tgt := 56) hx hb dX2_wouldLapse_31 (by decide) (fun c_2 => ?_) (fun c_2 => ?_)
        · exact hJ56 x2_18 cL18 (eF.trans (by rw [f_X2_wouldLapse_j18, if_neg cL18, if_pos c_2])) ls (lv_sub hl [0, 1, 2] rfl)
        · refine lv_iload_n hx hb dX2_wouldLapse_34 rfl (lv_at hl 1 rfl) ?_
          refine lv_aload_n hx hb dX2_wouldLapse_35 rfl (lv_at hl 0 rfl) ?_
          refine va_get (D := (dC, dI)) (ci := 2) (v := .ref h1) (C := RX2) (T := TX2) (N := 1) hx hb hts iwsX20 hown hK hP 0 rfl rfl 0 (by decide) kw1 (fun _ h9 => h9) rfl dX2_wouldLapse_36 ?_
          refine lv_iload_n hx hb dX2_wouldLapse_39 rfl (lv_at hl 2 rfl) ?_
          refine lv_iconst (v := 0) hx hb dX2_wouldLapse_40 (by decide) ?_
          refine vm_roVx (v := (f_X3_get 8 r 96 f x3_18 0)) (As := [.int x3_18, .int 0]) (rest := [.int x2_18]) (T := TX3) (N := 4) (wc := [(h1, .inr (3, [.ref h2, .int 12, .int 8, .int r])), (h2, .inl (cI, 96, .inl f))]) ⟨hx, hb, hml, hown, hts⟩ hK hN hP hl.1 ⟨Nat.le_of_ble_eq_true rfl, Nat.le_of_ble_eq_true rfl⟩ (c_X3_get l dC dI cI cB h1 h2 12 8 r 96 f x3_18 0 (by decide)) (cwV 2 hts gX2_wouldLapse_X3_get rfl rfl rfl yd_X3_get ⟨Nat.le_of_ble_eq_true rfl, Nat.le_of_ble_eq_true rfl⟩) [1, 2] rfl 3 rfl rfl rfl rfl (Nat.le_of_ble_eq_true rfl) dX2_wouldLapse_41 ?_
          refine vm_roSx (v := vm_bi (f_X2_isIn x2_18 (f_X3_get 8 r 96 f x3_18 0))) (As := [.int x2_18, .int (f_X3_get 8 r 96 f x3_18 0)]) (rest := []) ⟨hx, hb, hml, hown, hts⟩ hK hN hP hl.1 ⟨Nat.le_of_ble_eq_true rfl, Nat.le_of_ble_eq_true rfl⟩ (c_X2_isIn l dC dI cI cB x2_18 (f_X3_get 8 r 96 f x3_18 0)) (va_cwS 2 hts gX2_wouldLapse_X2_isIn rfl rfl rfl yd_X2_isIn ⟨Nat.le_of_ble_eq_true rfl, Nat.le_of_ble_eq_true rfl⟩) rfl rfl (Nat.le_of_ble_eq_true rfl) dX2_wouldLapse_44 ?_
          refine lv_if_eq (tgt := 56) hx hb dX2_wouldLapse_47 (by decide) (fun c_3 => ?_) (fun c_3 => ?_)
          · exact hJ56 x2_18 cL18 (eF.trans (by rw [f_X2_wouldLapse_j18, if_neg cL18, if_neg c_2, if_pos c_3])) ls (lv_sub hl [0, 1, 2] rfl)
          · refine lv_iload_n hx hb dX2_wouldLapse_50 rfl (lv_at hl 1 rfl) ?_
            refine lv_iconst (v := 1) hx hb dX2_wouldLapse_51 (by decide) ?_
            refine lv_iload_n hx hb dX2_wouldLapse_52 rfl (lv_at hl 2 rfl) ?_
            refine lv_ishl hx hb dX2_wouldLapse_53 ?_
            refine lv_ior hx hb dX2_wouldLapse_54 ?_
            refine lv_istore_n (lv' := [(2, .int (x2_18 ||| (1 <<< (x3_18 &&& 31)))), (0, .ref h0), (3, .int x3_18)]) hx hb dX2_wouldLapse_55 rfl hl (by decide) rfl (fun ls hl => ?_)
            exact hJ56 (x2_18 ||| (1 <<< (x3_18 &&& 31))) cL18 (eF.trans (by rw [f_X2_wouldLapse_j18, if_neg cL18, if_neg c_2, if_neg c_3])) ls (lv_sub hl [1, 0, 2] rfl)
  refine lv_aload_n hx hb dX2_wouldLapse_0 rfl (lv_at hl 0 rfl) ?_
  refine lv_iload_n hx hb dX2_wouldLapse_1 rfl (lv_at hl 1 rfl) ?_
  refine vm_roVx (v := vm_bi (f_X2_stands r f p1)) (As := [.int p1]) (rest := []) (T := TX2) (N := 1) (wc := [(h0, .inr (2, [.ref h1])), (h1, .inr (3, [.ref h2, .int 12, .int 8, .int r])), (h2, .inl (cI, 96, .inl f))]) ⟨hx, hb, hml, hown, hts⟩ hK hN hP hl.1 ⟨Nat.le_of_ble_eq_true rfl, Nat.le_of_ble_eq_true rfl⟩ (c_X2_stands l dC dI cI cB h0 h1 h2 r f p1) (cwV 1 hts gX2_wouldLapse_X2_stands rfl rfl rfl yd_X2_stands ⟨Nat.le_of_ble_eq_true rfl, Nat.le_of_ble_eq_true rfl⟩) [0, 1, 2] rfl 2 rfl rfl rfl rfl (Nat.le_of_ble_eq_true rfl) dX2_wouldLapse_2 ?_
  refine lv_if_ne (tgt := 10) hx hb dX2_wouldLapse_5 (by decide) (fun c_4 => ?_) (fun c_4 => ?_)
  · refine lv_iconst (v := 1) hx hb dX2_wouldLapse_10 (by decide) ?_
    refine lv_iload_n hx hb dX2_wouldLapse_11 rfl (lv_at hl 1 rfl) ?_
    refine lv_ishl hx hb dX2_wouldLapse_12 ?_
    refine lv_istore_n (lv' := [(2, .int (1 <<< (p1 &&& 31))), (0, .ref h0), (1, .int p1)]) hx hb dX2_wouldLapse_13 rfl hl (by decide) rfl (fun ls hl => ?_)
    refine lv_iload_n hx hb dX2_wouldLapse_14 rfl (lv_at hl 2 rfl) ?_
    refine lv_iconst (v := 1) hx hb dX2_wouldLapse_15 (by decide) ?_
    refine lv_iadd hx hb dX2_wouldLapse_16 ?_
    refine lv_istore_n (lv' := [(3, .int (p1 + 1)), (2, .int (1 <<< (p1 &&& 31))), (0, .ref h0), (1, .int p1)]) hx hb dX2_wouldLapse_17 rfl hl (by decide) rfl (fun ls hl => ?_)
    exact hJ18 ((((f_X2_total r)).toInt - ((p1 + 1)).toInt).toNat + 1) (1 <<< (p1 &&& 31)) (p1 + 1) (Nat.lt_succ_self _) (eF.trans (by rw [f_X2_wouldLapse, if_neg c_4])) ls (lv_sub hl [2, 1, 0] rfl)
  · refine lv_iconst (v := 0) hx hb dX2_wouldLapse_8 (by decide) ?_
    have e9 : rr = 0 := eF.trans (by rw [f_X2_wouldLapse, if_pos c_4])
    exact W.iret (v := 0) hx hb hr (fun t ht hW => ⟨_, rfl, e9.symm, ht⟩) (fun _ hq => by cases hq) dX2_wouldLapse_9

def f_X2_standingUnder (r : Int32) (f : Nat → Int32) (p1 : Int32) : Int32 :=
  (if 0 < ((f_J6_bitCount_0f7a4 (f_X2_wouldLapse r f p1)) - 1) then ((f_J6_bitCount_0f7a4 (f_X2_wouldLapse r f p1)) - 1) else 0)
theorem yd_X2_standingUnder : yX2_standingUnder.cls = RX2 ∧ yX2_standingUnder.cls ≠ "java/lang/invoke/MethodHandle" ∧ yX2_standingUnder.cls ≠ "java/lang/invoke/VarHandle" ∧ (parseMethodDescriptor yX2_standingUnder.desc).map (fun d => d.parameters.length) = some 1 := by decide +kernel
set_option maxHeartbeats 4000000 in
set_option maxRecDepth 100000 in
theorem c_X2_standingUnder (l : Launch) (dC : Nat → ClassId) (dI : Nat → Nat → Nat) (cI cB : ClassId) (h0 h1 h2 : Nat) (r : Int32) (f : Nat → Int32) (p1 : Int32) : Met l yX2_standingUnder wsX2_standingUnder ({ frames := 3, cells := 0, slots := 0, locals := 67 }) (vm_pre [.ref h0, .int p1] (dC, dI) [(h0, .inr (2, [.ref h1])), (h1, .inr (3, [.ref h2, .int 12, .int 8, .int r])), (h2, .inl (cI, 96, .inl f))] cI cB) (vp_Si (fun r9 : Int32 => r9 = (f_X2_standingUnder r f p1))) 0 0 (fun _ => False) := by
  refine Met.ofW (cc := cX2_standingUnder) (maxL := 2) (ret := (some .int)) (by decide) rfl ?_
  intro p e s m args below meth c s₁ B hml hv
  obtain ⟨rfl, hP, hK, hN⟩ := hv
  have hx := B.exec
  have hb := B.bytes
  have hr := B.returns
  have hts := atoms_spec (ws := wsX2_standingUnder) B.pre
  have hown : s.vm.findClass RX2 = some m.cls := findClass_of_methodNamed B.named
  have hlocks := B.notSynchronized
  have kw1 := hts (.methodLink RX2 59 Lib.Math.max.name) (List.mem_of_getElem? (i := 1) rfl)
  have kw2 := hts (.static Lib.Math.max.name) (List.mem_of_getElem? (i := 2) rfl)
  have kw3 := hts (.initialized "java/lang/Math") (List.mem_of_getElem? (i := 3) rfl)
  have kw4 := hts (.code Lib.Math.max.name Lib.Math.max.code 2 (some .int)) (List.mem_of_getElem? (i := 4) rfl)
  generalize hrr : f_X2_standingUnder r f p1 = rr
  have eF := hrr.symm
  have hl := lv_entry ([.ref h0, .int p1]) (n := 2) (Nat.le_of_ble_eq_true rfl)
  rw [lg_entry_eq]
  generalize (lg_sl ([.ref h0, .int p1]) ++ List.replicate (2 - (lg_sl ([.ref h0, .int p1])).length) Slot.unset).toArray = ls at hl ⊢
  have hl : lv_has ls 2 [(0, .ref h0), (1, .int p1)] := hl
  refine lv_iconst (v := 0) hx hb dX2_standingUnder_0 (by decide) ?_
  refine lv_aload_n hx hb dX2_standingUnder_1 rfl (lv_at hl 0 rfl) ?_
  refine lv_iload_n hx hb dX2_standingUnder_2 rfl (lv_at hl 1 rfl) ?_
  refine vm_roVx (v := (f_X2_wouldLapse r f p1)) (As := [.int p1]) (rest := [.int 0]) (T := TX2) (N := 1) (wc := [(h0, .inr (2, [.ref h1])), (h1, .inr (3, [.ref h2, .int 12, .int 8, .int r])), (h2, .inl (cI, 96, .inl f))]) ⟨hx, hb, hml, hown, hts⟩ hK hN hP hl.1 ⟨Nat.le_of_ble_eq_true rfl, Nat.le_of_ble_eq_true rfl⟩ (c_X2_wouldLapse l dC dI cI cB h0 h1 h2 r f p1) (cwV 1 hts gX2_standingUnder_X2_wouldLapse rfl rfl rfl yd_X2_wouldLapse ⟨Nat.le_of_ble_eq_true rfl, Nat.le_of_ble_eq_true rfl⟩) [0, 1, 2] rfl 2 rfl rfl rfl rfl (Nat.le_of_ble_eq_true rfl) dX2_standingUnder_3 ?_
  refine vm_roSx (v := (f_J6_bitCount_0f7a4 (f_X2_wouldLapse r f p1))) (As := [.int (f_X2_wouldLapse r f p1)]) (rest := [.int 0]) ⟨hx, hb, hml, hown, hts⟩ hK hN hP hl.1 ⟨Nat.le_of_ble_eq_true rfl, Nat.le_of_ble_eq_true rfl⟩ (c_J6_bitCount_0f7a4 l dC dI cI cB (f_X2_wouldLapse r f p1)) (va_cwS 1 hts gX2_standingUnder_J6_bitCount_0f7a4 rfl rfl rfl yd_J6_bitCount_0f7a4 ⟨Nat.le_of_ble_eq_true rfl, Nat.le_of_ble_eq_true rfl⟩) rfl rfl (Nat.le_of_ble_eq_true rfl) dX2_standingUnder_6 ?_
  refine lv_iconst (v := 1) hx hb dX2_standingUnder_9 (by decide) ?_
  refine lv_isub hx hb dX2_standingUnder_10 ?_
  refine va_mmax hx hb (hml.trans hl.1.symm) hown kw1 kw2 kw3 kw4 (Nat.le_of_ble_eq_true rfl) (Nat.le_of_ble_eq_true rfl) (Nat.le_of_ble_eq_true rfl) (Nat.le_of_ble_eq_true rfl) dX2_standingUnder_11 ?_
  have e9 : rr = (if 0 < ((f_J6_bitCount_0f7a4 (f_X2_wouldLapse r f p1)) - 1) then ((f_J6_bitCount_0f7a4 (f_X2_wouldLapse r f p1)) - 1) else 0) := eF.trans (by rw [f_X2_standingUnder])
  exact W.iret (v := (if 0 < ((f_J6_bitCount_0f7a4 (f_X2_wouldLapse r f p1)) - 1) then ((f_J6_bitCount_0f7a4 (f_X2_wouldLapse r f p1)) - 1) else 0)) hx hb hr (fun t ht hW => ⟨_, rfl, e9.symm, ht⟩) (fun _ hq => by cases hq) dX2_standingUnder_14

def f_X2_lapseAll_c28 (x3_2 : Int32) (kj2 : Int32 → (Nat → Int32) → (Nat → Int32)) (f_c28 : Nat → Int32) : (Nat → Int32) :=
  kj2 (x3_2 + 1) f_c28
def f_X2_lapseAll_j28 (x3_2 : Int32) (f_2 : Nat → Int32) (kj2 : Int32 → (Nat → Int32) → (Nat → Int32)) : (Nat → Int32) :=
  kj2 (x3_2 + 1) f_2
def f_X2_lapseAll_j2 (r : Int32) (p1 : Int32) (p2 : Int32) : Nat → Int32 → (Nat → Int32) → (Nat → Int32)
  | 0, _, _ => (fun _ => 0)
  | n2 + 1, x3_2, f_2 => if (f_X2_total r) ≤ x3_2 then
      f_2
    else
      if (vm_bi (f_X2_isIn p1 x3_2)) = 0 then
        f_X2_lapseAll_j28 x3_2 f_2 (f_X2_lapseAll_j2 r p1 p2 n2)
      else
        f_X2_lapseAll_c28 x3_2 (f_X2_lapseAll_j2 r p1 p2 n2) (f_X3_put 8 r 96 f_2 x3_2 5 p2)
def f_X2_lapseAll (r : Int32) (f : Nat → Int32) (p1 : Int32) (p2 : Int32) : (Nat → Int32) :=
  f_X2_lapseAll_j2 r p1 p2 ((((f_X2_total r)).toInt - ((0 : Int32)).toInt).toNat + 1) 0 f
theorem yd_X2_lapseAll : yX2_lapseAll.cls = RX2 ∧ yX2_lapseAll.cls ≠ "java/lang/invoke/MethodHandle" ∧ yX2_lapseAll.cls ≠ "java/lang/invoke/VarHandle" ∧ (parseMethodDescriptor yX2_lapseAll.desc).map (fun d => d.parameters.length) = some 2 := by decide +kernel
set_option maxHeartbeats 4000000 in
set_option maxRecDepth 100000 in
theorem c_X2_lapseAll (l : Launch) (dC : Nat → ClassId) (dI : Nat → Nat → Nat) (cI cB : ClassId) (h0 h1 h2 : Nat) (sz : Nat) (r : Int32) (f : Nat → Int32) (p1 : Int32) (p2 : Int32) : Met l yX2_lapseAll wsX2_lapseAll ({ frames := 1, cells := 0, slots := 0, locals := 24 }) (vm_prw [.ref h0, .int p1, .int p2] (dC, dI) [(h0, .inr (2, [.ref h1])), (h1, .inr (3, [.ref h2, .int 12, .int 8, .int r])), (h2, .inl (cI, 96, .inl f))] cI cB sz) (va_Qv (fun _ : Unit => True) (fun _ t => va_P (dC, dI) vwCl [(h0, .inr (2, [.ref h1])), (h1, .inr (3, [.ref h2, .int 12, .int 8, .int r])), (h2, .inl (cI, 96, .inl (f_X2_lapseAll r f p1 p2)))] t.heap) (va_A [(h0, .inr (2, [.ref h1])), (h1, .inr (3, [.ref h2, .int 12, .int 8, .int r])), (h2, .inl (cI, 96, .inl f))] sz)) 0 0 (va_A [(h0, .inr (2, [.ref h1])), (h1, .inr (3, [.ref h2, .int 12, .int 8, .int r])), (h2, .inl (cI, 96, .inl f))] sz) := by
  refine Met.ofW (cc := cX2_lapseAll) (maxL := 4) (ret := none) (by decide) rfl ?_
  intro p e s m args below meth c s₁ B hml hv
  obtain ⟨rfl, hsz, hP, hK, hN, hD0⟩ := hv
  have hx := B.exec
  have hb := B.bytes
  have hr := B.returns
  have hts := atoms_spec (ws := wsX2_lapseAll) B.pre
  have hown : s.vm.findClass RX2 = some m.cls := findClass_of_methodNamed B.named
  have hlocks := B.notSynchronized
  subst hsz
  have hD := hD0.self (sz := s.heap.size)
  generalize hAe : va_A [(h0, .inr (2, [.ref h1])), (h1, .inr (3, [.ref h2, .int 12, .int 8, .int r])), (h2, .inl (cI, 96, .inl f))] s.heap.size = A at hD ⊢
  have hA : ∀ q : Nat, s.heap.size ≤ q → A q := fun q h => by rw [← hAe]; exact Or.inr h
  have hS : va_S A s.heap s.heap [] := va_S.rf
  have hP : va_P (dC, dI) vwCl [(h0, .inr (2, [.ref h1])), (h1, .inr (3, [.ref h2, .int 12, .int 8, .int r])), (h2, .inl (cI, 96, .inl f))] s.heap := hP
  have kw1 := hts (.fieldLink RX2 16 "LapseMandates$Mandates" "table" "LLapseMandates$Table;") (List.mem_of_getElem? (i := 1) rfl)
  have iwsX20 : ∀ w ∈ wsX20, w ∈ wsX2_lapseAll := fun w h => List.mem_cons_of_mem _ (List.mem_append_left _ (List.mem_append_right _ h))
  generalize hrr : f_X2_lapseAll r f p1 p2 = rr
  have eF := hrr.symm
  have hl := lv_entry ([.ref h0, .int p1, .int p2]) (n := 4) (Nat.le_of_ble_eq_true rfl)
  rw [lg_entry_eq]
  generalize (lg_sl ([.ref h0, .int p1, .int p2]) ++ List.replicate (4 - (lg_sl ([.ref h0, .int p1, .int p2])).length) Slot.unset).toArray = ls at hl ⊢
  have hl : lv_has ls 4 [(0, .ref h0), (1, .int p1), (2, .int p2)] := hl
  have hJ2 : ∀ (n2 : Nat) (x3_2 : Int32) (f_2 : Nat → Int32), (((f_X2_total r)).toInt - (x3_2).toInt).toNat < n2 → 0 ≤ x3_2 → rr = f_X2_lapseAll_j2 r p1 p2 n2 x3_2 f_2 → ∀ (H : Heap) (locs : List Loc), va_P (dC, dI) vwCl [(h0, .inr (2, [.ref h1])), (h1, .inr (3, [.ref h2, .int 12, .int 8, .int r])), (h2, .inl (cI, 96, .inl f_2))] H → va_D A [(h0, .inr (2, [.ref h1])), (h1, .inr (3, [.ref h2, .int 12, .int 8, .int r])), (h2, .inl (cI, 96, .inl f_2))] → va_S A s.heap H locs → ∀ (ls : Array Slot), lv_has ls 4 [(0, .ref h0), (1, .int p1), (2, .int p2), (3, .int x3_2)] → W p l e (headSpec wsX2_lapseAll ({ frames := 1, cells := 0, slots := 0, locals := 24 })).room s m ([.ref h0, .int p1, .int p2] : List Value).toArray below meth c H locs 0 0 (MQ below (va_Qv (fun _ : Unit => True) (fun _ t => va_P (dC, dI) vwCl [(h0, .inr (2, [.ref h1])), (h1, .inr (3, [.ref h2, .int 12, .int 8, .int r])), (h2, .inl (cI, 96, .inl rr))] t.heap) A) ([.ref h0, .int p1, .int p2] : List Value).toArray s 0 0 A) (F0 m 2 ls []) := by
    intro n2
    induction n2 with
    | zero =>
      intro x3_2 f_2 hm2
      exact absurd hm2 (Nat.not_lt_zero _)
    | succ n2 ih2 =>
      intro x3_2 f_2 hm2 hi2 eF H locs hP hD hS ls hl
      have hJ28 : ¬ (f_X2_total r) ≤ x3_2 → rr = f_X2_lapseAll_j28 x3_2 f_2 (f_X2_lapseAll_j2 r p1 p2 n2) → ∀ (H : Heap) (locs : List Loc), va_P (dC, dI) vwCl [(h0, .inr (2, [.ref h1])), (h1, .inr (3, [.ref h2, .int 12, .int 8, .int r])), (h2, .inl (cI, 96, .inl f_2))] H → va_D A [(h0, .inr (2, [.ref h1])), (h1, .inr (3, [.ref h2, .int 12, .int 8, .int r])), (h2, .inl (cI, 96, .inl f_2))] → va_S A s.heap H locs → ∀ (ls : Array Slot), lv_has ls 4 [(0, .ref h0), (1, .int p1), (2, .int p2), (3, .int x3_2)] → W p l e (headSpec wsX2_lapseAll ({ frames := 1, cells := 0, slots := 0, locals := 24 })).room s m ([.ref h0, .int p1, .int p2] : List Value).toArray below meth c H locs 0 0 (MQ below (va_Qv (fun _ : Unit => True) (fun _ t => va_P (dC, dI) vwCl [(h0, .inr (2, [.ref h1])), (h1, .inr (3, [.ref h2, .int 12, .int 8, .int r])), (h2, .inl (cI, 96, .inl rr))] t.heap) A) ([.ref h0, .int p1, .int p2] : List Value).toArray s 0 0 A) (F0 m 28 ls []) := by
        intro cL2 eF H locs hP hD hS ls hl
        refine lv_iinc (v := (x3_2 + 1)) (lv' := [(3, .int (x3_2 + 1)), (0, .ref h0), (1, .int p1), (2, .int p2)]) hx hb dX2_lapseAll_28 hl (k := 3) rfl rfl (by decide) rfl (fun ls hl => ?_)
        refine lv_goto (tgt := 2) hx hb dX2_lapseAll_31 (by decide) ?_
        exact ih2 (x3_2 + 1) f_2 (vm_up (vm_nle cL2) hm2) (vm_nn hi2 (vm_nle cL2)) (eF.trans (by rw [f_X2_lapseAll_j28])) _ _ hP hD hS ls (lv_sub hl [1, 2, 3, 0] rfl)
      refine lv_iload_n hx hb dX2_lapseAll_2 rfl (lv_at hl 3 rfl) ?_
      refine lv_aload_n hx hb dX2_lapseAll_3 rfl (lv_at hl 0 rfl) ?_
      refine vm_roVx (v := (f_X2_total r)) (As := []) (rest := [.int x3_2]) (T := TX2) (N := 1) (wc := [(h0, .inr (2, [.ref h1])), (h1, .inr (3, [.ref h2, .int 12, .int 8, .int r])), (h2, .inl (cI, 96, .inl f_2))]) ⟨hx, hb, hml, hown, hts⟩ hK hN hP hl.1 ⟨Nat.le_of_ble_eq_true rfl, Nat.le_of_ble_eq_true rfl⟩ (c_X2_total l dC dI cI cB h0 h1 h2 r f_2) (cwV 0 hts gX2_lapseAll_X2_total rfl rfl rfl yd_X2_total ⟨Nat.le_of_ble_eq_true rfl, Nat.le_of_ble_eq_true rfl⟩) [0, 1, 2] rfl 2 rfl rfl rfl rfl (Nat.le_of_ble_eq_true rfl) dX2_lapseAll_4 ?_
      refine lv_icmp_ge (tgt := 34) hx hb dX2_lapseAll_7 (by decide) (fun cL2 => ?_) (fun cL2 => ?_)
      · have e9 : rr = f_2 := eF.trans (by rw [f_X2_lapseAll_j2, if_pos cL2])
        exact W.vret hx hb hr (fun t ht hW => ⟨⟨(), rfl, trivial, (by rw [e9]; show va_P _ _ _ t.heap; rw [ht]; exact hP)⟩, hS.F ht⟩) hS.2.2 dX2_lapseAll_34
      · refine lv_iload_n hx hb dX2_lapseAll_10 rfl (lv_at hl 1 rfl) ?_
        refine lv_iload_n hx hb dX2_lapseAll_11 rfl (lv_at hl 3 rfl) ?_
        refine vm_roSx (v := vm_bi (f_X2_isIn p1 x3_2)) (As := [.int p1, .int x3_2]) (rest := []) ⟨hx, hb, hml, hown, hts⟩ hK hN hP hl.1 ⟨Nat.le_of_ble_eq_true rfl, Nat.le_of_ble_eq_true rfl⟩ (c_X2_isIn l dC dI cI cB p1 x3_2) (va_cwS 2 hts gX2_lapseAll_X2_isIn rfl rfl rfl yd_X2_isIn ⟨Nat.le_of_ble_eq_true rfl, Nat.le_of_ble_eq_true rfl⟩) rfl rfl (Nat.le_of_ble_eq_true rfl) dX2_lapseAll_12 ?_
        refine lv_if_eq (tgt := 28) hx hb dX2_lapseAll_15 (by decide) (fun c_2 => ?_) (fun c_2 => ?_)
        · exact hJ28 cL2 (eF.trans (by rw [f_X2_lapseAll_j2, if_neg cL2, if_pos c_2])) _ _ hP hD hS ls (lv_sub hl [0, 1, 2, 3] rfl)
        · refine lv_aload_n hx hb dX2_lapseAll_18 rfl (lv_at hl 0 rfl) ?_
          refine va_get (D := (dC, dI)) (ci := 2) (v := .ref h1) (C := RX2) (T := TX2) (N := 1) hx hb hts iwsX20 hown hK hP 0 rfl rfl 0 (by decide) kw1 (fun _ h9 => h9) rfl dX2_lapseAll_19 ?_
          refine lv_iload_n hx hb dX2_lapseAll_22 rfl (lv_at hl 3 rfl) ?_
          refine lv_iconst (v := 5) hx hb dX2_lapseAll_23 (by decide) ?_
          refine lv_iload_n hx hb dX2_lapseAll_24 rfl (lv_at hl 2 rfl) ?_
          refine vm_rwVv (As := [.int x3_2, .int 5, .int p2]) (rest := []) (T := TX3) (N := 4) (wc := [(h1, .inr (3, [.ref h2, .int 12, .int 8, .int r])), (h2, .inl (cI, 96, .inl f_2))]) (w1 := [(h1, .inr (3, [.ref h2, .int 12, .int 8, .int r])), (h2, .inl (cI, 96, .inl (f_X3_put 8 r 96 f_2 x3_2 5 p2)))]) ⟨hx, hb, hml, hown, hts⟩ hK hN hP hD hS hA hl.1 ⟨Nat.le_of_ble_eq_true rfl, Nat.le_of_ble_eq_true rfl⟩ (c_X3_put l dC dI cI cB h1 h2 _ 12 8 r 96 f_2 x3_2 5 p2 (by decide)) (cwV 3 hts gX2_lapseAll_X3_put rfl rfl rfl yd_X3_put ⟨Nat.le_of_ble_eq_true rfl, Nat.le_of_ble_eq_true rfl⟩) [1, 2] rfl rfl rfl 3 rfl rfl rfl rfl (Nat.le_of_ble_eq_true rfl) dX2_lapseAll_25 (fun H locs hP hD hS => ?_)
          have hP : va_P (dC, dI) vwCl [(h0, .inr (2, [.ref h1])), (h1, .inr (3, [.ref h2, .int 12, .int 8, .int r])), (h2, .inl (cI, 96, .inl (f_X3_put 8 r 96 f_2 x3_2 5 p2)))] H := hP
          have hD : va_D A [(h0, .inr (2, [.ref h1])), (h1, .inr (3, [.ref h2, .int 12, .int 8, .int r])), (h2, .inl (cI, 96, .inl (f_X3_put 8 r 96 f_2 x3_2 5 p2)))] := hD
          obtain ⟨f_c28, ef_c28⟩ : ∃ z, z = (f_X3_put 8 r 96 f_2 x3_2 5 p2) := ⟨_, rfl⟩
          rw [← ef_c28] at hP hD
          have eF : rr = f_X2_lapseAll_c28 x3_2 (f_X2_lapseAll_j2 r p1 p2 n2) f_c28 := eF.trans (by rw [f_X2_lapseAll_j2, if_neg cL2, if_neg c_2, ef_c28])
          refine lv_iinc (v := (x3_2 + 1)) (lv' := [(3, .int (x3_2 + 1)), (0, .ref h0), (1, .int p1), (2, .int p2)]) hx hb dX2_lapseAll_28 hl (k := 3) rfl rfl (by decide) rfl (fun ls hl => ?_)
          refine lv_goto (tgt := 2) hx hb dX2_lapseAll_31 (by decide) ?_
          exact ih2 (x3_2 + 1) f_c28 (vm_up (vm_nle cL2) hm2) (vm_nn hi2 (vm_nle cL2)) (eF.trans (by rw [f_X2_lapseAll_c28])) _ _ hP hD hS ls (lv_sub hl [1, 2, 3, 0] rfl)
  refine lv_iconst (v := 0) hx hb dX2_lapseAll_0 (by decide) ?_
  refine lv_istore_n (lv' := [(3, .int 0), (0, .ref h0), (1, .int p1), (2, .int p2)]) hx hb dX2_lapseAll_1 rfl hl (by decide) rfl (fun ls hl => ?_)
  exact hJ2 ((((f_X2_total r)).toInt - ((0 : Int32)).toInt).toNat + 1) 0 f (Nat.lt_succ_self _) (by decide) (eF.trans (by rw [f_X2_lapseAll])) _ _ hP hD hS ls (lv_sub hl [1, 2, 3, 0] rfl)

def f_X2_fitsUnder_j31 : Bool :=
  true
def f_X2_fitsUnder (r : Int32) (f : Nat → Int32) (p1 : Int32) (p2 : Int32) (p3 : Int32) : Bool :=
  if p1 = (-1) then
    f_X2_fitsUnder_j31
  else
    if (f_X3_get 8 r 96 f p1 2) < p2 then
      false
    else
      if (f_X3_get 8 r 96 f p1 3) < p3 then
        false
      else
        f_X2_fitsUnder_j31
theorem yd_X2_fitsUnder : yX2_fitsUnder.cls = RX2 ∧ yX2_fitsUnder.cls ≠ "java/lang/invoke/MethodHandle" ∧ yX2_fitsUnder.cls ≠ "java/lang/invoke/VarHandle" ∧ (parseMethodDescriptor yX2_fitsUnder.desc).map (fun d => d.parameters.length) = some 3 := by decide +kernel
set_option maxHeartbeats 4000000 in
set_option maxRecDepth 100000 in
theorem c_X2_fitsUnder (l : Launch) (dC : Nat → ClassId) (dI : Nat → Nat → Nat) (cI cB : ClassId) (h0 h1 h2 : Nat) (r : Int32) (f : Nat → Int32) (p1 : Int32) (p2 : Int32) (p3 : Int32) : Met l yX2_fitsUnder wsX2_fitsUnder ({ frames := 1, cells := 0, slots := 0, locals := 23 }) (vm_pre [.ref h0, .int p1, .int p2, .int p3] (dC, dI) [(h0, .inr (2, [.ref h1])), (h1, .inr (3, [.ref h2, .int 12, .int 8, .int r])), (h2, .inl (cI, 96, .inl f))] cI cB) (vp_Si (fun r9 : Int32 => r9 = vm_bi (f_X2_fitsUnder r f p1 p2 p3))) 0 0 (fun _ => False) := by
  refine Met.ofW (cc := cX2_fitsUnder) (maxL := 4) (ret := (some .boolean)) (by decide) rfl ?_
  intro p e s m args below meth c s₁ B hml hv
  obtain ⟨rfl, hP, hK, hN⟩ := hv
  have hx := B.exec
  have hb := B.bytes
  have hr := B.returns
  have hts := atoms_spec (ws := wsX2_fitsUnder) B.pre
  have hown : s.vm.findClass RX2 = some m.cls := findClass_of_methodNamed B.named
  have hlocks := B.notSynchronized
  have kw1 := hts (.fieldLink RX2 16 "LapseMandates$Mandates" "table" "LLapseMandates$Table;") (List.mem_of_getElem? (i := 1) rfl)
  have iwsX20 : ∀ w ∈ wsX20, w ∈ wsX2_fitsUnder := fun w h => List.mem_cons_of_mem _ (List.mem_append_left _ (List.mem_append_right _ h))
  generalize hrr : f_X2_fitsUnder r f p1 p2 p3 = rr
  have eF := hrr.symm
  have hl := lv_entry ([.ref h0, .int p1, .int p2, .int p3]) (n := 4) (Nat.le_of_ble_eq_true rfl)
  rw [lg_entry_eq]
  generalize (lg_sl ([.ref h0, .int p1, .int p2, .int p3]) ++ List.replicate (4 - (lg_sl ([.ref h0, .int p1, .int p2, .int p3])).length) Slot.unset).toArray = ls at hl ⊢
  have hl : lv_has ls 4 [(0, .ref h0), (1, .int p1), (2, .int p2), (3, .int p3)] := hl
  have hJ31 : rr = f_X2_fitsUnder_j31 → ∀ (ls : Array Slot), lv_has ls 4 [] → W p l e (headSpec wsX2_fitsUnder ({ frames := 1, cells := 0, slots := 0, locals := 23 })).room s m ([.ref h0, .int p1, .int p2, .int p3] : List Value).toArray below meth c s.heap [] 0 0 (MQ below (vp_Si (fun r9 : Int32 => r9 = vm_bi rr)) ([.ref h0, .int p1, .int p2, .int p3] : List Value).toArray s 0 0 (fun _ => False)) (F0 m 31 ls []) := by
    intro eF ls hl
    refine lv_iconst (v := 1) hx hb dX2_fitsUnder_31 (by decide) ?_
    refine lv_goto (tgt := 36) hx hb dX2_fitsUnder_32 (by decide) ?_
    have e9 : rr = true := eF.trans (by rw [f_X2_fitsUnder_j31])
    exact W.zret (v := 1) hx hb hr rfl (fun t ht hW => ⟨_, rfl, by rw [e9] <;> rfl, ht⟩) (fun _ hq => by cases hq) dX2_fitsUnder_36
  refine lv_iload_n hx hb dX2_fitsUnder_0 rfl (lv_at hl 1 rfl) ?_
  refine lv_iconst (v := (-1)) hx hb dX2_fitsUnder_1 (by decide) ?_
  refine lv_icmp_eq (tgt := 31) hx hb dX2_fitsUnder_2 (by decide) (fun c_1 => ?_) (fun c_1 => ?_)
  · exact hJ31 (eF.trans (by rw [f_X2_fitsUnder, if_pos c_1])) ls (lv_sub hl [] rfl)
  · refine lv_iload_n hx hb dX2_fitsUnder_5 rfl (lv_at hl 2 rfl) ?_
    refine lv_aload_n hx hb dX2_fitsUnder_6 rfl (lv_at hl 0 rfl) ?_
    refine va_get (D := (dC, dI)) (ci := 2) (v := .ref h1) (C := RX2) (T := TX2) (N := 1) hx hb hts iwsX20 hown hK hP 0 rfl rfl 0 (by decide) kw1 (fun _ h9 => h9) rfl dX2_fitsUnder_7 ?_
    refine lv_iload_n hx hb dX2_fitsUnder_10 rfl (lv_at hl 1 rfl) ?_
    refine lv_iconst (v := 2) hx hb dX2_fitsUnder_11 (by decide) ?_
    refine vm_roVx (v := (f_X3_get 8 r 96 f p1 2)) (As := [.int p1, .int 2]) (rest := [.int p2]) (T := TX3) (N := 4) (wc := [(h1, .inr (3, [.ref h2, .int 12, .int 8, .int r])), (h2, .inl (cI, 96, .inl f))]) ⟨hx, hb, hml, hown, hts⟩ hK hN hP hl.1 ⟨Nat.le_of_ble_eq_true rfl, Nat.le_of_ble_eq_true rfl⟩ (c_X3_get l dC dI cI cB h1 h2 12 8 r 96 f p1 2 (by decide)) (cwV 2 hts gX2_fitsUnder_X3_get rfl rfl rfl yd_X3_get ⟨Nat.le_of_ble_eq_true rfl, Nat.le_of_ble_eq_true rfl⟩) [1, 2] rfl 3 rfl rfl rfl rfl (Nat.le_of_ble_eq_true rfl) dX2_fitsUnder_12 ?_
    refine lv_icmp_gt (tgt := 35) hx hb dX2_fitsUnder_15 (by decide) (fun c_2 => ?_) (fun c_2 => ?_)
    · refine lv_iconst (v := 0) hx hb dX2_fitsUnder_35 (by decide) ?_
      have e9 : rr = false := eF.trans (by rw [f_X2_fitsUnder, if_neg c_1, if_pos c_2])
      exact W.zret (v := 0) hx hb hr rfl (fun t ht hW => ⟨_, rfl, by rw [e9] <;> rfl, ht⟩) (fun _ hq => by cases hq) dX2_fitsUnder_36
    · refine lv_iload_n hx hb dX2_fitsUnder_18 rfl (lv_at hl 3 rfl) ?_
      refine lv_aload_n hx hb dX2_fitsUnder_19 rfl (lv_at hl 0 rfl) ?_
      refine va_get (D := (dC, dI)) (ci := 2) (v := .ref h1) (C := RX2) (T := TX2) (N := 1) hx hb hts iwsX20 hown hK hP 0 rfl rfl 0 (by decide) kw1 (fun _ h9 => h9) rfl dX2_fitsUnder_20 ?_
      refine lv_iload_n hx hb dX2_fitsUnder_23 rfl (lv_at hl 1 rfl) ?_
      refine lv_iconst (v := 3) hx hb dX2_fitsUnder_24 (by decide) ?_
      refine vm_roVx (v := (f_X3_get 8 r 96 f p1 3)) (As := [.int p1, .int 3]) (rest := [.int p3]) (T := TX3) (N := 4) (wc := [(h1, .inr (3, [.ref h2, .int 12, .int 8, .int r])), (h2, .inl (cI, 96, .inl f))]) ⟨hx, hb, hml, hown, hts⟩ hK hN hP hl.1 ⟨Nat.le_of_ble_eq_true rfl, Nat.le_of_ble_eq_true rfl⟩ (c_X3_get l dC dI cI cB h1 h2 12 8 r 96 f p1 3 (by decide)) (cwV 2 hts gX2_fitsUnder_X3_get rfl rfl rfl yd_X3_get ⟨Nat.le_of_ble_eq_true rfl, Nat.le_of_ble_eq_true rfl⟩) [1, 2] rfl 3 rfl rfl rfl rfl (Nat.le_of_ble_eq_true rfl) dX2_fitsUnder_25 ?_
      refine lv_icmp_gt (tgt := 35) hx hb dX2_fitsUnder_28 (by decide) (fun c_3 => ?_) (fun c_3 => ?_)
      · refine lv_iconst (v := 0) hx hb dX2_fitsUnder_35 (by decide) ?_
        have e9 : rr = false := eF.trans (by rw [f_X2_fitsUnder, if_neg c_1, if_neg c_2, if_pos c_3])
        exact W.zret (v := 0) hx hb hr rfl (fun t ht hW => ⟨_, rfl, by rw [e9] <;> rfl, ht⟩) (fun _ hq => by cases hq) dX2_fitsUnder_36
      · exact hJ31 (eF.trans (by rw [f_X2_fitsUnder, if_neg c_1, if_neg c_2, if_neg c_3])) ls (lv_sub hl [] rfl)

def f_X2_canHaveLimits_j99 (x4_25 : Int32) (kj25 : Int32 → Bool) : Bool :=
  kj25 (x4_25 + 1)
def f_X2_canHaveLimits_j62 (r : Int32) (f : Nat → Int32) (p2 : Int32) (p3 : Int32) (x4_25 : Int32) (kj25 : Int32 → Bool) (s0_62 : Bool) : Bool :=
  if (vm_bi s0_62) = 0 then
    f_X2_canHaveLimits_j99 x4_25 kj25
  else
    if p2 < (f_X3_get 8 r 96 f x4_25 2) then
      false
    else
      if (f_X3_get 8 r 96 f x4_25 3) ≤ p3 then
        f_X2_canHaveLimits_j99 x4_25 kj25
      else
        false
def f_X2_canHaveLimits_j61 (r : Int32) (f : Nat → Int32) (p2 : Int32) (p3 : Int32) (x4_25 : Int32) (kj25 : Int32 → Bool) : Bool :=
  f_X2_canHaveLimits_j62 r f p2 p3 x4_25 kj25 false
def f_X2_canHaveLimits_j25 (r : Int32) (f : Nat → Int32) (p1 : Int32) (p2 : Int32) (p3 : Int32) : Nat → Int32 → Bool
  | 0, _ => false
  | n25 + 1, x4_25 => if (f_X2_total r) ≤ x4_25 then
      true
    else
      if (f_X3_get 8 r 96 f x4_25 0) = p1 then
        if (vm_bi (f_X2_stands r f x4_25)) = 0 then
          f_X2_canHaveLimits_j61 r f p2 p3 x4_25 (f_X2_canHaveLimits_j25 r f p1 p2 p3 n25)
        else
          f_X2_canHaveLimits_j62 r f p2 p3 x4_25 (f_X2_canHaveLimits_j25 r f p1 p2 p3 n25) true
      else
        f_X2_canHaveLimits_j61 r f p2 p3 x4_25 (f_X2_canHaveLimits_j25 r f p1 p2 p3 n25)
def f_X2_canHaveLimits (r : Int32) (f : Nat → Int32) (p1 : Int32) (p2 : Int32) (p3 : Int32) : Bool :=
  if (vm_bi (f_X2_fitsUnder r f (f_X3_get 8 r 96 f p1 0) p2 p3)) = 0 then
    false
  else
    f_X2_canHaveLimits_j25 r f p1 p2 p3 ((((f_X2_total r)).toInt - ((p1 + 1)).toInt).toNat + 1) (p1 + 1)
theorem yd_X2_canHaveLimits : yX2_canHaveLimits.cls = RX2 ∧ yX2_canHaveLimits.cls ≠ "java/lang/invoke/MethodHandle" ∧ yX2_canHaveLimits.cls ≠ "java/lang/invoke/VarHandle" ∧ (parseMethodDescriptor yX2_canHaveLimits.desc).map (fun d => d.parameters.length) = some 3 := by decide +kernel
set_option maxHeartbeats 4000000 in
set_option maxRecDepth 100000 in
theorem c_X2_canHaveLimits (l : Launch) (dC : Nat → ClassId) (dI : Nat → Nat → Nat) (cI cB : ClassId) (h0 h1 h2 : Nat) (r : Int32) (f : Nat → Int32) (p1 : Int32) (p2 : Int32) (p3 : Int32) : Met l yX2_canHaveLimits wsX2_canHaveLimits ({ frames := 2, cells := 0, slots := 0, locals := 46 }) (vm_pre [.ref h0, .int p1, .int p2, .int p3] (dC, dI) [(h0, .inr (2, [.ref h1])), (h1, .inr (3, [.ref h2, .int 12, .int 8, .int r])), (h2, .inl (cI, 96, .inl f))] cI cB) (vp_Si (fun r9 : Int32 => r9 = vm_bi (f_X2_canHaveLimits r f p1 p2 p3))) 0 0 (fun _ => False) := by
  refine Met.ofW (cc := cX2_canHaveLimits) (maxL := 6) (ret := (some .boolean)) (by decide) rfl ?_
  intro p e s m args below meth c s₁ B hml hv
  obtain ⟨rfl, hP, hK, hN⟩ := hv
  have hx := B.exec
  have hb := B.bytes
  have hr := B.returns
  have hts := atoms_spec (ws := wsX2_canHaveLimits) B.pre
  have hown : s.vm.findClass RX2 = some m.cls := findClass_of_methodNamed B.named
  have hlocks := B.notSynchronized
  have kw1 := hts (.fieldLink RX2 16 "LapseMandates$Mandates" "table" "LLapseMandates$Table;") (List.mem_of_getElem? (i := 1) rfl)
  have iwsX20 : ∀ w ∈ wsX20, w ∈ wsX2_canHaveLimits := fun w h => List.mem_cons_of_mem _ (List.mem_append_left _ (List.mem_append_right _ h))
  generalize hrr : f_X2_canHaveLimits r f p1 p2 p3 = rr
  have eF := hrr.symm
  have hl := lv_entry ([.ref h0, .int p1, .int p2, .int p3]) (n := 6) (Nat.le_of_ble_eq_true rfl)
  rw [lg_entry_eq]
  generalize (lg_sl ([.ref h0, .int p1, .int p2, .int p3]) ++ List.replicate (6 - (lg_sl ([.ref h0, .int p1, .int p2, .int p3])).length) Slot.unset).toArray = ls at hl ⊢
  have hl : lv_has ls 6 [(0, .ref h0), (1, .int p1), (2, .int p2), (3, .int p3)] := hl
  have hJ25 : ∀ (n25 : Nat) (x4_25 : Int32), (((f_X2_total r)).toInt - (x4_25).toInt).toNat < n25 → rr = f_X2_canHaveLimits_j25 r f p1 p2 p3 n25 x4_25 → ∀ (ls : Array Slot), lv_has ls 6 [(0, .ref h0), (1, .int p1), (2, .int p2), (3, .int p3), (4, .int x4_25)] → W p l e (headSpec wsX2_canHaveLimits ({ frames := 2, cells := 0, slots := 0, locals := 46 })).room s m ([.ref h0, .int p1, .int p2, .int p3] : List Value).toArray below meth c s.heap [] 0 0 (MQ below (vp_Si (fun r9 : Int32 => r9 = vm_bi rr)) ([.ref h0, .int p1, .int p2, .int p3] : List Value).toArray s 0 0 (fun _ => False)) (F0 m 25 ls []) := by
    intro n25
    induction n25 with
    | zero =>
      intro x4_25 hm25
      exact absurd hm25 (Nat.not_lt_zero _)
    | succ n25 ih25 =>
      intro x4_25 hm25 eF ls hl
      have hJ99 : ¬ (f_X2_total r) ≤ x4_25 → rr = f_X2_canHaveLimits_j99 x4_25 (f_X2_canHaveLimits_j25 r f p1 p2 p3 n25) → ∀ (ls : Array Slot), lv_has ls 6 [(0, .ref h0), (1, .int p1), (2, .int p2), (3, .int p3), (4, .int x4_25)] → W p l e (headSpec wsX2_canHaveLimits ({ frames := 2, cells := 0, slots := 0, locals := 46 })).room s m ([.ref h0, .int p1, .int p2, .int p3] : List Value).toArray below meth c s.heap [] 0 0 (MQ below (vp_Si (fun r9 : Int32 => r9 = vm_bi rr)) ([.ref h0, .int p1, .int p2, .int p3] : List Value).toArray s 0 0 (fun _ => False)) (F0 m 99 ls []) := by
        intro cL25 eF ls hl
        refine lv_iinc (v := (x4_25 + 1)) (lv' := [(4, .int (x4_25 + 1)), (0, .ref h0), (1, .int p1), (2, .int p2), (3, .int p3)]) hx hb dX2_canHaveLimits_99 hl (k := 4) rfl rfl (by decide) rfl (fun ls hl => ?_)
        refine lv_goto (tgt := 25) hx hb dX2_canHaveLimits_102 (by decide) ?_
        exact ih25 (x4_25 + 1) (vm_up (vm_nle cL25) hm25) (eF.trans (by rw [f_X2_canHaveLimits_j99])) ls (lv_sub hl [1, 2, 3, 4, 0] rfl)
      have hJ62 : ∀ (s0_62 : Bool), ¬ (f_X2_total r) ≤ x4_25 → rr = f_X2_canHaveLimits_j62 r f p2 p3 x4_25 (f_X2_canHaveLimits_j25 r f p1 p2 p3 n25) s0_62 → ∀ (ls : Array Slot), lv_has ls 6 [(0, .ref h0), (1, .int p1), (2, .int p2), (3, .int p3), (4, .int x4_25)] → W p l e (headSpec wsX2_canHaveLimits ({ frames := 2, cells := 0, slots := 0, locals := 46 })).room s m ([.ref h0, .int p1, .int p2, .int p3] : List Value).toArray below meth c s.heap [] 0 0 (MQ below (vp_Si (fun r9 : Int32 => r9 = vm_bi rr)) ([.ref h0, .int p1, .int p2, .int p3] : List Value).toArray s 0 0 (fun _ => False)) (F0 m 62 ls [.int (vm_bi s0_62)]) := by
        intro s0_62 cL25 eF ls hl
        refine lv_istore (lv' := [(5, .int (vm_bi s0_62)), (0, .ref h0), (1, .int p1), (2, .int p2), (3, .int p3), (4, .int x4_25)]) hx hb dX2_canHaveLimits_62 hl (by decide) rfl (fun ls hl => ?_)
        refine lv_iload hx hb dX2_canHaveLimits_64 (lv_at hl 0 rfl) ?_
        refine lv_if_eq (tgt := 99) hx hb dX2_canHaveLimits_66 (by decide) (fun c_1 => ?_) (fun c_1 => ?_)
        · exact hJ99 cL25 (eF.trans (by rw [f_X2_canHaveLimits_j62, if_pos c_1])) ls (lv_sub hl [1, 2, 3, 4, 5] rfl)
        · refine lv_aload_n hx hb dX2_canHaveLimits_69 rfl (lv_at hl 1 rfl) ?_
          refine va_get (D := (dC, dI)) (ci := 2) (v := .ref h1) (C := RX2) (T := TX2) (N := 1) hx hb hts iwsX20 hown hK hP 0 rfl rfl 0 (by decide) kw1 (fun _ h9 => h9) rfl dX2_canHaveLimits_70 ?_
          refine lv_iload hx hb dX2_canHaveLimits_73 (lv_at hl 5 rfl) ?_
          refine lv_iconst (v := 2) hx hb dX2_canHaveLimits_75 (by decide) ?_
          refine vm_roVx (v := (f_X3_get 8 r 96 f x4_25 2)) (As := [.int x4_25, .int 2]) (rest := []) (T := TX3) (N := 4) (wc := [(h1, .inr (3, [.ref h2, .int 12, .int 8, .int r])), (h2, .inl (cI, 96, .inl f))]) ⟨hx, hb, hml, hown, hts⟩ hK hN hP hl.1 ⟨Nat.le_of_ble_eq_true rfl, Nat.le_of_ble_eq_true rfl⟩ (c_X3_get l dC dI cI cB h1 h2 12 8 r 96 f x4_25 2 (by decide)) (cwV 2 hts gX2_canHaveLimits_X3_get rfl rfl rfl yd_X3_get ⟨Nat.le_of_ble_eq_true rfl, Nat.le_of_ble_eq_true rfl⟩) [1, 2] rfl 3 rfl rfl rfl rfl (Nat.le_of_ble_eq_true rfl) dX2_canHaveLimits_76 ?_
          refine lv_iload_n hx hb dX2_canHaveLimits_79 rfl (lv_at hl 3 rfl) ?_
          refine lv_icmp_gt (tgt := 97) hx hb dX2_canHaveLimits_80 (by decide) (fun c_2 => ?_) (fun c_2 => ?_)
          · refine lv_iconst (v := 0) hx hb dX2_canHaveLimits_97 (by decide) ?_
            have e9 : rr = false := eF.trans (by rw [f_X2_canHaveLimits_j62, if_neg c_1, if_pos c_2])
            exact W.zret (v := 0) hx hb hr rfl (fun t ht hW => ⟨_, rfl, by rw [e9] <;> rfl, ht⟩) (fun _ hq => by cases hq) dX2_canHaveLimits_98
          · refine lv_aload_n hx hb dX2_canHaveLimits_83 rfl (lv_at hl 1 rfl) ?_
            refine va_get (D := (dC, dI)) (ci := 2) (v := .ref h1) (C := RX2) (T := TX2) (N := 1) hx hb hts iwsX20 hown hK hP 0 rfl rfl 0 (by decide) kw1 (fun _ h9 => h9) rfl dX2_canHaveLimits_84 ?_
            refine lv_iload hx hb dX2_canHaveLimits_87 (lv_at hl 5 rfl) ?_
            refine lv_iconst (v := 3) hx hb dX2_canHaveLimits_89 (by decide) ?_
            refine vm_roVx (v := (f_X3_get 8 r 96 f x4_25 3)) (As := [.int x4_25, .int 3]) (rest := []) (T := TX3) (N := 4) (wc := [(h1, .inr (3, [.ref h2, .int 12, .int 8, .int r])), (h2, .inl (cI, 96, .inl f))]) ⟨hx, hb, hml, hown, hts⟩ hK hN hP hl.1 ⟨Nat.le_of_ble_eq_true rfl, Nat.le_of_ble_eq_true rfl⟩ (c_X3_get l dC dI cI cB h1 h2 12 8 r 96 f x4_25 3 (by decide)) (cwV 2 hts gX2_canHaveLimits_X3_get rfl rfl rfl yd_X3_get ⟨Nat.le_of_ble_eq_true rfl, Nat.le_of_ble_eq_true rfl⟩) [1, 2] rfl 3 rfl rfl rfl rfl (Nat.le_of_ble_eq_true rfl) dX2_canHaveLimits_90 ?_
            refine lv_iload_n hx hb dX2_canHaveLimits_93 rfl (lv_at hl 4 rfl) ?_
            refine lv_icmp_le (tgt := 99) hx hb dX2_canHaveLimits_94 (by decide) (fun c_3 => ?_) (fun c_3 => ?_)
            · exact hJ99 cL25 (eF.trans (by rw [f_X2_canHaveLimits_j62, if_neg c_1, if_neg c_2, if_pos c_3])) ls (lv_sub hl [1, 2, 3, 4, 5] rfl)
            · refine lv_iconst (v := 0) hx hb dX2_canHaveLimits_97 (by decide) ?_
              have e9 : rr = false := eF.trans (by rw [f_X2_canHaveLimits_j62, if_neg c_1, if_neg c_2, if_neg c_3])
              exact W.zret (v := 0) hx hb hr rfl (fun t ht hW => ⟨_, rfl, by rw [e9] <;> rfl, ht⟩) (fun _ hq => by cases hq) dX2_canHaveLimits_98
      have hJ61 : ¬ (f_X2_total r) ≤ x4_25 → rr = f_X2_canHaveLimits_j61 r f p2 p3 x4_25 (f_X2_canHaveLimits_j25 r f p1 p2 p3 n25) → ∀ (ls : Array Slot), lv_has ls 6 [(0, .ref h0), (1, .int p1), (2, .int p2), (3, .int p3), (4, .int x4_25)] → W p l e (headSpec wsX2_canHaveLimits ({ frames := 2, cells := 0, slots := 0, locals := 46 })).room s m ([.ref h0, .int p1, .int p2, .int p3] : List Value).toArray below meth c s.heap [] 0 0 (MQ below (vp_Si (fun r9 : Int32 => r9 = vm_bi rr)) ([.ref h0, .int p1, .int p2, .int p3] : List Value).toArray s 0 0 (fun _ => False)) (F0 m 61 ls []) := by
        intro cL25 eF ls hl
        refine lv_iconst (v := 0) hx hb dX2_canHaveLimits_61 (by decide) ?_
        exact hJ62 false cL25 (eF.trans (by rw [f_X2_canHaveLimits_j61])) ls (lv_sub hl [0, 1, 2, 3, 4] rfl)
      refine lv_iload hx hb dX2_canHaveLimits_25 (lv_at hl 4 rfl) ?_
      refine lv_aload_n hx hb dX2_canHaveLimits_27 rfl (lv_at hl 0 rfl) ?_
      refine vm_roVx (v := (f_X2_total r)) (As := []) (rest := [.int x4_25]) (T := TX2) (N := 1) (wc := [(h0, .inr (2, [.ref h1])), (h1, .inr (3, [.ref h2, .int 12, .int 8, .int r])), (h2, .inl (cI, 96, .inl f))]) ⟨hx, hb, hml, hown, hts⟩ hK hN hP hl.1 ⟨Nat.le_of_ble_eq_true rfl, Nat.le_of_ble_eq_true rfl⟩ (c_X2_total l dC dI cI cB h0 h1 h2 r f) (cwV 0 hts gX2_canHaveLimits_X2_total rfl rfl rfl yd_X2_total ⟨Nat.le_of_ble_eq_true rfl, Nat.le_of_ble_eq_true rfl⟩) [0, 1, 2] rfl 2 rfl rfl rfl rfl (Nat.le_of_ble_eq_true rfl) dX2_canHaveLimits_28 ?_
      refine lv_icmp_ge (tgt := 105) hx hb dX2_canHaveLimits_31 (by decide) (fun cL25 => ?_) (fun cL25 => ?_)
      · refine lv_iconst (v := 1) hx hb dX2_canHaveLimits_105 (by decide) ?_
        have e9 : rr = true := eF.trans (by rw [f_X2_canHaveLimits_j25, if_pos cL25])
        exact W.zret (v := 1) hx hb hr rfl (fun t ht hW => ⟨_, rfl, by rw [e9] <;> rfl, ht⟩) (fun _ hq => by cases hq) dX2_canHaveLimits_106
      · refine lv_aload_n hx hb dX2_canHaveLimits_34 rfl (lv_at hl 0 rfl) ?_
        refine va_get (D := (dC, dI)) (ci := 2) (v := .ref h1) (C := RX2) (T := TX2) (N := 1) hx hb hts iwsX20 hown hK hP 0 rfl rfl 0 (by decide) kw1 (fun _ h9 => h9) rfl dX2_canHaveLimits_35 ?_
        refine lv_iload hx hb dX2_canHaveLimits_38 (lv_at hl 4 rfl) ?_
        refine lv_iconst (v := 0) hx hb dX2_canHaveLimits_40 (by decide) ?_
        refine vm_roVx (v := (f_X3_get 8 r 96 f x4_25 0)) (As := [.int x4_25, .int 0]) (rest := []) (T := TX3) (N := 4) (wc := [(h1, .inr (3, [.ref h2, .int 12, .int 8, .int r])), (h2, .inl (cI, 96, .inl f))]) ⟨hx, hb, hml, hown, hts⟩ hK hN hP hl.1 ⟨Nat.le_of_ble_eq_true rfl, Nat.le_of_ble_eq_true rfl⟩ (c_X3_get l dC dI cI cB h1 h2 12 8 r 96 f x4_25 0 (by decide)) (cwV 2 hts gX2_canHaveLimits_X3_get rfl rfl rfl yd_X3_get ⟨Nat.le_of_ble_eq_true rfl, Nat.le_of_ble_eq_true rfl⟩) [1, 2] rfl 3 rfl rfl rfl rfl (Nat.le_of_ble_eq_true rfl) dX2_canHaveLimits_41 ?_
        refine lv_iload_n hx hb dX2_canHaveLimits_44 rfl (lv_at hl 1 rfl) ?_
        refine lv_icmp_ne (tgt := 61) hx hb dX2_canHaveLimits_45 (by decide) (fun c_5 => ?_) (fun c_5 => ?_)
        · exact hJ61 cL25 (eF.trans (by rw [f_X2_canHaveLimits_j25, if_neg cL25, if_neg c_5])) ls (lv_sub hl [0, 1, 2, 3, 4] rfl)
        · refine lv_aload_n hx hb dX2_canHaveLimits_48 rfl (lv_at hl 0 rfl) ?_
          refine lv_iload hx hb dX2_canHaveLimits_49 (lv_at hl 4 rfl) ?_
          refine vm_roVx (v := vm_bi (f_X2_stands r f x4_25)) (As := [.int x4_25]) (rest := []) (T := TX2) (N := 1) (wc := [(h0, .inr (2, [.ref h1])), (h1, .inr (3, [.ref h2, .int 12, .int 8, .int r])), (h2, .inl (cI, 96, .inl f))]) ⟨hx, hb, hml, hown, hts⟩ hK hN hP hl.1 ⟨Nat.le_of_ble_eq_true rfl, Nat.le_of_ble_eq_true rfl⟩ (c_X2_stands l dC dI cI cB h0 h1 h2 r f x4_25) (cwV 1 hts gX2_canHaveLimits_X2_stands rfl rfl rfl yd_X2_stands ⟨Nat.le_of_ble_eq_true rfl, Nat.le_of_ble_eq_true rfl⟩) [0, 1, 2] rfl 2 rfl rfl rfl rfl (Nat.le_of_ble_eq_true rfl) dX2_canHaveLimits_51 ?_
          refine lv_if_eq (tgt := 61) hx hb dX2_canHaveLimits_54 (by decide) (fun c_6 => ?_) (fun c_6 => ?_)
          · exact hJ61 cL25 (eF.trans (by rw [f_X2_canHaveLimits_j25, if_neg cL25, if_pos c_5, if_pos c_6])) ls (lv_sub hl [0, 1, 2, 3, 4] rfl)
          · refine lv_iconst (v := 1) hx hb dX2_canHaveLimits_57 (by decide) ?_
            refine lv_goto (tgt := 62) hx hb dX2_canHaveLimits_58 (by decide) ?_
            exact hJ62 true cL25 (eF.trans (by rw [f_X2_canHaveLimits_j25, if_neg cL25, if_pos c_5, if_neg c_6])) ls (lv_sub hl [0, 1, 2, 3, 4] rfl)
  refine lv_aload_n hx hb dX2_canHaveLimits_0 rfl (lv_at hl 0 rfl) ?_
  refine lv_aload_n hx hb dX2_canHaveLimits_1 rfl (lv_at hl 0 rfl) ?_
  refine va_get (D := (dC, dI)) (ci := 2) (v := .ref h1) (C := RX2) (T := TX2) (N := 1) hx hb hts iwsX20 hown hK hP 0 rfl rfl 0 (by decide) kw1 (fun _ h9 => h9) rfl dX2_canHaveLimits_2 ?_
  refine lv_iload_n hx hb dX2_canHaveLimits_5 rfl (lv_at hl 1 rfl) ?_
  refine lv_iconst (v := 0) hx hb dX2_canHaveLimits_6 (by decide) ?_
  refine vm_roVx (v := (f_X3_get 8 r 96 f p1 0)) (As := [.int p1, .int 0]) (rest := [.ref h0]) (T := TX3) (N := 4) (wc := [(h1, .inr (3, [.ref h2, .int 12, .int 8, .int r])), (h2, .inl (cI, 96, .inl f))]) ⟨hx, hb, hml, hown, hts⟩ hK hN hP hl.1 ⟨Nat.le_of_ble_eq_true rfl, Nat.le_of_ble_eq_true rfl⟩ (c_X3_get l dC dI cI cB h1 h2 12 8 r 96 f p1 0 (by decide)) (cwV 2 hts gX2_canHaveLimits_X3_get rfl rfl rfl yd_X3_get ⟨Nat.le_of_ble_eq_true rfl, Nat.le_of_ble_eq_true rfl⟩) [1, 2] rfl 3 rfl rfl rfl rfl (Nat.le_of_ble_eq_true rfl) dX2_canHaveLimits_7 ?_
  refine lv_iload_n hx hb dX2_canHaveLimits_10 rfl (lv_at hl 2 rfl) ?_
  refine lv_iload_n hx hb dX2_canHaveLimits_11 rfl (lv_at hl 3 rfl) ?_
  refine vm_roVx (v := vm_bi (f_X2_fitsUnder r f (f_X3_get 8 r 96 f p1 0) p2 p3)) (As := [.int (f_X3_get 8 r 96 f p1 0), .int p2, .int p3]) (rest := []) (T := TX2) (N := 1) (wc := [(h0, .inr (2, [.ref h1])), (h1, .inr (3, [.ref h2, .int 12, .int 8, .int r])), (h2, .inl (cI, 96, .inl f))]) ⟨hx, hb, hml, hown, hts⟩ hK hN hP hl.1 ⟨Nat.le_of_ble_eq_true rfl, Nat.le_of_ble_eq_true rfl⟩ (c_X2_fitsUnder l dC dI cI cB h0 h1 h2 r f (f_X3_get 8 r 96 f p1 0) p2 p3) (cwV 3 hts gX2_canHaveLimits_X2_fitsUnder rfl rfl rfl yd_X2_fitsUnder ⟨Nat.le_of_ble_eq_true rfl, Nat.le_of_ble_eq_true rfl⟩) [0, 1, 2] rfl 2 rfl rfl rfl rfl (Nat.le_of_ble_eq_true rfl) dX2_canHaveLimits_12 ?_
  refine lv_if_ne (tgt := 20) hx hb dX2_canHaveLimits_15 (by decide) (fun c_7 => ?_) (fun c_7 => ?_)
  · refine lv_iload_n hx hb dX2_canHaveLimits_20 rfl (lv_at hl 1 rfl) ?_
    refine lv_iconst (v := 1) hx hb dX2_canHaveLimits_21 (by decide) ?_
    refine lv_iadd hx hb dX2_canHaveLimits_22 ?_
    refine lv_istore (lv' := [(4, .int (p1 + 1)), (0, .ref h0), (1, .int p1), (2, .int p2), (3, .int p3)]) hx hb dX2_canHaveLimits_23 hl (by decide) rfl (fun ls hl => ?_)
    exact hJ25 ((((f_X2_total r)).toInt - ((p1 + 1)).toInt).toNat + 1) (p1 + 1) (Nat.lt_succ_self _) (eF.trans (by rw [f_X2_canHaveLimits, if_neg c_7])) ls (lv_sub hl [1, 2, 3, 4, 0] rfl)
  · refine lv_iconst (v := 0) hx hb dX2_canHaveLimits_18 (by decide) ?_
    have e9 : rr = false := eF.trans (by rw [f_X2_canHaveLimits, if_pos c_7])
    exact W.zret (v := 0) hx hb hr rfl (fun t ht hW => ⟨_, rfl, by rw [e9] <;> rfl, ht⟩) (fun _ hq => by cases hq) dX2_canHaveLimits_19

def f_X2_changeLimits_c17 (y17 : Int32) (f_c17 : Nat → Int32) : Int32 × (Nat → Int32) :=
  (y17, f_c17)
def f_X2_changeLimits_c10 (r : Int32) (p1 : Int32) (p3 : Int32) (f_c10 : Nat → Int32) : Int32 × (Nat → Int32) :=
  f_X2_changeLimits_c17 ((f_X2_exchange r f_c10 p1 3 p3).1) ((f_X2_exchange r f_c10 p1 3 p3).2)
def f_X2_changeLimits (r : Int32) (f : Nat → Int32) (p1 : Int32) (p2 : Int32) (p3 : Int32) : Int32 × (Nat → Int32) :=
  f_X2_changeLimits_c10 r p1 p3 (f_X3_put 8 r 96 f p1 2 p2)
theorem yd_X2_changeLimits : yX2_changeLimits.cls = RX2 ∧ yX2_changeLimits.cls ≠ "java/lang/invoke/MethodHandle" ∧ yX2_changeLimits.cls ≠ "java/lang/invoke/VarHandle" ∧ (parseMethodDescriptor yX2_changeLimits.desc).map (fun d => d.parameters.length) = some 3 := by decide +kernel
set_option maxHeartbeats 4000000 in
set_option maxRecDepth 100000 in
theorem c_X2_changeLimits (l : Launch) (dC : Nat → ClassId) (dI : Nat → Nat → Nat) (cI cB : ClassId) (h0 h1 h2 : Nat) (sz : Nat) (r : Int32) (f : Nat → Int32) (p1 : Int32) (p2 : Int32) (p3 : Int32) : Met l yX2_changeLimits wsX2_changeLimits ({ frames := 2, cells := 0, slots := 0, locals := 48 }) (vm_prw [.ref h0, .int p1, .int p2, .int p3] (dC, dI) [(h0, .inr (2, [.ref h1])), (h1, .inr (3, [.ref h2, .int 12, .int 8, .int r])), (h2, .inl (cI, 96, .inl f))] cI cB sz) (va_Qi (fun (r9 : Int32) (_ : Unit) => r9 = (f_X2_changeLimits r f p1 p2 p3).1) (fun _ t => va_P (dC, dI) vwCl [(h0, .inr (2, [.ref h1])), (h1, .inr (3, [.ref h2, .int 12, .int 8, .int r])), (h2, .inl (cI, 96, .inl ((f_X2_changeLimits r f p1 p2 p3).2)))] t.heap) (va_A [(h0, .inr (2, [.ref h1])), (h1, .inr (3, [.ref h2, .int 12, .int 8, .int r])), (h2, .inl (cI, 96, .inl f))] sz)) 0 0 (va_A [(h0, .inr (2, [.ref h1])), (h1, .inr (3, [.ref h2, .int 12, .int 8, .int r])), (h2, .inl (cI, 96, .inl f))] sz) := by
  refine Met.ofW (cc := cX2_changeLimits) (maxL := 4) (ret := (some .int)) (by decide) rfl ?_
  intro p e s m args below meth c s₁ B hml hv
  obtain ⟨rfl, hsz, hP, hK, hN, hD0⟩ := hv
  have hx := B.exec
  have hb := B.bytes
  have hr := B.returns
  have hts := atoms_spec (ws := wsX2_changeLimits) B.pre
  have hown : s.vm.findClass RX2 = some m.cls := findClass_of_methodNamed B.named
  have hlocks := B.notSynchronized
  subst hsz
  have hD := hD0.self (sz := s.heap.size)
  generalize hAe : va_A [(h0, .inr (2, [.ref h1])), (h1, .inr (3, [.ref h2, .int 12, .int 8, .int r])), (h2, .inl (cI, 96, .inl f))] s.heap.size = A at hD ⊢
  have hA : ∀ q : Nat, s.heap.size ≤ q → A q := fun q h => by rw [← hAe]; exact Or.inr h
  have hS : va_S A s.heap s.heap [] := va_S.rf
  have hP : va_P (dC, dI) vwCl [(h0, .inr (2, [.ref h1])), (h1, .inr (3, [.ref h2, .int 12, .int 8, .int r])), (h2, .inl (cI, 96, .inl f))] s.heap := hP
  have kw1 := hts (.fieldLink RX2 16 "LapseMandates$Mandates" "table" "LLapseMandates$Table;") (List.mem_of_getElem? (i := 1) rfl)
  have iwsX20 : ∀ w ∈ wsX20, w ∈ wsX2_changeLimits := fun w h => List.mem_cons_of_mem _ (List.mem_append_left _ (List.mem_append_right _ h))
  generalize hrr : f_X2_changeLimits r f p1 p2 p3 = rr
  have eF := hrr.symm
  have hl := lv_entry ([.ref h0, .int p1, .int p2, .int p3]) (n := 4) (Nat.le_of_ble_eq_true rfl)
  rw [lg_entry_eq]
  generalize (lg_sl ([.ref h0, .int p1, .int p2, .int p3]) ++ List.replicate (4 - (lg_sl ([.ref h0, .int p1, .int p2, .int p3])).length) Slot.unset).toArray = ls at hl ⊢
  have hl : lv_has ls 4 [(0, .ref h0), (1, .int p1), (2, .int p2), (3, .int p3)] := hl
  refine lv_aload_n hx hb dX2_changeLimits_0 rfl (lv_at hl 0 rfl) ?_
  refine va_get (D := (dC, dI)) (ci := 2) (v := .ref h1) (C := RX2) (T := TX2) (N := 1) hx hb hts iwsX20 hown hK hP 0 rfl rfl 0 (by decide) kw1 (fun _ h9 => h9) rfl dX2_changeLimits_1 ?_
  refine lv_iload_n hx hb dX2_changeLimits_4 rfl (lv_at hl 1 rfl) ?_
  refine lv_iconst (v := 2) hx hb dX2_changeLimits_5 (by decide) ?_
  refine lv_iload_n hx hb dX2_changeLimits_6 rfl (lv_at hl 2 rfl) ?_
  refine vm_rwVv (As := [.int p1, .int 2, .int p2]) (rest := []) (T := TX3) (N := 4) (wc := [(h1, .inr (3, [.ref h2, .int 12, .int 8, .int r])), (h2, .inl (cI, 96, .inl f))]) (w1 := [(h1, .inr (3, [.ref h2, .int 12, .int 8, .int r])), (h2, .inl (cI, 96, .inl (f_X3_put 8 r 96 f p1 2 p2)))]) ⟨hx, hb, hml, hown, hts⟩ hK hN hP hD hS hA hl.1 ⟨Nat.le_of_ble_eq_true rfl, Nat.le_of_ble_eq_true rfl⟩ (c_X3_put l dC dI cI cB h1 h2 _ 12 8 r 96 f p1 2 p2 (by decide)) (cwV 3 hts gX2_changeLimits_X3_put rfl rfl rfl yd_X3_put ⟨Nat.le_of_ble_eq_true rfl, Nat.le_of_ble_eq_true rfl⟩) [1, 2] rfl rfl rfl 3 rfl rfl rfl rfl (Nat.le_of_ble_eq_true rfl) dX2_changeLimits_7 (fun H locs hP hD hS => ?_)
  have hP : va_P (dC, dI) vwCl [(h0, .inr (2, [.ref h1])), (h1, .inr (3, [.ref h2, .int 12, .int 8, .int r])), (h2, .inl (cI, 96, .inl (f_X3_put 8 r 96 f p1 2 p2)))] H := hP
  have hD : va_D A [(h0, .inr (2, [.ref h1])), (h1, .inr (3, [.ref h2, .int 12, .int 8, .int r])), (h2, .inl (cI, 96, .inl (f_X3_put 8 r 96 f p1 2 p2)))] := hD
  obtain ⟨f_c10, ef_c10⟩ : ∃ z, z = (f_X3_put 8 r 96 f p1 2 p2) := ⟨_, rfl⟩
  rw [← ef_c10] at hP hD
  have eF : rr = f_X2_changeLimits_c10 r p1 p3 f_c10 := eF.trans (by rw [f_X2_changeLimits, ef_c10])
  refine lv_aload_n hx hb dX2_changeLimits_10 rfl (lv_at hl 0 rfl) ?_
  refine lv_iload_n hx hb dX2_changeLimits_11 rfl (lv_at hl 1 rfl) ?_
  refine lv_iconst (v := 3) hx hb dX2_changeLimits_12 (by decide) ?_
  refine lv_iload_n hx hb dX2_changeLimits_13 rfl (lv_at hl 3 rfl) ?_
  refine vm_rwV (As := [.int p1, .int 3, .int p3]) (rest := []) (T := TX2) (N := 1) (wc := [(h0, .inr (2, [.ref h1])), (h1, .inr (3, [.ref h2, .int 12, .int 8, .int r])), (h2, .inl (cI, 96, .inl f_c10))]) (w1 := [(h0, .inr (2, [.ref h1])), (h1, .inr (3, [.ref h2, .int 12, .int 8, .int r])), (h2, .inl (cI, 96, .inl ((f_X2_exchange r f_c10 p1 3 p3).2)))]) ⟨hx, hb, hml, hown, hts⟩ hK hN hP hD hS hA hl.1 ⟨Nat.le_of_ble_eq_true rfl, Nat.le_of_ble_eq_true rfl⟩ (c_X2_exchange l dC dI cI cB h0 h1 h2 _ r f_c10 p1 3 p3) (cwV 3 hts gX2_changeLimits_X2_exchange rfl rfl rfl yd_X2_exchange ⟨Nat.le_of_ble_eq_true rfl, Nat.le_of_ble_eq_true rfl⟩) [0, 1, 2] rfl rfl rfl 2 rfl rfl rfl rfl (Nat.le_of_ble_eq_true rfl) dX2_changeLimits_14 (fun r17 H locs hw hP hD hS => ?_)
  have hP : va_P (dC, dI) vwCl [(h0, .inr (2, [.ref h1])), (h1, .inr (3, [.ref h2, .int 12, .int 8, .int r])), (h2, .inl (cI, 96, .inl ((f_X2_exchange r f_c10 p1 3 p3).2)))] H := hP
  have hD : va_D A [(h0, .inr (2, [.ref h1])), (h1, .inr (3, [.ref h2, .int 12, .int 8, .int r])), (h2, .inl (cI, 96, .inl ((f_X2_exchange r f_c10 p1 3 p3).2)))] := hD
  obtain ⟨y17, ey17⟩ : ∃ z, z = (f_X2_exchange r f_c10 p1 3 p3).1 := ⟨_, rfl⟩
  obtain rfl : y17 = r17 := (hw.trans ey17.symm).symm
  obtain ⟨f_c17, ef_c17⟩ : ∃ z, z = (f_X2_exchange r f_c10 p1 3 p3).2 := ⟨_, rfl⟩
  rw [← ef_c17] at hP hD
  have eF : rr = f_X2_changeLimits_c17 y17 f_c17 := eF.trans (by rw [f_X2_changeLimits_c10, ey17, ef_c17])
  have e9 : rr = (y17, f_c17) := eF.trans (by rw [f_X2_changeLimits_c17])
  exact W.iret (v := y17) hx hb hr (fun t ht hW => ⟨⟨_, (), rfl, by rw [e9], (by rw [e9]; show va_P _ _ _ t.heap; rw [ht]; exact hP)⟩, hS.F ht⟩) hS.2.2 dX2_changeLimits_17

def f_X2_leftFor (r : Int32) (f : Nat → Int32) (p1 : Int32) : Int32 :=
  ((f_X3_get 8 r 96 f p1 3) - (f_X3_get 8 r 96 f p1 6))
theorem yd_X2_leftFor : yX2_leftFor.cls = RX2 ∧ yX2_leftFor.cls ≠ "java/lang/invoke/MethodHandle" ∧ yX2_leftFor.cls ≠ "java/lang/invoke/VarHandle" ∧ (parseMethodDescriptor yX2_leftFor.desc).map (fun d => d.parameters.length) = some 1 := by decide +kernel
set_option maxHeartbeats 4000000 in
set_option maxRecDepth 100000 in
theorem c_X2_leftFor (l : Launch) (dC : Nat → ClassId) (dI : Nat → Nat → Nat) (cI cB : ClassId) (h0 h1 h2 : Nat) (r : Int32) (f : Nat → Int32) (p1 : Int32) : Met l yX2_leftFor wsX2_leftFor ({ frames := 1, cells := 0, slots := 0, locals := 23 }) (vm_pre [.ref h0, .int p1] (dC, dI) [(h0, .inr (2, [.ref h1])), (h1, .inr (3, [.ref h2, .int 12, .int 8, .int r])), (h2, .inl (cI, 96, .inl f))] cI cB) (vp_Si (fun r9 : Int32 => r9 = (f_X2_leftFor r f p1))) 0 0 (fun _ => False) := by
  refine Met.ofW (cc := cX2_leftFor) (maxL := 2) (ret := (some .int)) (by decide) rfl ?_
  intro p e s m args below meth c s₁ B hml hv
  obtain ⟨rfl, hP, hK, hN⟩ := hv
  have hx := B.exec
  have hb := B.bytes
  have hr := B.returns
  have hts := atoms_spec (ws := wsX2_leftFor) B.pre
  have hown : s.vm.findClass RX2 = some m.cls := findClass_of_methodNamed B.named
  have hlocks := B.notSynchronized
  have kw1 := hts (.fieldLink RX2 16 "LapseMandates$Mandates" "table" "LLapseMandates$Table;") (List.mem_of_getElem? (i := 1) rfl)
  have iwsX20 : ∀ w ∈ wsX20, w ∈ wsX2_leftFor := fun w h => List.mem_cons_of_mem _ (List.mem_append_left _ (List.mem_append_right _ h))
  generalize hrr : f_X2_leftFor r f p1 = rr
  have eF := hrr.symm
  have hl := lv_entry ([.ref h0, .int p1]) (n := 2) (Nat.le_of_ble_eq_true rfl)
  rw [lg_entry_eq]
  generalize (lg_sl ([.ref h0, .int p1]) ++ List.replicate (2 - (lg_sl ([.ref h0, .int p1])).length) Slot.unset).toArray = ls at hl ⊢
  have hl : lv_has ls 2 [(0, .ref h0), (1, .int p1)] := hl
  refine lv_aload_n hx hb dX2_leftFor_0 rfl (lv_at hl 0 rfl) ?_
  refine va_get (D := (dC, dI)) (ci := 2) (v := .ref h1) (C := RX2) (T := TX2) (N := 1) hx hb hts iwsX20 hown hK hP 0 rfl rfl 0 (by decide) kw1 (fun _ h9 => h9) rfl dX2_leftFor_1 ?_
  refine lv_iload_n hx hb dX2_leftFor_4 rfl (lv_at hl 1 rfl) ?_
  refine lv_iconst (v := 3) hx hb dX2_leftFor_5 (by decide) ?_
  refine vm_roVx (v := (f_X3_get 8 r 96 f p1 3)) (As := [.int p1, .int 3]) (rest := []) (T := TX3) (N := 4) (wc := [(h1, .inr (3, [.ref h2, .int 12, .int 8, .int r])), (h2, .inl (cI, 96, .inl f))]) ⟨hx, hb, hml, hown, hts⟩ hK hN hP hl.1 ⟨Nat.le_of_ble_eq_true rfl, Nat.le_of_ble_eq_true rfl⟩ (c_X3_get l dC dI cI cB h1 h2 12 8 r 96 f p1 3 (by decide)) (cwV 2 hts gX2_leftFor_X3_get rfl rfl rfl yd_X3_get ⟨Nat.le_of_ble_eq_true rfl, Nat.le_of_ble_eq_true rfl⟩) [1, 2] rfl 3 rfl rfl rfl rfl (Nat.le_of_ble_eq_true rfl) dX2_leftFor_6 ?_
  refine lv_aload_n hx hb dX2_leftFor_9 rfl (lv_at hl 0 rfl) ?_
  refine va_get (D := (dC, dI)) (ci := 2) (v := .ref h1) (C := RX2) (T := TX2) (N := 1) hx hb hts iwsX20 hown hK hP 0 rfl rfl 0 (by decide) kw1 (fun _ h9 => h9) rfl dX2_leftFor_10 ?_
  refine lv_iload_n hx hb dX2_leftFor_13 rfl (lv_at hl 1 rfl) ?_
  refine lv_bipush (v := 6) hx hb dX2_leftFor_14 (by decide) ?_
  refine vm_roVx (v := (f_X3_get 8 r 96 f p1 6)) (As := [.int p1, .int 6]) (rest := [.int (f_X3_get 8 r 96 f p1 3)]) (T := TX3) (N := 4) (wc := [(h1, .inr (3, [.ref h2, .int 12, .int 8, .int r])), (h2, .inl (cI, 96, .inl f))]) ⟨hx, hb, hml, hown, hts⟩ hK hN hP hl.1 ⟨Nat.le_of_ble_eq_true rfl, Nat.le_of_ble_eq_true rfl⟩ (c_X3_get l dC dI cI cB h1 h2 12 8 r 96 f p1 6 (by decide)) (cwV 2 hts gX2_leftFor_X3_get rfl rfl rfl yd_X3_get ⟨Nat.le_of_ble_eq_true rfl, Nat.le_of_ble_eq_true rfl⟩) [1, 2] rfl 3 rfl rfl rfl rfl (Nat.le_of_ble_eq_true rfl) dX2_leftFor_16 ?_
  refine lv_isub hx hb dX2_leftFor_19 ?_
  have e9 : rr = ((f_X3_get 8 r 96 f p1 3) - (f_X3_get 8 r 96 f p1 6)) := eF.trans (by rw [f_X2_leftFor])
  exact W.iret (v := ((f_X3_get 8 r 96 f p1 3) - (f_X3_get 8 r 96 f p1 6))) hx hb hr (fun t ht hW => ⟨_, rfl, e9.symm, ht⟩) (fun _ hq => by cases hq) dX2_leftFor_20

def f_X2_narrowestOfChain_j33 (r : Int32) (f : Nat → Int32) (x3_7 : Int32) (x4_7 : Int32) (kj7 : Int32 → Int32 → Int32 → Int32) (x2_33 : Int32) : Int32 :=
  kj7 x2_33 (f_X3_get 8 r 96 f x3_7 0) (x4_7 + 1)
def f_X2_narrowestOfChain_j7 (r : Int32) (f : Nat → Int32) : Nat → Int32 → Int32 → Int32 → Int32
  | 0, _, _, _ => 0
  | n7 + 1, x2_7, x3_7, x4_7 => if 12 ≤ x4_7 then
      x2_7
    else
      if x3_7 < 0 then
        x2_7
      else
        if (f_X2_leftFor r f x2_7) ≤ (f_X2_leftFor r f x3_7) then
          f_X2_narrowestOfChain_j33 r f x3_7 x4_7 (f_X2_narrowestOfChain_j7 r f n7) x2_7
        else
          f_X2_narrowestOfChain_j33 r f x3_7 x4_7 (f_X2_narrowestOfChain_j7 r f n7) x3_7
def f_X2_narrowestOfChain (r : Int32) (f : Nat → Int32) (p1 : Int32) : Int32 :=
  f_X2_narrowestOfChain_j7 r f ((((12 : Int32)).toInt - ((0 : Int32)).toInt).toNat + 1) p1 p1 0
theorem yd_X2_narrowestOfChain : yX2_narrowestOfChain.cls = RX2 ∧ yX2_narrowestOfChain.cls ≠ "java/lang/invoke/MethodHandle" ∧ yX2_narrowestOfChain.cls ≠ "java/lang/invoke/VarHandle" ∧ (parseMethodDescriptor yX2_narrowestOfChain.desc).map (fun d => d.parameters.length) = some 1 := by decide +kernel
set_option maxHeartbeats 4000000 in
set_option maxRecDepth 100000 in
theorem c_X2_narrowestOfChain (l : Launch) (dC : Nat → ClassId) (dI : Nat → Nat → Nat) (cI cB : ClassId) (h0 h1 h2 : Nat) (r : Int32) (f : Nat → Int32) (p1 : Int32) : Met l yX2_narrowestOfChain wsX2_narrowestOfChain ({ frames := 2, cells := 0, slots := 0, locals := 44 }) (vm_pre [.ref h0, .int p1] (dC, dI) [(h0, .inr (2, [.ref h1])), (h1, .inr (3, [.ref h2, .int 12, .int 8, .int r])), (h2, .inl (cI, 96, .inl f))] cI cB) (vp_Si (fun r9 : Int32 => r9 = (f_X2_narrowestOfChain r f p1))) 0 0 (fun _ => False) := by
  refine Met.ofW (cc := cX2_narrowestOfChain) (maxL := 5) (ret := (some .int)) (by decide) rfl ?_
  intro p e s m args below meth c s₁ B hml hv
  obtain ⟨rfl, hP, hK, hN⟩ := hv
  have hx := B.exec
  have hb := B.bytes
  have hr := B.returns
  have hts := atoms_spec (ws := wsX2_narrowestOfChain) B.pre
  have hown : s.vm.findClass RX2 = some m.cls := findClass_of_methodNamed B.named
  have hlocks := B.notSynchronized
  have kw1 := hts (.fieldLink RX2 16 "LapseMandates$Mandates" "table" "LLapseMandates$Table;") (List.mem_of_getElem? (i := 1) rfl)
  have iwsX20 : ∀ w ∈ wsX20, w ∈ wsX2_narrowestOfChain := fun w h => List.mem_cons_of_mem _ (List.mem_append_left _ (List.mem_append_right _ h))
  generalize hrr : f_X2_narrowestOfChain r f p1 = rr
  have eF := hrr.symm
  have hl := lv_entry ([.ref h0, .int p1]) (n := 5) (Nat.le_of_ble_eq_true rfl)
  rw [lg_entry_eq]
  generalize (lg_sl ([.ref h0, .int p1]) ++ List.replicate (5 - (lg_sl ([.ref h0, .int p1])).length) Slot.unset).toArray = ls at hl ⊢
  have hl : lv_has ls 5 [(0, .ref h0), (1, .int p1)] := hl
  have hJ7 : ∀ (n7 : Nat) (x2_7 : Int32) (x3_7 : Int32) (x4_7 : Int32), (((12 : Int32)).toInt - (x4_7).toInt).toNat < n7 → 0 ≤ x4_7 → rr = f_X2_narrowestOfChain_j7 r f n7 x2_7 x3_7 x4_7 → ∀ (ls : Array Slot), lv_has ls 5 [(0, .ref h0), (2, .int x2_7), (3, .int x3_7), (4, .int x4_7)] → W p l e (headSpec wsX2_narrowestOfChain ({ frames := 2, cells := 0, slots := 0, locals := 44 })).room s m ([.ref h0, .int p1] : List Value).toArray below meth c s.heap [] 0 0 (MQ below (vp_Si (fun r9 : Int32 => r9 = rr)) ([.ref h0, .int p1] : List Value).toArray s 0 0 (fun _ => False)) (F0 m 7 ls []) := by
    intro n7
    induction n7 with
    | zero =>
      intro x2_7 x3_7 x4_7 hm7
      exact absurd hm7 (Nat.not_lt_zero _)
    | succ n7 ih7 =>
      intro x2_7 x3_7 x4_7 hm7 hi7 eF ls hl
      have hJ33 : ∀ (x2_33 : Int32), ¬ 12 ≤ x4_7 → rr = f_X2_narrowestOfChain_j33 r f x3_7 x4_7 (f_X2_narrowestOfChain_j7 r f n7) x2_33 → ∀ (ls : Array Slot), lv_has ls 5 [(0, .ref h0), (2, .int x2_33), (3, .int x3_7), (4, .int x4_7)] → W p l e (headSpec wsX2_narrowestOfChain ({ frames := 2, cells := 0, slots := 0, locals := 44 })).room s m ([.ref h0, .int p1] : List Value).toArray below meth c s.heap [] 0 0 (MQ below (vp_Si (fun r9 : Int32 => r9 = rr)) ([.ref h0, .int p1] : List Value).toArray s 0 0 (fun _ => False)) (F0 m 33 ls []) := by
        intro x2_33 cL7 eF ls hl
        refine lv_aload_n hx hb dX2_narrowestOfChain_33 rfl (lv_at hl 0 rfl) ?_
        refine va_get (D := (dC, dI)) (ci := 2) (v := .ref h1) (C := RX2) (T := TX2) (N := 1) hx hb hts iwsX20 hown hK hP 0 rfl rfl 0 (by decide) kw1 (fun _ h9 => h9) rfl dX2_narrowestOfChain_34 ?_
        refine lv_iload_n hx hb dX2_narrowestOfChain_37 rfl (lv_at hl 2 rfl) ?_
        refine lv_iconst (v := 0) hx hb dX2_narrowestOfChain_38 (by decide) ?_
        refine vm_roVx (v := (f_X3_get 8 r 96 f x3_7 0)) (As := [.int x3_7, .int 0]) (rest := []) (T := TX3) (N := 4) (wc := [(h1, .inr (3, [.ref h2, .int 12, .int 8, .int r])), (h2, .inl (cI, 96, .inl f))]) ⟨hx, hb, hml, hown, hts⟩ hK hN hP hl.1 ⟨Nat.le_of_ble_eq_true rfl, Nat.le_of_ble_eq_true rfl⟩ (c_X3_get l dC dI cI cB h1 h2 12 8 r 96 f x3_7 0 (by decide)) (cwV 2 hts gX2_narrowestOfChain_X3_get rfl rfl rfl yd_X3_get ⟨Nat.le_of_ble_eq_true rfl, Nat.le_of_ble_eq_true rfl⟩) [1, 2] rfl 3 rfl rfl rfl rfl (Nat.le_of_ble_eq_true rfl) dX2_narrowestOfChain_39 ?_
        refine lv_istore_n (lv' := [(3, .int (f_X3_get 8 r 96 f x3_7 0)), (0, .ref h0), (2, .int x2_33), (4, .int x4_7)]) hx hb dX2_narrowestOfChain_42 rfl hl (by decide) rfl (fun ls hl => ?_)
        refine lv_iinc (v := (x4_7 + 1)) (lv' := [(4, .int (x4_7 + 1)), (3, .int (f_X3_get 8 r 96 f x3_7 0)), (0, .ref h0), (2, .int x2_33)]) hx hb dX2_narrowestOfChain_43 hl (k := 3) rfl rfl (by decide) rfl (fun ls hl => ?_)
        refine lv_goto (tgt := 7) hx hb dX2_narrowestOfChain_46 (by decide) ?_
        exact ih7 x2_33 (f_X3_get 8 r 96 f x3_7 0) (x4_7 + 1) (vm_up (vm_nle cL7) hm7) (vm_nn hi7 (vm_nle cL7)) (eF.trans (by rw [f_X2_narrowestOfChain_j33])) ls (lv_sub hl [2, 3, 1, 0] rfl)
      refine lv_iload hx hb dX2_narrowestOfChain_7 (lv_at hl 3 rfl) ?_
      refine lv_bipush (v := 12) hx hb dX2_narrowestOfChain_9 (by decide) ?_
      refine lv_icmp_ge (tgt := 49) hx hb dX2_narrowestOfChain_11 (by decide) (fun cL7 => ?_) (fun cL7 => ?_)
      · refine lv_iload_n hx hb dX2_narrowestOfChain_49 rfl (lv_at hl 1 rfl) ?_
        have e9 : rr = x2_7 := eF.trans (by rw [f_X2_narrowestOfChain_j7, if_pos cL7])
        exact W.iret (v := x2_7) hx hb hr (fun t ht hW => ⟨_, rfl, e9.symm, ht⟩) (fun _ hq => by cases hq) dX2_narrowestOfChain_50
      · refine lv_iload_n hx hb dX2_narrowestOfChain_14 rfl (lv_at hl 2 rfl) ?_
        refine lv_if_lt (tgt := 49) hx hb dX2_narrowestOfChain_15 (by decide) (fun c_2 => ?_) (fun c_2 => ?_)
        · refine lv_iload_n hx hb dX2_narrowestOfChain_49 rfl (lv_at hl 1 rfl) ?_
          have e9 : rr = x2_7 := eF.trans (by rw [f_X2_narrowestOfChain_j7, if_neg cL7, if_pos c_2])
          exact W.iret (v := x2_7) hx hb hr (fun t ht hW => ⟨_, rfl, e9.symm, ht⟩) (fun _ hq => by cases hq) dX2_narrowestOfChain_50
        · refine lv_aload_n hx hb dX2_narrowestOfChain_18 rfl (lv_at hl 0 rfl) ?_
          refine lv_iload_n hx hb dX2_narrowestOfChain_19 rfl (lv_at hl 2 rfl) ?_
          refine vm_roVx (v := (f_X2_leftFor r f x3_7)) (As := [.int x3_7]) (rest := []) (T := TX2) (N := 1) (wc := [(h0, .inr (2, [.ref h1])), (h1, .inr (3, [.ref h2, .int 12, .int 8, .int r])), (h2, .inl (cI, 96, .inl f))]) ⟨hx, hb, hml, hown, hts⟩ hK hN hP hl.1 ⟨Nat.le_of_ble_eq_true rfl, Nat.le_of_ble_eq_true rfl⟩ (c_X2_leftFor l dC dI cI cB h0 h1 h2 r f x3_7) (cwV 1 hts gX2_narrowestOfChain_X2_leftFor rfl rfl rfl yd_X2_leftFor ⟨Nat.le_of_ble_eq_true rfl, Nat.le_of_ble_eq_true rfl⟩) [0, 1, 2] rfl 2 rfl rfl rfl rfl (Nat.le_of_ble_eq_true rfl) dX2_narrowestOfChain_20 ?_
          refine lv_aload_n hx hb dX2_narrowestOfChain_23 rfl (lv_at hl 0 rfl) ?_
          refine lv_iload_n hx hb dX2_narrowestOfChain_24 rfl (lv_at hl 1 rfl) ?_
          refine vm_roVx (v := (f_X2_leftFor r f x2_7)) (As := [.int x2_7]) (rest := [.int (f_X2_leftFor r f x3_7)]) (T := TX2) (N := 1) (wc := [(h0, .inr (2, [.ref h1])), (h1, .inr (3, [.ref h2, .int 12, .int 8, .int r])), (h2, .inl (cI, 96, .inl f))]) ⟨hx, hb, hml, hown, hts⟩ hK hN hP hl.1 ⟨Nat.le_of_ble_eq_true rfl, Nat.le_of_ble_eq_true rfl⟩ (c_X2_leftFor l dC dI cI cB h0 h1 h2 r f x2_7) (cwV 1 hts gX2_narrowestOfChain_X2_leftFor rfl rfl rfl yd_X2_leftFor ⟨Nat.le_of_ble_eq_true rfl, Nat.le_of_ble_eq_true rfl⟩) [0, 1, 2] rfl 2 rfl rfl rfl rfl (Nat.le_of_ble_eq_true rfl) dX2_narrowestOfChain_25 ?_
          refine lv_icmp_ge (tgt := 33) hx hb dX2_narrowestOfChain_28 (by decide) (fun c_3 => ?_) (fun c_3 => ?_)
          · exact hJ33 x2_7 cL7 (eF.trans (by rw [f_X2_narrowestOfChain_j7, if_neg cL7, if_neg c_2, if_pos c_3])) ls (lv_sub hl [0, 1, 2, 3] rfl)
          · refine lv_iload_n hx hb dX2_narrowestOfChain_31 rfl (lv_at hl 2 rfl) ?_
            refine lv_istore_n (lv' := [(2, .int x3_7), (0, .ref h0), (3, .int x3_7), (4, .int x4_7)]) hx hb dX2_narrowestOfChain_32 rfl hl (by decide) rfl (fun ls hl => ?_)
            exact hJ33 x3_7 cL7 (eF.trans (by rw [f_X2_narrowestOfChain_j7, if_neg cL7, if_neg c_2, if_neg c_3])) ls (lv_sub hl [1, 0, 2, 3] rfl)
  refine lv_iload_n hx hb dX2_narrowestOfChain_0 rfl (lv_at hl 1 rfl) ?_
  refine lv_istore_n (lv' := [(2, .int p1), (0, .ref h0), (1, .int p1)]) hx hb dX2_narrowestOfChain_1 rfl hl (by decide) rfl (fun ls hl => ?_)
  refine lv_iload_n hx hb dX2_narrowestOfChain_2 rfl (lv_at hl 2 rfl) ?_
  refine lv_istore_n (lv' := [(3, .int p1), (2, .int p1), (0, .ref h0), (1, .int p1)]) hx hb dX2_narrowestOfChain_3 rfl hl (by decide) rfl (fun ls hl => ?_)
  refine lv_iconst (v := 0) hx hb dX2_narrowestOfChain_4 (by decide) ?_
  refine lv_istore (lv' := [(4, .int 0), (3, .int p1), (2, .int p1), (0, .ref h0), (1, .int p1)]) hx hb dX2_narrowestOfChain_5 hl (by decide) rfl (fun ls hl => ?_)
  exact hJ7 ((((12 : Int32)).toInt - ((0 : Int32)).toInt).toNat + 1) p1 p1 0 (Nat.lt_succ_self _) (by decide) (eF.trans (by rw [f_X2_narrowestOfChain])) ls (lv_sub hl [3, 2, 1, 0] rfl)

def f_X2_refusal (r : Int32) (f : Nat → Int32) (p1 : Int32) (p2 : Int32) : Int32 :=
  if (vm_bi (f_X2_stands r f p1)) = 0 then
    1
  else
    if p2 ≤ (f_X3_get 8 r 96 f p1 2) then
      if p2 ≤ (f_X2_leftFor r f (f_X2_narrowestOfChain r f p1)) then
        0
      else
        3
    else
      2
theorem yd_X2_refusal : yX2_refusal.cls = RX2 ∧ yX2_refusal.cls ≠ "java/lang/invoke/MethodHandle" ∧ yX2_refusal.cls ≠ "java/lang/invoke/VarHandle" ∧ (parseMethodDescriptor yX2_refusal.desc).map (fun d => d.parameters.length) = some 2 := by decide +kernel
set_option maxHeartbeats 4000000 in
set_option maxRecDepth 100000 in
theorem c_X2_refusal (l : Launch) (dC : Nat → ClassId) (dI : Nat → Nat → Nat) (cI cB : ClassId) (h0 h1 h2 : Nat) (r : Int32) (f : Nat → Int32) (p1 : Int32) (p2 : Int32) : Met l yX2_refusal wsX2_refusal ({ frames := 3, cells := 0, slots := 0, locals := 68 }) (vm_pre [.ref h0, .int p1, .int p2] (dC, dI) [(h0, .inr (2, [.ref h1])), (h1, .inr (3, [.ref h2, .int 12, .int 8, .int r])), (h2, .inl (cI, 96, .inl f))] cI cB) (vp_Si (fun r9 : Int32 => r9 = (f_X2_refusal r f p1 p2))) 0 0 (fun _ => False) := by
  refine Met.ofW (cc := cX2_refusal) (maxL := 3) (ret := (some .int)) (by decide) rfl ?_
  intro p e s m args below meth c s₁ B hml hv
  obtain ⟨rfl, hP, hK, hN⟩ := hv
  have hx := B.exec
  have hb := B.bytes
  have hr := B.returns
  have hts := atoms_spec (ws := wsX2_refusal) B.pre
  have hown : s.vm.findClass RX2 = some m.cls := findClass_of_methodNamed B.named
  have hlocks := B.notSynchronized
  have kw1 := hts (.fieldLink RX2 16 "LapseMandates$Mandates" "table" "LLapseMandates$Table;") (List.mem_of_getElem? (i := 1) rfl)
  have iwsX20 : ∀ w ∈ wsX20, w ∈ wsX2_refusal := fun w h => List.mem_cons_of_mem _ (List.mem_append_left _ (List.mem_append_right _ h))
  generalize hrr : f_X2_refusal r f p1 p2 = rr
  have eF := hrr.symm
  have hl := lv_entry ([.ref h0, .int p1, .int p2]) (n := 3) (Nat.le_of_ble_eq_true rfl)
  rw [lg_entry_eq]
  generalize (lg_sl ([.ref h0, .int p1, .int p2]) ++ List.replicate (3 - (lg_sl ([.ref h0, .int p1, .int p2])).length) Slot.unset).toArray = ls at hl ⊢
  have hl : lv_has ls 3 [(0, .ref h0), (1, .int p1), (2, .int p2)] := hl
  refine lv_aload_n hx hb dX2_refusal_0 rfl (lv_at hl 0 rfl) ?_
  refine lv_iload_n hx hb dX2_refusal_1 rfl (lv_at hl 1 rfl) ?_
  refine vm_roVx (v := vm_bi (f_X2_stands r f p1)) (As := [.int p1]) (rest := []) (T := TX2) (N := 1) (wc := [(h0, .inr (2, [.ref h1])), (h1, .inr (3, [.ref h2, .int 12, .int 8, .int r])), (h2, .inl (cI, 96, .inl f))]) ⟨hx, hb, hml, hown, hts⟩ hK hN hP hl.1 ⟨Nat.le_of_ble_eq_true rfl, Nat.le_of_ble_eq_true rfl⟩ (c_X2_stands l dC dI cI cB h0 h1 h2 r f p1) (cwV 1 hts gX2_refusal_X2_stands rfl rfl rfl yd_X2_stands ⟨Nat.le_of_ble_eq_true rfl, Nat.le_of_ble_eq_true rfl⟩) [0, 1, 2] rfl 2 rfl rfl rfl rfl (Nat.le_of_ble_eq_true rfl) dX2_refusal_2 ?_
  refine lv_if_ne (tgt := 10) hx hb dX2_refusal_5 (by decide) (fun c_1 => ?_) (fun c_1 => ?_)
  · refine lv_iload_n hx hb dX2_refusal_10 rfl (lv_at hl 2 rfl) ?_
    refine lv_aload_n hx hb dX2_refusal_11 rfl (lv_at hl 0 rfl) ?_
    refine va_get (D := (dC, dI)) (ci := 2) (v := .ref h1) (C := RX2) (T := TX2) (N := 1) hx hb hts iwsX20 hown hK hP 0 rfl rfl 0 (by decide) kw1 (fun _ h9 => h9) rfl dX2_refusal_12 ?_
    refine lv_iload_n hx hb dX2_refusal_15 rfl (lv_at hl 1 rfl) ?_
    refine lv_iconst (v := 2) hx hb dX2_refusal_16 (by decide) ?_
    refine vm_roVx (v := (f_X3_get 8 r 96 f p1 2)) (As := [.int p1, .int 2]) (rest := [.int p2]) (T := TX3) (N := 4) (wc := [(h1, .inr (3, [.ref h2, .int 12, .int 8, .int r])), (h2, .inl (cI, 96, .inl f))]) ⟨hx, hb, hml, hown, hts⟩ hK hN hP hl.1 ⟨Nat.le_of_ble_eq_true rfl, Nat.le_of_ble_eq_true rfl⟩ (c_X3_get l dC dI cI cB h1 h2 12 8 r 96 f p1 2 (by decide)) (cwV 2 hts gX2_refusal_X3_get rfl rfl rfl yd_X3_get ⟨Nat.le_of_ble_eq_true rfl, Nat.le_of_ble_eq_true rfl⟩) [1, 2] rfl 3 rfl rfl rfl rfl (Nat.le_of_ble_eq_true rfl) dX2_refusal_17 ?_
    refine lv_icmp_le (tgt := 25) hx hb dX2_refusal_20 (by decide) (fun c_2 => ?_) (fun c_2 => ?_)
    · refine lv_iload_n hx hb dX2_refusal_25 rfl (lv_at hl 2 rfl) ?_
      refine lv_aload_n hx hb dX2_refusal_26 rfl (lv_at hl 0 rfl) ?_
      refine lv_aload_n hx hb dX2_refusal_27 rfl (lv_at hl 0 rfl) ?_
      refine lv_iload_n hx hb dX2_refusal_28 rfl (lv_at hl 1 rfl) ?_
      refine vm_roVx (v := (f_X2_narrowestOfChain r f p1)) (As := [.int p1]) (rest := [.ref h0, .int p2]) (T := TX2) (N := 1) (wc := [(h0, .inr (2, [.ref h1])), (h1, .inr (3, [.ref h2, .int 12, .int 8, .int r])), (h2, .inl (cI, 96, .inl f))]) ⟨hx, hb, hml, hown, hts⟩ hK hN hP hl.1 ⟨Nat.le_of_ble_eq_true rfl, Nat.le_of_ble_eq_true rfl⟩ (c_X2_narrowestOfChain l dC dI cI cB h0 h1 h2 r f p1) (cwV 1 hts gX2_refusal_X2_narrowestOfChain rfl rfl rfl yd_X2_narrowestOfChain ⟨Nat.le_of_ble_eq_true rfl, Nat.le_of_ble_eq_true rfl⟩) [0, 1, 2] rfl 2 rfl rfl rfl rfl (Nat.le_of_ble_eq_true rfl) dX2_refusal_29 ?_
      refine vm_roVx (v := (f_X2_leftFor r f (f_X2_narrowestOfChain r f p1))) (As := [.int (f_X2_narrowestOfChain r f p1)]) (rest := [.int p2]) (T := TX2) (N := 1) (wc := [(h0, .inr (2, [.ref h1])), (h1, .inr (3, [.ref h2, .int 12, .int 8, .int r])), (h2, .inl (cI, 96, .inl f))]) ⟨hx, hb, hml, hown, hts⟩ hK hN hP hl.1 ⟨Nat.le_of_ble_eq_true rfl, Nat.le_of_ble_eq_true rfl⟩ (c_X2_leftFor l dC dI cI cB h0 h1 h2 r f (f_X2_narrowestOfChain r f p1)) (cwV 1 hts gX2_refusal_X2_leftFor rfl rfl rfl yd_X2_leftFor ⟨Nat.le_of_ble_eq_true rfl, Nat.le_of_ble_eq_true rfl⟩) [0, 1, 2] rfl 2 rfl rfl rfl rfl (Nat.le_of_ble_eq_true rfl) dX2_refusal_32 ?_
      refine lv_icmp_le (tgt := 42) hx hb dX2_refusal_35 (by decide) (fun c_3 => ?_) (fun c_3 => ?_)
      · refine lv_iconst (v := 0) hx hb dX2_refusal_42 (by decide) ?_
        have e9 : rr = 0 := eF.trans (by rw [f_X2_refusal, if_neg c_1, if_pos c_2, if_pos c_3])
        exact W.iret (v := 0) hx hb hr (fun t ht hW => ⟨_, rfl, e9.symm, ht⟩) (fun _ hq => by cases hq) dX2_refusal_43
      · refine lv_iconst (v := 3) hx hb dX2_refusal_38 (by decide) ?_
        refine lv_goto (tgt := 43) hx hb dX2_refusal_39 (by decide) ?_
        have e9 : rr = 3 := eF.trans (by rw [f_X2_refusal, if_neg c_1, if_pos c_2, if_neg c_3])
        exact W.iret (v := 3) hx hb hr (fun t ht hW => ⟨_, rfl, e9.symm, ht⟩) (fun _ hq => by cases hq) dX2_refusal_43
    · refine lv_iconst (v := 2) hx hb dX2_refusal_23 (by decide) ?_
      have e9 : rr = 2 := eF.trans (by rw [f_X2_refusal, if_neg c_1, if_neg c_2])
      exact W.iret (v := 2) hx hb hr (fun t ht hW => ⟨_, rfl, e9.symm, ht⟩) (fun _ hq => by cases hq) dX2_refusal_24
  · refine lv_iconst (v := 1) hx hb dX2_refusal_8 (by decide) ?_
    have e9 : rr = 1 := eF.trans (by rw [f_X2_refusal, if_pos c_1])
    exact W.iret (v := 1) hx hb hr (fun t ht hW => ⟨_, rfl, e9.symm, ht⟩) (fun _ hq => by cases hq) dX2_refusal_9

def f_X2_mostUrgent (r : Int32) (f : Nat → Int32) (p1 : Int32) : Int32 :=
  ((f_X3_get 8 r 96 f p1 2) / 2)
theorem yd_X2_mostUrgent : yX2_mostUrgent.cls = RX2 ∧ yX2_mostUrgent.cls ≠ "java/lang/invoke/MethodHandle" ∧ yX2_mostUrgent.cls ≠ "java/lang/invoke/VarHandle" ∧ (parseMethodDescriptor yX2_mostUrgent.desc).map (fun d => d.parameters.length) = some 1 := by decide +kernel
set_option maxHeartbeats 4000000 in
set_option maxRecDepth 100000 in
theorem c_X2_mostUrgent (l : Launch) (dC : Nat → ClassId) (dI : Nat → Nat → Nat) (cI cB : ClassId) (h0 h1 h2 : Nat) (r : Int32) (f : Nat → Int32) (p1 : Int32) : Met l yX2_mostUrgent wsX2_mostUrgent ({ frames := 1, cells := 0, slots := 0, locals := 23 }) (vm_pre [.ref h0, .int p1] (dC, dI) [(h0, .inr (2, [.ref h1])), (h1, .inr (3, [.ref h2, .int 12, .int 8, .int r])), (h2, .inl (cI, 96, .inl f))] cI cB) (vp_Si (fun r9 : Int32 => r9 = (f_X2_mostUrgent r f p1))) 0 0 (fun _ => False) := by
  refine Met.ofW (cc := cX2_mostUrgent) (maxL := 2) (ret := (some .int)) (by decide) rfl ?_
  intro p e s m args below meth c s₁ B hml hv
  obtain ⟨rfl, hP, hK, hN⟩ := hv
  have hx := B.exec
  have hb := B.bytes
  have hr := B.returns
  have hts := atoms_spec (ws := wsX2_mostUrgent) B.pre
  have hown : s.vm.findClass RX2 = some m.cls := findClass_of_methodNamed B.named
  have hlocks := B.notSynchronized
  have kw1 := hts (.fieldLink RX2 16 "LapseMandates$Mandates" "table" "LLapseMandates$Table;") (List.mem_of_getElem? (i := 1) rfl)
  have iwsX20 : ∀ w ∈ wsX20, w ∈ wsX2_mostUrgent := fun w h => List.mem_cons_of_mem _ (List.mem_append_left _ (List.mem_append_right _ h))
  generalize hrr : f_X2_mostUrgent r f p1 = rr
  have eF := hrr.symm
  have hl := lv_entry ([.ref h0, .int p1]) (n := 2) (Nat.le_of_ble_eq_true rfl)
  rw [lg_entry_eq]
  generalize (lg_sl ([.ref h0, .int p1]) ++ List.replicate (2 - (lg_sl ([.ref h0, .int p1])).length) Slot.unset).toArray = ls at hl ⊢
  have hl : lv_has ls 2 [(0, .ref h0), (1, .int p1)] := hl
  refine lv_aload_n hx hb dX2_mostUrgent_0 rfl (lv_at hl 0 rfl) ?_
  refine va_get (D := (dC, dI)) (ci := 2) (v := .ref h1) (C := RX2) (T := TX2) (N := 1) hx hb hts iwsX20 hown hK hP 0 rfl rfl 0 (by decide) kw1 (fun _ h9 => h9) rfl dX2_mostUrgent_1 ?_
  refine lv_iload_n hx hb dX2_mostUrgent_4 rfl (lv_at hl 1 rfl) ?_
  refine lv_iconst (v := 2) hx hb dX2_mostUrgent_5 (by decide) ?_
  refine vm_roVx (v := (f_X3_get 8 r 96 f p1 2)) (As := [.int p1, .int 2]) (rest := []) (T := TX3) (N := 4) (wc := [(h1, .inr (3, [.ref h2, .int 12, .int 8, .int r])), (h2, .inl (cI, 96, .inl f))]) ⟨hx, hb, hml, hown, hts⟩ hK hN hP hl.1 ⟨Nat.le_of_ble_eq_true rfl, Nat.le_of_ble_eq_true rfl⟩ (c_X3_get l dC dI cI cB h1 h2 12 8 r 96 f p1 2 (by decide)) (cwV 2 hts gX2_mostUrgent_X3_get rfl rfl rfl yd_X3_get ⟨Nat.le_of_ble_eq_true rfl, Nat.le_of_ble_eq_true rfl⟩) [1, 2] rfl 3 rfl rfl rfl rfl (Nat.le_of_ble_eq_true rfl) dX2_mostUrgent_6 ?_
  refine lv_iconst (v := 2) hx hb dX2_mostUrgent_9 (by decide) ?_
  refine lv_idiv hx hb dX2_mostUrgent_10 (by decide) ?_
  have e9 : rr = ((f_X3_get 8 r 96 f p1 2) / 2) := eF.trans (by rw [f_X2_mostUrgent])
  exact W.iret (v := ((f_X3_get 8 r 96 f p1 2) / 2)) hx hb hr (fun t ht hW => ⟨_, rfl, e9.symm, ht⟩) (fun _ hq => by cases hq) dX2_mostUrgent_11

def f_X2_greatestAmount_j31 (r : Int32) (f : Nat → Int32) (p1 : Int32) (s0_31 : Int32) : Int32 :=
  (if 0 < (if (f_X2_leftFor r f (f_X2_narrowestOfChain r f p1)) < s0_31 then (f_X2_leftFor r f (f_X2_narrowestOfChain r f p1)) else s0_31) then (if (f_X2_leftFor r f (f_X2_narrowestOfChain r f p1)) < s0_31 then (f_X2_leftFor r f (f_X2_narrowestOfChain r f p1)) else s0_31) else 0)
def f_X2_greatestAmount (r : Int32) (f : Nat → Int32) (p1 : Int32) (p2 : Int32) : Int32 :=
  if (vm_bi (f_X2_stands r f p1)) = 0 then
    0
  else
    if p2 = 0 then
      f_X2_greatestAmount_j31 r f p1 (f_X3_get 8 r 96 f p1 2)
    else
      f_X2_greatestAmount_j31 r f p1 (f_X2_mostUrgent r f p1)
theorem yd_X2_greatestAmount : yX2_greatestAmount.cls = RX2 ∧ yX2_greatestAmount.cls ≠ "java/lang/invoke/MethodHandle" ∧ yX2_greatestAmount.cls ≠ "java/lang/invoke/VarHandle" ∧ (parseMethodDescriptor yX2_greatestAmount.desc).map (fun d => d.parameters.length) = some 2 := by decide +kernel
set_option maxHeartbeats 4000000 in
set_option maxRecDepth 100000 in
theorem c_X2_greatestAmount (l : Launch) (dC : Nat → ClassId) (dI : Nat → Nat → Nat) (cI cB : ClassId) (h0 h1 h2 : Nat) (r : Int32) (f : Nat → Int32) (p1 : Int32) (p2 : Int32) : Met l yX2_greatestAmount wsX2_greatestAmount ({ frames := 3, cells := 0, slots := 0, locals := 68 }) (vm_pre [.ref h0, .int p1, .int p2] (dC, dI) [(h0, .inr (2, [.ref h1])), (h1, .inr (3, [.ref h2, .int 12, .int 8, .int r])), (h2, .inl (cI, 96, .inl f))] cI cB) (vp_Si (fun r9 : Int32 => r9 = (f_X2_greatestAmount r f p1 p2))) 0 0 (fun _ => False) := by
  refine Met.ofW (cc := cX2_greatestAmount) (maxL := 5) (ret := (some .int)) (by decide) rfl ?_
  intro p e s m args below meth c s₁ B hml hv
  obtain ⟨rfl, hP, hK, hN⟩ := hv
  have hx := B.exec
  have hb := B.bytes
  have hr := B.returns
  have hts := atoms_spec (ws := wsX2_greatestAmount) B.pre
  have hown : s.vm.findClass RX2 = some m.cls := findClass_of_methodNamed B.named
  have hlocks := B.notSynchronized
  have kw1 := hts (.fieldLink RX2 16 "LapseMandates$Mandates" "table" "LLapseMandates$Table;") (List.mem_of_getElem? (i := 1) rfl)
  have kw2 := hts (.methodLink RX2 81 Lib.Math.min.name) (List.mem_of_getElem? (i := 2) rfl)
  have kw3 := hts (.static Lib.Math.min.name) (List.mem_of_getElem? (i := 3) rfl)
  have kw4 := hts (.initialized "java/lang/Math") (List.mem_of_getElem? (i := 4) rfl)
  have kw5 := hts (.code Lib.Math.min.name Lib.Math.min.code 2 (some .int)) (List.mem_of_getElem? (i := 5) rfl)
  have kw6 := hts (.methodLink RX2 59 Lib.Math.max.name) (List.mem_of_getElem? (i := 6) rfl)
  have kw7 := hts (.static Lib.Math.max.name) (List.mem_of_getElem? (i := 7) rfl)
  have kw8 := hts (.code Lib.Math.max.name Lib.Math.max.code 2 (some .int)) (List.mem_of_getElem? (i := 8) rfl)
  have iwsX20 : ∀ w ∈ wsX20, w ∈ wsX2_greatestAmount := fun w h => List.mem_cons_of_mem _ (List.mem_append_left _ (List.mem_append_right _ h))
  generalize hrr : f_X2_greatestAmount r f p1 p2 = rr
  have eF := hrr.symm
  have hl := lv_entry ([.ref h0, .int p1, .int p2]) (n := 5) (Nat.le_of_ble_eq_true rfl)
  rw [lg_entry_eq]
  generalize (lg_sl ([.ref h0, .int p1, .int p2]) ++ List.replicate (5 - (lg_sl ([.ref h0, .int p1, .int p2])).length) Slot.unset).toArray = ls at hl ⊢
  have hl : lv_has ls 5 [(0, .ref h0), (1, .int p1), (2, .int p2)] := hl
  have hJ31 : ∀ (s0_31 : Int32), rr = f_X2_greatestAmount_j31 r f p1 s0_31 → ∀ (ls : Array Slot), lv_has ls 5 [(0, .ref h0), (1, .int p1)] → W p l e (headSpec wsX2_greatestAmount ({ frames := 3, cells := 0, slots := 0, locals := 68 })).room s m ([.ref h0, .int p1, .int p2] : List Value).toArray below meth c s.heap [] 0 0 (MQ below (vp_Si (fun r9 : Int32 => r9 = rr)) ([.ref h0, .int p1, .int p2] : List Value).toArray s 0 0 (fun _ => False)) (F0 m 31 ls [.int s0_31]) := by
    intro s0_31 eF ls hl
    refine lv_istore_n (lv' := [(3, .int s0_31), (0, .ref h0), (1, .int p1)]) hx hb dX2_greatestAmount_31 rfl hl (by decide) rfl (fun ls hl => ?_)
    refine lv_aload_n hx hb dX2_greatestAmount_32 rfl (lv_at hl 1 rfl) ?_
    refine lv_aload_n hx hb dX2_greatestAmount_33 rfl (lv_at hl 1 rfl) ?_
    refine lv_iload_n hx hb dX2_greatestAmount_34 rfl (lv_at hl 2 rfl) ?_
    refine vm_roVx (v := (f_X2_narrowestOfChain r f p1)) (As := [.int p1]) (rest := [.ref h0]) (T := TX2) (N := 1) (wc := [(h0, .inr (2, [.ref h1])), (h1, .inr (3, [.ref h2, .int 12, .int 8, .int r])), (h2, .inl (cI, 96, .inl f))]) ⟨hx, hb, hml, hown, hts⟩ hK hN hP hl.1 ⟨Nat.le_of_ble_eq_true rfl, Nat.le_of_ble_eq_true rfl⟩ (c_X2_narrowestOfChain l dC dI cI cB h0 h1 h2 r f p1) (cwV 1 hts gX2_greatestAmount_X2_narrowestOfChain rfl rfl rfl yd_X2_narrowestOfChain ⟨Nat.le_of_ble_eq_true rfl, Nat.le_of_ble_eq_true rfl⟩) [0, 1, 2] rfl 2 rfl rfl rfl rfl (Nat.le_of_ble_eq_true rfl) dX2_greatestAmount_35 ?_
    refine vm_roVx (v := (f_X2_leftFor r f (f_X2_narrowestOfChain r f p1))) (As := [.int (f_X2_narrowestOfChain r f p1)]) (rest := []) (T := TX2) (N := 1) (wc := [(h0, .inr (2, [.ref h1])), (h1, .inr (3, [.ref h2, .int 12, .int 8, .int r])), (h2, .inl (cI, 96, .inl f))]) ⟨hx, hb, hml, hown, hts⟩ hK hN hP hl.1 ⟨Nat.le_of_ble_eq_true rfl, Nat.le_of_ble_eq_true rfl⟩ (c_X2_leftFor l dC dI cI cB h0 h1 h2 r f (f_X2_narrowestOfChain r f p1)) (cwV 1 hts gX2_greatestAmount_X2_leftFor rfl rfl rfl yd_X2_leftFor ⟨Nat.le_of_ble_eq_true rfl, Nat.le_of_ble_eq_true rfl⟩) [0, 1, 2] rfl 2 rfl rfl rfl rfl (Nat.le_of_ble_eq_true rfl) dX2_greatestAmount_38 ?_
    refine lv_istore (lv' := [(4, .int (f_X2_leftFor r f (f_X2_narrowestOfChain r f p1))), (3, .int s0_31), (0, .ref h0), (1, .int p1)]) hx hb dX2_greatestAmount_41 hl (by decide) rfl (fun ls hl => ?_)
    refine lv_iconst (v := 0) hx hb dX2_greatestAmount_43 (by decide) ?_
    refine lv_iload_n hx hb dX2_greatestAmount_44 rfl (lv_at hl 1 rfl) ?_
    refine lv_iload hx hb dX2_greatestAmount_45 (lv_at hl 0 rfl) ?_
    refine va_mmin hx hb (hml.trans hl.1.symm) hown kw2 kw3 kw4 kw5 (Nat.le_of_ble_eq_true rfl) (Nat.le_of_ble_eq_true rfl) (Nat.le_of_ble_eq_true rfl) (Nat.le_of_ble_eq_true rfl) dX2_greatestAmount_47 ?_
    refine va_mmax hx hb (hml.trans hl.1.symm) hown kw6 kw7 kw4 kw8 (Nat.le_of_ble_eq_true rfl) (Nat.le_of_ble_eq_true rfl) (Nat.le_of_ble_eq_true rfl) (Nat.le_of_ble_eq_true rfl) dX2_greatestAmount_50 ?_
    have e9 : rr = (if 0 < (if (f_X2_leftFor r f (f_X2_narrowestOfChain r f p1)) < s0_31 then (f_X2_leftFor r f (f_X2_narrowestOfChain r f p1)) else s0_31) then (if (f_X2_leftFor r f (f_X2_narrowestOfChain r f p1)) < s0_31 then (f_X2_leftFor r f (f_X2_narrowestOfChain r f p1)) else s0_31) else 0) := eF.trans (by rw [f_X2_greatestAmount_j31])
    exact W.iret (v := (if 0 < (if (f_X2_leftFor r f (f_X2_narrowestOfChain r f p1)) < s0_31 then (f_X2_leftFor r f (f_X2_narrowestOfChain r f p1)) else s0_31) then (if (f_X2_leftFor r f (f_X2_narrowestOfChain r f p1)) < s0_31 then (f_X2_leftFor r f (f_X2_narrowestOfChain r f p1)) else s0_31) else 0)) hx hb hr (fun t ht hW => ⟨_, rfl, e9.symm, ht⟩) (fun _ hq => by cases hq) dX2_greatestAmount_53
  refine lv_aload_n hx hb dX2_greatestAmount_0 rfl (lv_at hl 0 rfl) ?_
  refine lv_iload_n hx hb dX2_greatestAmount_1 rfl (lv_at hl 1 rfl) ?_
  refine vm_roVx (v := vm_bi (f_X2_stands r f p1)) (As := [.int p1]) (rest := []) (T := TX2) (N := 1) (wc := [(h0, .inr (2, [.ref h1])), (h1, .inr (3, [.ref h2, .int 12, .int 8, .int r])), (h2, .inl (cI, 96, .inl f))]) ⟨hx, hb, hml, hown, hts⟩ hK hN hP hl.1 ⟨Nat.le_of_ble_eq_true rfl, Nat.le_of_ble_eq_true rfl⟩ (c_X2_stands l dC dI cI cB h0 h1 h2 r f p1) (cwV 1 hts gX2_greatestAmount_X2_stands rfl rfl rfl yd_X2_stands ⟨Nat.le_of_ble_eq_true rfl, Nat.le_of_ble_eq_true rfl⟩) [0, 1, 2] rfl 2 rfl rfl rfl rfl (Nat.le_of_ble_eq_true rfl) dX2_greatestAmount_2 ?_
  refine lv_if_ne (tgt := 10) hx hb dX2_greatestAmount_5 (by decide) (fun c_1 => ?_) (fun c_1 => ?_)
  · refine lv_iload_n hx hb dX2_greatestAmount_10 rfl (lv_at hl 2 rfl) ?_
    refine lv_if_eq (tgt := 22) hx hb dX2_greatestAmount_11 (by decide) (fun c_2 => ?_) (fun c_2 => ?_)
    · refine lv_aload_n hx hb dX2_greatestAmount_22 rfl (lv_at hl 0 rfl) ?_
      refine va_get (D := (dC, dI)) (ci := 2) (v := .ref h1) (C := RX2) (T := TX2) (N := 1) hx hb hts iwsX20 hown hK hP 0 rfl rfl 0 (by decide) kw1 (fun _ h9 => h9) rfl dX2_greatestAmount_23 ?_
      refine lv_iload_n hx hb dX2_greatestAmount_26 rfl (lv_at hl 1 rfl) ?_
      refine lv_iconst (v := 2) hx hb dX2_greatestAmount_27 (by decide) ?_
      refine vm_roVx (v := (f_X3_get 8 r 96 f p1 2)) (As := [.int p1, .int 2]) (rest := []) (T := TX3) (N := 4) (wc := [(h1, .inr (3, [.ref h2, .int 12, .int 8, .int r])), (h2, .inl (cI, 96, .inl f))]) ⟨hx, hb, hml, hown, hts⟩ hK hN hP hl.1 ⟨Nat.le_of_ble_eq_true rfl, Nat.le_of_ble_eq_true rfl⟩ (c_X3_get l dC dI cI cB h1 h2 12 8 r 96 f p1 2 (by decide)) (cwV 2 hts gX2_greatestAmount_X3_get rfl rfl rfl yd_X3_get ⟨Nat.le_of_ble_eq_true rfl, Nat.le_of_ble_eq_true rfl⟩) [1, 2] rfl 3 rfl rfl rfl rfl (Nat.le_of_ble_eq_true rfl) dX2_greatestAmount_28 ?_
      exact hJ31 (f_X3_get 8 r 96 f p1 2) (eF.trans (by rw [f_X2_greatestAmount, if_neg c_1, if_pos c_2])) ls (lv_sub hl [0, 1] rfl)
    · refine lv_aload_n hx hb dX2_greatestAmount_14 rfl (lv_at hl 0 rfl) ?_
      refine lv_iload_n hx hb dX2_greatestAmount_15 rfl (lv_at hl 1 rfl) ?_
      refine vm_roVx (v := (f_X2_mostUrgent r f p1)) (As := [.int p1]) (rest := []) (T := TX2) (N := 1) (wc := [(h0, .inr (2, [.ref h1])), (h1, .inr (3, [.ref h2, .int 12, .int 8, .int r])), (h2, .inl (cI, 96, .inl f))]) ⟨hx, hb, hml, hown, hts⟩ hK hN hP hl.1 ⟨Nat.le_of_ble_eq_true rfl, Nat.le_of_ble_eq_true rfl⟩ (c_X2_mostUrgent l dC dI cI cB h0 h1 h2 r f p1) (cwV 1 hts gX2_greatestAmount_X2_mostUrgent rfl rfl rfl yd_X2_mostUrgent ⟨Nat.le_of_ble_eq_true rfl, Nat.le_of_ble_eq_true rfl⟩) [0, 1, 2] rfl 2 rfl rfl rfl rfl (Nat.le_of_ble_eq_true rfl) dX2_greatestAmount_16 ?_
      refine lv_goto (tgt := 31) hx hb dX2_greatestAmount_19 (by decide) ?_
      exact hJ31 (f_X2_mostUrgent r f p1) (eF.trans (by rw [f_X2_greatestAmount, if_neg c_1, if_neg c_2])) ls (lv_sub hl [0, 1] rfl)
  · refine lv_iconst (v := 0) hx hb dX2_greatestAmount_8 (by decide) ?_
    have e9 : rr = 0 := eF.trans (by rw [f_X2_greatestAmount, if_pos c_1])
    exact W.iret (v := 0) hx hb hr (fun t ht hW => ⟨_, rfl, e9.symm, ht⟩) (fun _ hq => by cases hq) dX2_greatestAmount_9

def f_X2_shareUsed (r : Int32) (f : Nat → Int32) (p1 : Int32) : UInt64 :=
  if 0 < (f_X3_get 8 r 96 f p1 3) then
    (FP.ddiv (FP.i2d (f_X3_get 8 r 96 f p1 6)) (FP.i2d (f_X3_get 8 r 96 f p1 3)))
  else
    FP.dconst0
def o_X2_shareUsed (r : Int32) (f : Nat → Int32) (p1 : Int32) : Prop :=
  if 0 < (f_X3_get 8 r 96 f p1 3) then
    vf_n64 (FP.ddiv (FP.i2d (f_X3_get 8 r 96 f p1 6)) (FP.i2d (f_X3_get 8 r 96 f p1 3))) ∧
    (True)
  else
    True
theorem yd_X2_shareUsed : yX2_shareUsed.cls = RX2 ∧ yX2_shareUsed.cls ≠ "java/lang/invoke/MethodHandle" ∧ yX2_shareUsed.cls ≠ "java/lang/invoke/VarHandle" ∧ (parseMethodDescriptor yX2_shareUsed.desc).map (fun d => d.parameters.length) = some 1 := by decide +kernel
set_option maxHeartbeats 4000000 in
set_option maxRecDepth 100000 in
theorem c_X2_shareUsed (l : Launch) (dC : Nat → ClassId) (dI : Nat → Nat → Nat) (cI cB : ClassId) (h0 h1 h2 : Nat) (r : Int32) (f : Nat → Int32) (p1 : Int32) (eO : o_X2_shareUsed r f p1) : Met l yX2_shareUsed wsX2_shareUsed ({ frames := 1, cells := 0, slots := 0, locals := 23 }) (vm_pre [.ref h0, .int p1] (dC, dI) [(h0, .inr (2, [.ref h1])), (h1, .inr (3, [.ref h2, .int 12, .int 8, .int r])), (h2, .inl (cI, 96, .inl f))] cI cB) (vp_Sd (fun r9 : UInt64 => r9 = (f_X2_shareUsed r f p1))) 0 0 (fun _ => False) := by
  refine Met.ofW (cc := cX2_shareUsed) (maxL := 3) (ret := (some .double)) (by decide) rfl ?_
  intro p e s m args below meth c s₁ B hml hv
  obtain ⟨rfl, hP, hK, hN⟩ := hv
  have hx := B.exec
  have hb := B.bytes
  have hr := B.returns
  have hts := atoms_spec (ws := wsX2_shareUsed) B.pre
  have hown : s.vm.findClass RX2 = some m.cls := findClass_of_methodNamed B.named
  have hlocks := B.notSynchronized
  have kw1 := hts (.fieldLink RX2 16 "LapseMandates$Mandates" "table" "LLapseMandates$Table;") (List.mem_of_getElem? (i := 1) rfl)
  have iwsX20 : ∀ w ∈ wsX20, w ∈ wsX2_shareUsed := fun w h => List.mem_cons_of_mem _ (List.mem_append_left _ (List.mem_append_right _ h))
  generalize hrr : f_X2_shareUsed r f p1 = rr
  have eF := hrr.symm
  have hl := lv_entry ([.ref h0, .int p1]) (n := 3) (Nat.le_of_ble_eq_true rfl)
  rw [lg_entry_eq]
  generalize (lg_sl ([.ref h0, .int p1]) ++ List.replicate (3 - (lg_sl ([.ref h0, .int p1])).length) Slot.unset).toArray = ls at hl ⊢
  have hl : lv_has ls 3 [(0, .ref h0), (1, .int p1)] := hl
  rw [o_X2_shareUsed] at eO
  refine lv_aload_n hx hb dX2_shareUsed_0 rfl (lv_at hl 0 rfl) ?_
  refine va_get (D := (dC, dI)) (ci := 2) (v := .ref h1) (C := RX2) (T := TX2) (N := 1) hx hb hts iwsX20 hown hK hP 0 rfl rfl 0 (by decide) kw1 (fun _ h9 => h9) rfl dX2_shareUsed_1 ?_
  refine lv_iload_n hx hb dX2_shareUsed_4 rfl (lv_at hl 1 rfl) ?_
  refine lv_iconst (v := 3) hx hb dX2_shareUsed_5 (by decide) ?_
  refine vm_roVx (v := (f_X3_get 8 r 96 f p1 3)) (As := [.int p1, .int 3]) (rest := []) (T := TX3) (N := 4) (wc := [(h1, .inr (3, [.ref h2, .int 12, .int 8, .int r])), (h2, .inl (cI, 96, .inl f))]) ⟨hx, hb, hml, hown, hts⟩ hK hN hP hl.1 ⟨Nat.le_of_ble_eq_true rfl, Nat.le_of_ble_eq_true rfl⟩ (c_X3_get l dC dI cI cB h1 h2 12 8 r 96 f p1 3 (by decide)) (cwV 2 hts gX2_shareUsed_X3_get rfl rfl rfl yd_X3_get ⟨Nat.le_of_ble_eq_true rfl, Nat.le_of_ble_eq_true rfl⟩) [1, 2] rfl 3 rfl rfl rfl rfl (Nat.le_of_ble_eq_true rfl) dX2_shareUsed_6 ?_
  refine lv_istore_n (lv' := [(2, .int (f_X3_get 8 r 96 f p1 3)), (0, .ref h0), (1, .int p1)]) hx hb dX2_shareUsed_9 rfl hl (by decide) rfl (fun ls hl => ?_)
  refine lv_iload_n hx hb dX2_shareUsed_10 rfl (lv_at hl 0 rfl) ?_
  refine lv_if_gt (tgt := 18) hx hb dX2_shareUsed_11 (by decide) (fun c_1 => ?_) (fun c_1 => ?_)
  · rw [if_pos c_1] at eO
    refine lv_aload_n hx hb dX2_shareUsed_18 rfl (lv_at hl 1 rfl) ?_
    refine va_get (D := (dC, dI)) (ci := 2) (v := .ref h1) (C := RX2) (T := TX2) (N := 1) hx hb hts iwsX20 hown hK hP 0 rfl rfl 0 (by decide) kw1 (fun _ h9 => h9) rfl dX2_shareUsed_19 ?_
    refine lv_iload_n hx hb dX2_shareUsed_22 rfl (lv_at hl 2 rfl) ?_
    refine lv_bipush (v := 6) hx hb dX2_shareUsed_23 (by decide) ?_
    refine vm_roVx (v := (f_X3_get 8 r 96 f p1 6)) (As := [.int p1, .int 6]) (rest := []) (T := TX3) (N := 4) (wc := [(h1, .inr (3, [.ref h2, .int 12, .int 8, .int r])), (h2, .inl (cI, 96, .inl f))]) ⟨hx, hb, hml, hown, hts⟩ hK hN hP hl.1 ⟨Nat.le_of_ble_eq_true rfl, Nat.le_of_ble_eq_true rfl⟩ (c_X3_get l dC dI cI cB h1 h2 12 8 r 96 f p1 6 (by decide)) (cwV 2 hts gX2_shareUsed_X3_get rfl rfl rfl yd_X3_get ⟨Nat.le_of_ble_eq_true rfl, Nat.le_of_ble_eq_true rfl⟩) [1, 2] rfl 3 rfl rfl rfl rfl (Nat.le_of_ble_eq_true rfl) dX2_shareUsed_25 ?_
    refine lv_i2d hx hb dX2_shareUsed_28 ?_
    refine lv_iload_n hx hb dX2_shareUsed_29 rfl (lv_at hl 0 rfl) ?_
    refine lv_i2d hx hb dX2_shareUsed_30 ?_
    obtain ⟨hv_2, eO⟩ := eO
    refine lv_ddiv hx hb dX2_shareUsed_31 hv_2 ?_
    have e9 : rr = (FP.ddiv (FP.i2d (f_X3_get 8 r 96 f p1 6)) (FP.i2d (f_X3_get 8 r 96 f p1 3))) := eF.trans (by rw [f_X2_shareUsed, if_pos c_1])
    exact W.dret (v := (FP.ddiv (FP.i2d (f_X3_get 8 r 96 f p1 6)) (FP.i2d (f_X3_get 8 r 96 f p1 3)))) hx hb hr (fun t ht hW => ⟨_, rfl, e9.symm, ht⟩) (fun _ hq => by cases hq) dX2_shareUsed_32
  · rw [if_neg c_1] at eO
    refine lv_dconst0 hx hb dX2_shareUsed_14 ?_
    refine lv_goto (tgt := 32) hx hb dX2_shareUsed_15 (by decide) ?_
    have e9 : rr = FP.dconst0 := eF.trans (by rw [f_X2_shareUsed, if_neg c_1])
    exact W.dret (v := FP.dconst0) hx hb hr (fun t ht hW => ⟨_, rfl, e9.symm, ht⟩) (fun _ hq => by cases hq) dX2_shareUsed_32

def f_X2_addSpending_c60 (r : Int32) (x3_27 : Int32) (x4_27 : Int32) (kj27 : Int32 → Int32 → (Nat → Int32) → (Nat → Int32)) (f_c60 : Nat → Int32) : (Nat → Int32) :=
  kj27 (f_X3_get 8 r 96 f_c60 x3_27 0) (x4_27 + 1) f_c60
def f_X2_addSpending_j27 (r : Int32) (p2 : Int32) : Nat → Int32 → Int32 → (Nat → Int32) → (Nat → Int32)
  | 0, _, _, _ => (fun _ => 0)
  | n27 + 1, x3_27, x4_27, f_27 => if 12 ≤ x4_27 then
      f_27
    else
      if x3_27 < 0 then
        f_27
      else
        f_X2_addSpending_c60 r x3_27 x4_27 (f_X2_addSpending_j27 r p2 n27) (f_X3_put 8 r 96 f_27 x3_27 6 ((f_X3_get 8 r 96 f_27 x3_27 6) + p2))
def f_X2_addSpending_c22 (r : Int32) (p1 : Int32) (p2 : Int32) (f_c22 : Nat → Int32) : (Nat → Int32) :=
  f_X2_addSpending_j27 r p2 ((((12 : Int32)).toInt - ((0 : Int32)).toInt).toNat + 1) p1 0 f_c22
def f_X2_addSpending (r : Int32) (f : Nat → Int32) (p1 : Int32) (p2 : Int32) : (Nat → Int32) :=
  f_X2_addSpending_c22 r p1 p2 (f_X3_put 8 r 96 f p1 7 ((f_X3_get 8 r 96 f p1 7) + p2))
theorem yd_X2_addSpending : yX2_addSpending.cls = RX2 ∧ yX2_addSpending.cls ≠ "java/lang/invoke/MethodHandle" ∧ yX2_addSpending.cls ≠ "java/lang/invoke/VarHandle" ∧ (parseMethodDescriptor yX2_addSpending.desc).map (fun d => d.parameters.length) = some 2 := by decide +kernel
set_option maxHeartbeats 4000000 in
set_option maxRecDepth 100000 in
theorem c_X2_addSpending (l : Launch) (dC : Nat → ClassId) (dI : Nat → Nat → Nat) (cI cB : ClassId) (h0 h1 h2 : Nat) (sz : Nat) (r : Int32) (f : Nat → Int32) (p1 : Int32) (p2 : Int32) : Met l yX2_addSpending wsX2_addSpending ({ frames := 1, cells := 0, slots := 0, locals := 24 }) (vm_prw [.ref h0, .int p1, .int p2] (dC, dI) [(h0, .inr (2, [.ref h1])), (h1, .inr (3, [.ref h2, .int 12, .int 8, .int r])), (h2, .inl (cI, 96, .inl f))] cI cB sz) (va_Qv (fun _ : Unit => True) (fun _ t => va_P (dC, dI) vwCl [(h0, .inr (2, [.ref h1])), (h1, .inr (3, [.ref h2, .int 12, .int 8, .int r])), (h2, .inl (cI, 96, .inl (f_X2_addSpending r f p1 p2)))] t.heap) (va_A [(h0, .inr (2, [.ref h1])), (h1, .inr (3, [.ref h2, .int 12, .int 8, .int r])), (h2, .inl (cI, 96, .inl f))] sz)) 0 0 (va_A [(h0, .inr (2, [.ref h1])), (h1, .inr (3, [.ref h2, .int 12, .int 8, .int r])), (h2, .inl (cI, 96, .inl f))] sz) := by
  refine Met.ofW (cc := cX2_addSpending) (maxL := 5) (ret := none) (by decide) rfl ?_
  intro p e s m args below meth c s₁ B hml hv
  obtain ⟨rfl, hsz, hP, hK, hN, hD0⟩ := hv
  have hx := B.exec
  have hb := B.bytes
  have hr := B.returns
  have hts := atoms_spec (ws := wsX2_addSpending) B.pre
  have hown : s.vm.findClass RX2 = some m.cls := findClass_of_methodNamed B.named
  have hlocks := B.notSynchronized
  subst hsz
  have hD := hD0.self (sz := s.heap.size)
  generalize hAe : va_A [(h0, .inr (2, [.ref h1])), (h1, .inr (3, [.ref h2, .int 12, .int 8, .int r])), (h2, .inl (cI, 96, .inl f))] s.heap.size = A at hD ⊢
  have hA : ∀ q : Nat, s.heap.size ≤ q → A q := fun q h => by rw [← hAe]; exact Or.inr h
  have hS : va_S A s.heap s.heap [] := va_S.rf
  have hP : va_P (dC, dI) vwCl [(h0, .inr (2, [.ref h1])), (h1, .inr (3, [.ref h2, .int 12, .int 8, .int r])), (h2, .inl (cI, 96, .inl f))] s.heap := hP
  have kw1 := hts (.fieldLink RX2 16 "LapseMandates$Mandates" "table" "LLapseMandates$Table;") (List.mem_of_getElem? (i := 1) rfl)
  have iwsX20 : ∀ w ∈ wsX20, w ∈ wsX2_addSpending := fun w h => List.mem_cons_of_mem _ (List.mem_append_left _ (List.mem_append_right _ h))
  generalize hrr : f_X2_addSpending r f p1 p2 = rr
  have eF := hrr.symm
  have hl := lv_entry ([.ref h0, .int p1, .int p2]) (n := 5) (Nat.le_of_ble_eq_true rfl)
  rw [lg_entry_eq]
  generalize (lg_sl ([.ref h0, .int p1, .int p2]) ++ List.replicate (5 - (lg_sl ([.ref h0, .int p1, .int p2])).length) Slot.unset).toArray = ls at hl ⊢
  have hl : lv_has ls 5 [(0, .ref h0), (1, .int p1), (2, .int p2)] := hl
  have hJ27 : ∀ (n27 : Nat) (x3_27 : Int32) (x4_27 : Int32) (f_27 : Nat → Int32), (((12 : Int32)).toInt - (x4_27).toInt).toNat < n27 → 0 ≤ x4_27 → rr = f_X2_addSpending_j27 r p2 n27 x3_27 x4_27 f_27 → ∀ (H : Heap) (locs : List Loc), va_P (dC, dI) vwCl [(h0, .inr (2, [.ref h1])), (h1, .inr (3, [.ref h2, .int 12, .int 8, .int r])), (h2, .inl (cI, 96, .inl f_27))] H → va_D A [(h0, .inr (2, [.ref h1])), (h1, .inr (3, [.ref h2, .int 12, .int 8, .int r])), (h2, .inl (cI, 96, .inl f_27))] → va_S A s.heap H locs → ∀ (ls : Array Slot), lv_has ls 5 [(0, .ref h0), (2, .int p2), (3, .int x3_27), (4, .int x4_27)] → W p l e (headSpec wsX2_addSpending ({ frames := 1, cells := 0, slots := 0, locals := 24 })).room s m ([.ref h0, .int p1, .int p2] : List Value).toArray below meth c H locs 0 0 (MQ below (va_Qv (fun _ : Unit => True) (fun _ t => va_P (dC, dI) vwCl [(h0, .inr (2, [.ref h1])), (h1, .inr (3, [.ref h2, .int 12, .int 8, .int r])), (h2, .inl (cI, 96, .inl rr))] t.heap) A) ([.ref h0, .int p1, .int p2] : List Value).toArray s 0 0 A) (F0 m 27 ls []) := by
    intro n27
    induction n27 with
    | zero =>
      intro x3_27 x4_27 f_27 hm27
      exact absurd hm27 (Nat.not_lt_zero _)
    | succ n27 ih27 =>
      intro x3_27 x4_27 f_27 hm27 hi27 eF H locs hP hD hS ls hl
      refine lv_iload hx hb dX2_addSpending_27 (lv_at hl 3 rfl) ?_
      refine lv_bipush (v := 12) hx hb dX2_addSpending_29 (by decide) ?_
      refine lv_icmp_ge (tgt := 76) hx hb dX2_addSpending_31 (by decide) (fun cL27 => ?_) (fun cL27 => ?_)
      · have e9 : rr = f_27 := eF.trans (by rw [f_X2_addSpending_j27, if_pos cL27])
        exact W.vret hx hb hr (fun t ht hW => ⟨⟨(), rfl, trivial, (by rw [e9]; show va_P _ _ _ t.heap; rw [ht]; exact hP)⟩, hS.F ht⟩) hS.2.2 dX2_addSpending_76
      · refine lv_iload_n hx hb dX2_addSpending_34 rfl (lv_at hl 2 rfl) ?_
        refine lv_if_lt (tgt := 76) hx hb dX2_addSpending_35 (by decide) (fun c_2 => ?_) (fun c_2 => ?_)
        · have e9 : rr = f_27 := eF.trans (by rw [f_X2_addSpending_j27, if_neg cL27, if_pos c_2])
          exact W.vret hx hb hr (fun t ht hW => ⟨⟨(), rfl, trivial, (by rw [e9]; show va_P _ _ _ t.heap; rw [ht]; exact hP)⟩, hS.F ht⟩) hS.2.2 dX2_addSpending_76
        · refine lv_aload_n hx hb dX2_addSpending_38 rfl (lv_at hl 0 rfl) ?_
          refine va_get (D := (dC, dI)) (ci := 2) (v := .ref h1) (C := RX2) (T := TX2) (N := 1) hx hb hts iwsX20 hown hK hP 0 rfl rfl 0 (by decide) kw1 (fun _ h9 => h9) rfl dX2_addSpending_39 ?_
          refine lv_iload_n hx hb dX2_addSpending_42 rfl (lv_at hl 2 rfl) ?_
          refine lv_bipush (v := 6) hx hb dX2_addSpending_43 (by decide) ?_
          refine lv_aload_n hx hb dX2_addSpending_45 rfl (lv_at hl 0 rfl) ?_
          refine va_get (D := (dC, dI)) (ci := 2) (v := .ref h1) (C := RX2) (T := TX2) (N := 1) hx hb hts iwsX20 hown hK hP 0 rfl rfl 0 (by decide) kw1 (fun _ h9 => h9) rfl dX2_addSpending_46 ?_
          refine lv_iload_n hx hb dX2_addSpending_49 rfl (lv_at hl 2 rfl) ?_
          refine lv_bipush (v := 6) hx hb dX2_addSpending_50 (by decide) ?_
          refine vm_roVx (v := (f_X3_get 8 r 96 f_27 x3_27 6)) (As := [.int x3_27, .int 6]) (rest := [.int 6, .int x3_27, .ref h1]) (T := TX3) (N := 4) (wc := [(h1, .inr (3, [.ref h2, .int 12, .int 8, .int r])), (h2, .inl (cI, 96, .inl f_27))]) ⟨hx, hb, hml, hown, hts⟩ hK hN hP hl.1 ⟨Nat.le_of_ble_eq_true rfl, Nat.le_of_ble_eq_true rfl⟩ (c_X3_get l dC dI cI cB h1 h2 12 8 r 96 f_27 x3_27 6 (by decide)) (cwV 2 hts gX2_addSpending_X3_get rfl rfl rfl yd_X3_get ⟨Nat.le_of_ble_eq_true rfl, Nat.le_of_ble_eq_true rfl⟩) [1, 2] rfl 3 rfl rfl rfl rfl (Nat.le_of_ble_eq_true rfl) dX2_addSpending_52 ?_
          refine lv_iload_n hx hb dX2_addSpending_55 rfl (lv_at hl 1 rfl) ?_
          refine lv_iadd hx hb dX2_addSpending_56 ?_
          refine vm_rwVv (As := [.int x3_27, .int 6, .int ((f_X3_get 8 r 96 f_27 x3_27 6) + p2)]) (rest := []) (T := TX3) (N := 4) (wc := [(h1, .inr (3, [.ref h2, .int 12, .int 8, .int r])), (h2, .inl (cI, 96, .inl f_27))]) (w1 := [(h1, .inr (3, [.ref h2, .int 12, .int 8, .int r])), (h2, .inl (cI, 96, .inl (f_X3_put 8 r 96 f_27 x3_27 6 ((f_X3_get 8 r 96 f_27 x3_27 6) + p2))))]) ⟨hx, hb, hml, hown, hts⟩ hK hN hP hD hS hA hl.1 ⟨Nat.le_of_ble_eq_true rfl, Nat.le_of_ble_eq_true rfl⟩ (c_X3_put l dC dI cI cB h1 h2 _ 12 8 r 96 f_27 x3_27 6 ((f_X3_get 8 r 96 f_27 x3_27 6) + p2) (by decide)) (cwV 3 hts gX2_addSpending_X3_put rfl rfl rfl yd_X3_put ⟨Nat.le_of_ble_eq_true rfl, Nat.le_of_ble_eq_true rfl⟩) [1, 2] rfl rfl rfl 3 rfl rfl rfl rfl (Nat.le_of_ble_eq_true rfl) dX2_addSpending_57 (fun H locs hP hD hS => ?_)
          have hP : va_P (dC, dI) vwCl [(h0, .inr (2, [.ref h1])), (h1, .inr (3, [.ref h2, .int 12, .int 8, .int r])), (h2, .inl (cI, 96, .inl (f_X3_put 8 r 96 f_27 x3_27 6 ((f_X3_get 8 r 96 f_27 x3_27 6) + p2))))] H := hP
          have hD : va_D A [(h0, .inr (2, [.ref h1])), (h1, .inr (3, [.ref h2, .int 12, .int 8, .int r])), (h2, .inl (cI, 96, .inl (f_X3_put 8 r 96 f_27 x3_27 6 ((f_X3_get 8 r 96 f_27 x3_27 6) + p2))))] := hD
          obtain ⟨f_c60, ef_c60⟩ : ∃ z, z = (f_X3_put 8 r 96 f_27 x3_27 6 ((f_X3_get 8 r 96 f_27 x3_27 6) + p2)) := ⟨_, rfl⟩
          rw [← ef_c60] at hP hD
          have eF : rr = f_X2_addSpending_c60 r x3_27 x4_27 (f_X2_addSpending_j27 r p2 n27) f_c60 := eF.trans (by rw [f_X2_addSpending_j27, if_neg cL27, if_neg c_2, ef_c60])
          refine lv_aload_n hx hb dX2_addSpending_60 rfl (lv_at hl 0 rfl) ?_
          refine va_get (D := (dC, dI)) (ci := 2) (v := .ref h1) (C := RX2) (T := TX2) (N := 1) hx hb hts iwsX20 hown hK hP 0 rfl rfl 0 (by decide) kw1 (fun _ h9 => h9) rfl dX2_addSpending_61 ?_
          refine lv_iload_n hx hb dX2_addSpending_64 rfl (lv_at hl 2 rfl) ?_
          refine lv_iconst (v := 0) hx hb dX2_addSpending_65 (by decide) ?_
          refine vm_roVx (v := (f_X3_get 8 r 96 f_c60 x3_27 0)) (As := [.int x3_27, .int 0]) (rest := []) (T := TX3) (N := 4) (wc := [(h1, .inr (3, [.ref h2, .int 12, .int 8, .int r])), (h2, .inl (cI, 96, .inl f_c60))]) ⟨hx, hb, hml, hown, hts⟩ hK hN hP hl.1 ⟨Nat.le_of_ble_eq_true rfl, Nat.le_of_ble_eq_true rfl⟩ (c_X3_get l dC dI cI cB h1 h2 12 8 r 96 f_c60 x3_27 0 (by decide)) (cwV 2 hts gX2_addSpending_X3_get rfl rfl rfl yd_X3_get ⟨Nat.le_of_ble_eq_true rfl, Nat.le_of_ble_eq_true rfl⟩) [1, 2] rfl 3 rfl rfl rfl rfl (Nat.le_of_ble_eq_true rfl) dX2_addSpending_66 ?_
          refine lv_istore_n (lv' := [(3, .int (f_X3_get 8 r 96 f_c60 x3_27 0)), (0, .ref h0), (2, .int p2), (4, .int x4_27)]) hx hb dX2_addSpending_69 rfl hl (by decide) rfl (fun ls hl => ?_)
          refine lv_iinc (v := (x4_27 + 1)) (lv' := [(4, .int (x4_27 + 1)), (3, .int (f_X3_get 8 r 96 f_c60 x3_27 0)), (0, .ref h0), (2, .int p2)]) hx hb dX2_addSpending_70 hl (k := 3) rfl rfl (by decide) rfl (fun ls hl => ?_)
          refine lv_goto (tgt := 27) hx hb dX2_addSpending_73 (by decide) ?_
          exact ih27 (f_X3_get 8 r 96 f_c60 x3_27 0) (x4_27 + 1) f_c60 (vm_up (vm_nle cL27) hm27) (vm_nn hi27 (vm_nle cL27)) (eF.trans (by rw [f_X2_addSpending_c60])) _ _ hP hD hS ls (lv_sub hl [2, 3, 1, 0] rfl)
  refine lv_aload_n hx hb dX2_addSpending_0 rfl (lv_at hl 0 rfl) ?_
  refine va_get (D := (dC, dI)) (ci := 2) (v := .ref h1) (C := RX2) (T := TX2) (N := 1) hx hb hts iwsX20 hown hK hP 0 rfl rfl 0 (by decide) kw1 (fun _ h9 => h9) rfl dX2_addSpending_1 ?_
  refine lv_iload_n hx hb dX2_addSpending_4 rfl (lv_at hl 1 rfl) ?_
  refine lv_bipush (v := 7) hx hb dX2_addSpending_5 (by decide) ?_
  refine lv_aload_n hx hb dX2_addSpending_7 rfl (lv_at hl 0 rfl) ?_
  refine va_get (D := (dC, dI)) (ci := 2) (v := .ref h1) (C := RX2) (T := TX2) (N := 1) hx hb hts iwsX20 hown hK hP 0 rfl rfl 0 (by decide) kw1 (fun _ h9 => h9) rfl dX2_addSpending_8 ?_
  refine lv_iload_n hx hb dX2_addSpending_11 rfl (lv_at hl 1 rfl) ?_
  refine lv_bipush (v := 7) hx hb dX2_addSpending_12 (by decide) ?_
  refine vm_roVx (v := (f_X3_get 8 r 96 f p1 7)) (As := [.int p1, .int 7]) (rest := [.int 7, .int p1, .ref h1]) (T := TX3) (N := 4) (wc := [(h1, .inr (3, [.ref h2, .int 12, .int 8, .int r])), (h2, .inl (cI, 96, .inl f))]) ⟨hx, hb, hml, hown, hts⟩ hK hN hP hl.1 ⟨Nat.le_of_ble_eq_true rfl, Nat.le_of_ble_eq_true rfl⟩ (c_X3_get l dC dI cI cB h1 h2 12 8 r 96 f p1 7 (by decide)) (cwV 2 hts gX2_addSpending_X3_get rfl rfl rfl yd_X3_get ⟨Nat.le_of_ble_eq_true rfl, Nat.le_of_ble_eq_true rfl⟩) [1, 2] rfl 3 rfl rfl rfl rfl (Nat.le_of_ble_eq_true rfl) dX2_addSpending_14 ?_
  refine lv_iload_n hx hb dX2_addSpending_17 rfl (lv_at hl 2 rfl) ?_
  refine lv_iadd hx hb dX2_addSpending_18 ?_
  refine vm_rwVv (As := [.int p1, .int 7, .int ((f_X3_get 8 r 96 f p1 7) + p2)]) (rest := []) (T := TX3) (N := 4) (wc := [(h1, .inr (3, [.ref h2, .int 12, .int 8, .int r])), (h2, .inl (cI, 96, .inl f))]) (w1 := [(h1, .inr (3, [.ref h2, .int 12, .int 8, .int r])), (h2, .inl (cI, 96, .inl (f_X3_put 8 r 96 f p1 7 ((f_X3_get 8 r 96 f p1 7) + p2))))]) ⟨hx, hb, hml, hown, hts⟩ hK hN hP hD hS hA hl.1 ⟨Nat.le_of_ble_eq_true rfl, Nat.le_of_ble_eq_true rfl⟩ (c_X3_put l dC dI cI cB h1 h2 _ 12 8 r 96 f p1 7 ((f_X3_get 8 r 96 f p1 7) + p2) (by decide)) (cwV 3 hts gX2_addSpending_X3_put rfl rfl rfl yd_X3_put ⟨Nat.le_of_ble_eq_true rfl, Nat.le_of_ble_eq_true rfl⟩) [1, 2] rfl rfl rfl 3 rfl rfl rfl rfl (Nat.le_of_ble_eq_true rfl) dX2_addSpending_19 (fun H locs hP hD hS => ?_)
  have hP : va_P (dC, dI) vwCl [(h0, .inr (2, [.ref h1])), (h1, .inr (3, [.ref h2, .int 12, .int 8, .int r])), (h2, .inl (cI, 96, .inl (f_X3_put 8 r 96 f p1 7 ((f_X3_get 8 r 96 f p1 7) + p2))))] H := hP
  have hD : va_D A [(h0, .inr (2, [.ref h1])), (h1, .inr (3, [.ref h2, .int 12, .int 8, .int r])), (h2, .inl (cI, 96, .inl (f_X3_put 8 r 96 f p1 7 ((f_X3_get 8 r 96 f p1 7) + p2))))] := hD
  obtain ⟨f_c22, ef_c22⟩ : ∃ z, z = (f_X3_put 8 r 96 f p1 7 ((f_X3_get 8 r 96 f p1 7) + p2)) := ⟨_, rfl⟩
  rw [← ef_c22] at hP hD
  have eF : rr = f_X2_addSpending_c22 r p1 p2 f_c22 := eF.trans (by rw [f_X2_addSpending, ef_c22])
  refine lv_iload_n hx hb dX2_addSpending_22 rfl (lv_at hl 1 rfl) ?_
  refine lv_istore_n (lv' := [(3, .int p1), (0, .ref h0), (1, .int p1), (2, .int p2)]) hx hb dX2_addSpending_23 rfl hl (by decide) rfl (fun ls hl => ?_)
  refine lv_iconst (v := 0) hx hb dX2_addSpending_24 (by decide) ?_
  refine lv_istore (lv' := [(4, .int 0), (3, .int p1), (0, .ref h0), (1, .int p1), (2, .int p2)]) hx hb dX2_addSpending_25 hl (by decide) rfl (fun ls hl => ?_)
  exact hJ27 ((((12 : Int32)).toInt - ((0 : Int32)).toInt).toNat + 1) p1 0 f_c22 (Nat.lt_succ_self _) (by decide) (eF.trans (by rw [f_X2_addSpending_c22])) _ _ hP hD hS ls (lv_sub hl [2, 4, 1, 0] rfl)

def f_X2_clearSums_c21 (x1_2 : Int32) (kj2 : Int32 → (Nat → Int32) → (Nat → Int32)) (f_c21 : Nat → Int32) : (Nat → Int32) :=
  kj2 (x1_2 + 1) f_c21
def f_X2_clearSums_j2 (r : Int32) : Nat → Int32 → (Nat → Int32) → (Nat → Int32)
  | 0, _, _ => (fun _ => 0)
  | n2 + 1, x1_2, f_2 => if (f_X2_total r) ≤ x1_2 then
      f_2
    else
      f_X2_clearSums_c21 x1_2 (f_X2_clearSums_j2 r n2) (f_X3_put 8 r 96 f_2 x1_2 6 0)
def f_X2_clearSums (r : Int32) (f : Nat → Int32) : (Nat → Int32) :=
  f_X2_clearSums_j2 r ((((f_X2_total r)).toInt - ((0 : Int32)).toInt).toNat + 1) 0 f
theorem yd_X2_clearSums : yX2_clearSums.cls = RX2 ∧ yX2_clearSums.cls ≠ "java/lang/invoke/MethodHandle" ∧ yX2_clearSums.cls ≠ "java/lang/invoke/VarHandle" ∧ (parseMethodDescriptor yX2_clearSums.desc).map (fun d => d.parameters.length) = some 0 := by decide +kernel
set_option maxHeartbeats 4000000 in
set_option maxRecDepth 100000 in
theorem c_X2_clearSums (l : Launch) (dC : Nat → ClassId) (dI : Nat → Nat → Nat) (cI cB : ClassId) (h0 h1 h2 : Nat) (sz : Nat) (r : Int32) (f : Nat → Int32) : Met l yX2_clearSums wsX2_clearSums ({ frames := 1, cells := 0, slots := 0, locals := 24 }) (vm_prw [.ref h0] (dC, dI) [(h0, .inr (2, [.ref h1])), (h1, .inr (3, [.ref h2, .int 12, .int 8, .int r])), (h2, .inl (cI, 96, .inl f))] cI cB sz) (va_Qv (fun _ : Unit => True) (fun _ t => va_P (dC, dI) vwCl [(h0, .inr (2, [.ref h1])), (h1, .inr (3, [.ref h2, .int 12, .int 8, .int r])), (h2, .inl (cI, 96, .inl (f_X2_clearSums r f)))] t.heap) (va_A [(h0, .inr (2, [.ref h1])), (h1, .inr (3, [.ref h2, .int 12, .int 8, .int r])), (h2, .inl (cI, 96, .inl f))] sz)) 0 0 (va_A [(h0, .inr (2, [.ref h1])), (h1, .inr (3, [.ref h2, .int 12, .int 8, .int r])), (h2, .inl (cI, 96, .inl f))] sz) := by
  refine Met.ofW (cc := cX2_clearSums) (maxL := 2) (ret := none) (by decide) rfl ?_
  intro p e s m args below meth c s₁ B hml hv
  obtain ⟨rfl, hsz, hP, hK, hN, hD0⟩ := hv
  have hx := B.exec
  have hb := B.bytes
  have hr := B.returns
  have hts := atoms_spec (ws := wsX2_clearSums) B.pre
  have hown : s.vm.findClass RX2 = some m.cls := findClass_of_methodNamed B.named
  have hlocks := B.notSynchronized
  subst hsz
  have hD := hD0.self (sz := s.heap.size)
  generalize hAe : va_A [(h0, .inr (2, [.ref h1])), (h1, .inr (3, [.ref h2, .int 12, .int 8, .int r])), (h2, .inl (cI, 96, .inl f))] s.heap.size = A at hD ⊢
  have hA : ∀ q : Nat, s.heap.size ≤ q → A q := fun q h => by rw [← hAe]; exact Or.inr h
  have hS : va_S A s.heap s.heap [] := va_S.rf
  have hP : va_P (dC, dI) vwCl [(h0, .inr (2, [.ref h1])), (h1, .inr (3, [.ref h2, .int 12, .int 8, .int r])), (h2, .inl (cI, 96, .inl f))] s.heap := hP
  have kw1 := hts (.fieldLink RX2 16 "LapseMandates$Mandates" "table" "LLapseMandates$Table;") (List.mem_of_getElem? (i := 1) rfl)
  have iwsX20 : ∀ w ∈ wsX20, w ∈ wsX2_clearSums := fun w h => List.mem_cons_of_mem _ (List.mem_append_left _ (List.mem_append_right _ h))
  generalize hrr : f_X2_clearSums r f = rr
  have eF := hrr.symm
  have hl := lv_entry ([.ref h0]) (n := 2) (Nat.le_of_ble_eq_true rfl)
  rw [lg_entry_eq]
  generalize (lg_sl ([.ref h0]) ++ List.replicate (2 - (lg_sl ([.ref h0])).length) Slot.unset).toArray = ls at hl ⊢
  have hl : lv_has ls 2 [(0, .ref h0)] := hl
  have hJ2 : ∀ (n2 : Nat) (x1_2 : Int32) (f_2 : Nat → Int32), (((f_X2_total r)).toInt - (x1_2).toInt).toNat < n2 → 0 ≤ x1_2 → rr = f_X2_clearSums_j2 r n2 x1_2 f_2 → ∀ (H : Heap) (locs : List Loc), va_P (dC, dI) vwCl [(h0, .inr (2, [.ref h1])), (h1, .inr (3, [.ref h2, .int 12, .int 8, .int r])), (h2, .inl (cI, 96, .inl f_2))] H → va_D A [(h0, .inr (2, [.ref h1])), (h1, .inr (3, [.ref h2, .int 12, .int 8, .int r])), (h2, .inl (cI, 96, .inl f_2))] → va_S A s.heap H locs → ∀ (ls : Array Slot), lv_has ls 2 [(0, .ref h0), (1, .int x1_2)] → W p l e (headSpec wsX2_clearSums ({ frames := 1, cells := 0, slots := 0, locals := 24 })).room s m ([.ref h0] : List Value).toArray below meth c H locs 0 0 (MQ below (va_Qv (fun _ : Unit => True) (fun _ t => va_P (dC, dI) vwCl [(h0, .inr (2, [.ref h1])), (h1, .inr (3, [.ref h2, .int 12, .int 8, .int r])), (h2, .inl (cI, 96, .inl rr))] t.heap) A) ([.ref h0] : List Value).toArray s 0 0 A) (F0 m 2 ls []) := by
    intro n2
    induction n2 with
    | zero =>
      intro x1_2 f_2 hm2
      exact absurd hm2 (Nat.not_lt_zero _)
    | succ n2 ih2 =>
      intro x1_2 f_2 hm2 hi2 eF H locs hP hD hS ls hl
      refine lv_iload_n hx hb dX2_clearSums_2 rfl (lv_at hl 1 rfl) ?_
      refine lv_aload_n hx hb dX2_clearSums_3 rfl (lv_at hl 0 rfl) ?_
      refine vm_roVx (v := (f_X2_total r)) (As := []) (rest := [.int x1_2]) (T := TX2) (N := 1) (wc := [(h0, .inr (2, [.ref h1])), (h1, .inr (3, [.ref h2, .int 12, .int 8, .int r])), (h2, .inl (cI, 96, .inl f_2))]) ⟨hx, hb, hml, hown, hts⟩ hK hN hP hl.1 ⟨Nat.le_of_ble_eq_true rfl, Nat.le_of_ble_eq_true rfl⟩ (c_X2_total l dC dI cI cB h0 h1 h2 r f_2) (cwV 0 hts gX2_clearSums_X2_total rfl rfl rfl yd_X2_total ⟨Nat.le_of_ble_eq_true rfl, Nat.le_of_ble_eq_true rfl⟩) [0, 1, 2] rfl 2 rfl rfl rfl rfl (Nat.le_of_ble_eq_true rfl) dX2_clearSums_4 ?_
      refine lv_icmp_ge (tgt := 27) hx hb dX2_clearSums_7 (by decide) (fun cL2 => ?_) (fun cL2 => ?_)
      · have e9 : rr = f_2 := eF.trans (by rw [f_X2_clearSums_j2, if_pos cL2])
        exact W.vret hx hb hr (fun t ht hW => ⟨⟨(), rfl, trivial, (by rw [e9]; show va_P _ _ _ t.heap; rw [ht]; exact hP)⟩, hS.F ht⟩) hS.2.2 dX2_clearSums_27
      · refine lv_aload_n hx hb dX2_clearSums_10 rfl (lv_at hl 0 rfl) ?_
        refine va_get (D := (dC, dI)) (ci := 2) (v := .ref h1) (C := RX2) (T := TX2) (N := 1) hx hb hts iwsX20 hown hK hP 0 rfl rfl 0 (by decide) kw1 (fun _ h9 => h9) rfl dX2_clearSums_11 ?_
        refine lv_iload_n hx hb dX2_clearSums_14 rfl (lv_at hl 1 rfl) ?_
        refine lv_bipush (v := 6) hx hb dX2_clearSums_15 (by decide) ?_
        refine lv_iconst (v := 0) hx hb dX2_clearSums_17 (by decide) ?_
        refine vm_rwVv (As := [.int x1_2, .int 6, .int 0]) (rest := []) (T := TX3) (N := 4) (wc := [(h1, .inr (3, [.ref h2, .int 12, .int 8, .int r])), (h2, .inl (cI, 96, .inl f_2))]) (w1 := [(h1, .inr (3, [.ref h2, .int 12, .int 8, .int r])), (h2, .inl (cI, 96, .inl (f_X3_put 8 r 96 f_2 x1_2 6 0)))]) ⟨hx, hb, hml, hown, hts⟩ hK hN hP hD hS hA hl.1 ⟨Nat.le_of_ble_eq_true rfl, Nat.le_of_ble_eq_true rfl⟩ (c_X3_put l dC dI cI cB h1 h2 _ 12 8 r 96 f_2 x1_2 6 0 (by decide)) (cwV 3 hts gX2_clearSums_X3_put rfl rfl rfl yd_X3_put ⟨Nat.le_of_ble_eq_true rfl, Nat.le_of_ble_eq_true rfl⟩) [1, 2] rfl rfl rfl 3 rfl rfl rfl rfl (Nat.le_of_ble_eq_true rfl) dX2_clearSums_18 (fun H locs hP hD hS => ?_)
        have hP : va_P (dC, dI) vwCl [(h0, .inr (2, [.ref h1])), (h1, .inr (3, [.ref h2, .int 12, .int 8, .int r])), (h2, .inl (cI, 96, .inl (f_X3_put 8 r 96 f_2 x1_2 6 0)))] H := hP
        have hD : va_D A [(h0, .inr (2, [.ref h1])), (h1, .inr (3, [.ref h2, .int 12, .int 8, .int r])), (h2, .inl (cI, 96, .inl (f_X3_put 8 r 96 f_2 x1_2 6 0)))] := hD
        obtain ⟨f_c21, ef_c21⟩ : ∃ z, z = (f_X3_put 8 r 96 f_2 x1_2 6 0) := ⟨_, rfl⟩
        rw [← ef_c21] at hP hD
        have eF : rr = f_X2_clearSums_c21 x1_2 (f_X2_clearSums_j2 r n2) f_c21 := eF.trans (by rw [f_X2_clearSums_j2, if_neg cL2, ef_c21])
        refine lv_iinc (v := (x1_2 + 1)) (lv' := [(1, .int (x1_2 + 1)), (0, .ref h0)]) hx hb dX2_clearSums_21 hl (k := 1) rfl rfl (by decide) rfl (fun ls hl => ?_)
        refine lv_goto (tgt := 2) hx hb dX2_clearSums_24 (by decide) ?_
        exact ih2 (x1_2 + 1) f_c21 (vm_up (vm_nle cL2) hm2) (vm_nn hi2 (vm_nle cL2)) (eF.trans (by rw [f_X2_clearSums_c21])) _ _ hP hD hS ls (lv_sub hl [1, 0] rfl)
  refine lv_iconst (v := 0) hx hb dX2_clearSums_0 (by decide) ?_
  refine lv_istore_n (lv' := [(1, .int 0), (0, .ref h0)]) hx hb dX2_clearSums_1 rfl hl (by decide) rfl (fun ls hl => ?_)
  exact hJ2 ((((f_X2_total r)).toInt - ((0 : Int32)).toInt).toNat + 1) 0 f (Nat.lt_succ_self _) (by decide) (eF.trans (by rw [f_X2_clearSums])) _ _ hP hD hS ls (lv_sub hl [1, 0] rfl)

def f_X2_standingTotal_j26 (x1_4 : Int32) (x2_4 : Int32) (kj4 : Int32 → Int32 → Int32) (s0_26 : Bool) : Int32 :=
  kj4 (x1_4 + (vm_bi s0_26)) (x2_4 + 1)
def f_X2_standingTotal_j4 (r : Int32) (f : Nat → Int32) : Nat → Int32 → Int32 → Int32
  | 0, _, _ => 0
  | n4 + 1, x1_4, x2_4 => if (f_X2_total r) ≤ x2_4 then
      x1_4
    else
      if (vm_bi (f_X2_stands r f x2_4)) = 0 then
        f_X2_standingTotal_j26 x1_4 x2_4 (f_X2_standingTotal_j4 r f n4) false
      else
        f_X2_standingTotal_j26 x1_4 x2_4 (f_X2_standingTotal_j4 r f n4) true
def f_X2_standingTotal (r : Int32) (f : Nat → Int32) : Int32 :=
  f_X2_standingTotal_j4 r f ((((f_X2_total r)).toInt - ((0 : Int32)).toInt).toNat + 1) 0 0
theorem yd_X2_standingTotal : yX2_standingTotal.cls = RX2 ∧ yX2_standingTotal.cls ≠ "java/lang/invoke/MethodHandle" ∧ yX2_standingTotal.cls ≠ "java/lang/invoke/VarHandle" ∧ (parseMethodDescriptor yX2_standingTotal.desc).map (fun d => d.parameters.length) = some 0 := by decide +kernel
set_option maxHeartbeats 4000000 in
set_option maxRecDepth 100000 in
theorem c_X2_standingTotal (l : Launch) (dC : Nat → ClassId) (dI : Nat → Nat → Nat) (cI cB : ClassId) (h0 h1 h2 : Nat) (r : Int32) (f : Nat → Int32) : Met l yX2_standingTotal wsX2_standingTotal ({ frames := 2, cells := 0, slots := 0, locals := 44 }) (vm_pre [.ref h0] (dC, dI) [(h0, .inr (2, [.ref h1])), (h1, .inr (3, [.ref h2, .int 12, .int 8, .int r])), (h2, .inl (cI, 96, .inl f))] cI cB) (vp_Si (fun r9 : Int32 => r9 = (f_X2_standingTotal r f))) 0 0 (fun _ => False) := by
  refine Met.ofW (cc := cX2_standingTotal) (maxL := 3) (ret := (some .int)) (by decide) rfl ?_
  intro p e s m args below meth c s₁ B hml hv
  obtain ⟨rfl, hP, hK, hN⟩ := hv
  have hx := B.exec
  have hb := B.bytes
  have hr := B.returns
  have hts := atoms_spec (ws := wsX2_standingTotal) B.pre
  have hown : s.vm.findClass RX2 = some m.cls := findClass_of_methodNamed B.named
  have hlocks := B.notSynchronized
  generalize hrr : f_X2_standingTotal r f = rr
  have eF := hrr.symm
  have hl := lv_entry ([.ref h0]) (n := 3) (Nat.le_of_ble_eq_true rfl)
  rw [lg_entry_eq]
  generalize (lg_sl ([.ref h0]) ++ List.replicate (3 - (lg_sl ([.ref h0])).length) Slot.unset).toArray = ls at hl ⊢
  have hl : lv_has ls 3 [(0, .ref h0)] := hl
  have hJ4 : ∀ (n4 : Nat) (x1_4 : Int32) (x2_4 : Int32), (((f_X2_total r)).toInt - (x2_4).toInt).toNat < n4 → 0 ≤ x2_4 → rr = f_X2_standingTotal_j4 r f n4 x1_4 x2_4 → ∀ (ls : Array Slot), lv_has ls 3 [(0, .ref h0), (1, .int x1_4), (2, .int x2_4)] → W p l e (headSpec wsX2_standingTotal ({ frames := 2, cells := 0, slots := 0, locals := 44 })).room s m ([.ref h0] : List Value).toArray below meth c s.heap [] 0 0 (MQ below (vp_Si (fun r9 : Int32 => r9 = rr)) ([.ref h0] : List Value).toArray s 0 0 (fun _ => False)) (F0 m 4 ls []) := by
    intro n4
    induction n4 with
    | zero =>
      intro x1_4 x2_4 hm4
      exact absurd hm4 (Nat.not_lt_zero _)
    | succ n4 ih4 =>
      intro x1_4 x2_4 hm4 hi4 eF ls hl
      have hJ26 : ∀ (s0_26 : Bool), ¬ (f_X2_total r) ≤ x2_4 → rr = f_X2_standingTotal_j26 x1_4 x2_4 (f_X2_standingTotal_j4 r f n4) s0_26 → ∀ (ls : Array Slot), lv_has ls 3 [(0, .ref h0), (2, .int x2_4)] → W p l e (headSpec wsX2_standingTotal ({ frames := 2, cells := 0, slots := 0, locals := 44 })).room s m ([.ref h0] : List Value).toArray below meth c s.heap [] 0 0 (MQ below (vp_Si (fun r9 : Int32 => r9 = rr)) ([.ref h0] : List Value).toArray s 0 0 (fun _ => False)) (F0 m 26 ls [.int (vm_bi s0_26), .int x1_4]) := by
        intro s0_26 cL4 eF ls hl
        refine lv_iadd hx hb dX2_standingTotal_26 ?_
        refine lv_istore_n (lv' := [(1, .int (x1_4 + (vm_bi s0_26))), (0, .ref h0), (2, .int x2_4)]) hx hb dX2_standingTotal_27 rfl hl (by decide) rfl (fun ls hl => ?_)
        refine lv_iinc (v := (x2_4 + 1)) (lv' := [(2, .int (x2_4 + 1)), (1, .int (x1_4 + (vm_bi s0_26))), (0, .ref h0)]) hx hb dX2_standingTotal_28 hl (k := 2) rfl rfl (by decide) rfl (fun ls hl => ?_)
        refine lv_goto (tgt := 4) hx hb dX2_standingTotal_31 (by decide) ?_
        exact ih4 (x1_4 + (vm_bi s0_26)) (x2_4 + 1) (vm_up (vm_nle cL4) hm4) (vm_nn hi4 (vm_nle cL4)) (eF.trans (by rw [f_X2_standingTotal_j26])) ls (lv_sub hl [2, 1, 0] rfl)
      refine lv_iload_n hx hb dX2_standingTotal_4 rfl (lv_at hl 2 rfl) ?_
      refine lv_aload_n hx hb dX2_standingTotal_5 rfl (lv_at hl 0 rfl) ?_
      refine vm_roVx (v := (f_X2_total r)) (As := []) (rest := [.int x2_4]) (T := TX2) (N := 1) (wc := [(h0, .inr (2, [.ref h1])), (h1, .inr (3, [.ref h2, .int 12, .int 8, .int r])), (h2, .inl (cI, 96, .inl f))]) ⟨hx, hb, hml, hown, hts⟩ hK hN hP hl.1 ⟨Nat.le_of_ble_eq_true rfl, Nat.le_of_ble_eq_true rfl⟩ (c_X2_total l dC dI cI cB h0 h1 h2 r f) (cwV 0 hts gX2_standingTotal_X2_total rfl rfl rfl yd_X2_total ⟨Nat.le_of_ble_eq_true rfl, Nat.le_of_ble_eq_true rfl⟩) [0, 1, 2] rfl 2 rfl rfl rfl rfl (Nat.le_of_ble_eq_true rfl) dX2_standingTotal_6 ?_
      refine lv_icmp_ge (tgt := 34) hx hb dX2_standingTotal_9 (by decide) (fun cL4 => ?_) (fun cL4 => ?_)
      · refine lv_iload_n hx hb dX2_standingTotal_34 rfl (lv_at hl 1 rfl) ?_
        have e9 : rr = x1_4 := eF.trans (by rw [f_X2_standingTotal_j4, if_pos cL4])
        exact W.iret (v := x1_4) hx hb hr (fun t ht hW => ⟨_, rfl, e9.symm, ht⟩) (fun _ hq => by cases hq) dX2_standingTotal_35
      · refine lv_iload_n hx hb dX2_standingTotal_12 rfl (lv_at hl 1 rfl) ?_
        refine lv_aload_n hx hb dX2_standingTotal_13 rfl (lv_at hl 0 rfl) ?_
        refine lv_iload_n hx hb dX2_standingTotal_14 rfl (lv_at hl 2 rfl) ?_
        refine vm_roVx (v := vm_bi (f_X2_stands r f x2_4)) (As := [.int x2_4]) (rest := [.int x1_4]) (T := TX2) (N := 1) (wc := [(h0, .inr (2, [.ref h1])), (h1, .inr (3, [.ref h2, .int 12, .int 8, .int r])), (h2, .inl (cI, 96, .inl f))]) ⟨hx, hb, hml, hown, hts⟩ hK hN hP hl.1 ⟨Nat.le_of_ble_eq_true rfl, Nat.le_of_ble_eq_true rfl⟩ (c_X2_stands l dC dI cI cB h0 h1 h2 r f x2_4) (cwV 1 hts gX2_standingTotal_X2_stands rfl rfl rfl yd_X2_stands ⟨Nat.le_of_ble_eq_true rfl, Nat.le_of_ble_eq_true rfl⟩) [0, 1, 2] rfl 2 rfl rfl rfl rfl (Nat.le_of_ble_eq_true rfl) dX2_standingTotal_15 ?_
        refine lv_if_eq (tgt := 25) hx hb dX2_standingTotal_18 (by decide) (fun c_2 => ?_) (fun c_2 => ?_)
        · refine lv_iconst (v := 0) hx hb dX2_standingTotal_25 (by decide) ?_
          exact hJ26 false cL4 (eF.trans (by rw [f_X2_standingTotal_j4, if_neg cL4, if_pos c_2])) ls (lv_sub hl [0, 2] rfl)
        · refine lv_iconst (v := 1) hx hb dX2_standingTotal_21 (by decide) ?_
          refine lv_goto (tgt := 26) hx hb dX2_standingTotal_22 (by decide) ?_
          exact hJ26 true cL4 (eF.trans (by rw [f_X2_standingTotal_j4, if_neg cL4, if_neg c_2])) ls (lv_sub hl [0, 2] rfl)
  refine lv_iconst (v := 0) hx hb dX2_standingTotal_0 (by decide) ?_
  refine lv_istore_n (lv' := [(1, .int 0), (0, .ref h0)]) hx hb dX2_standingTotal_1 rfl hl (by decide) rfl (fun ls hl => ?_)
  refine lv_iconst (v := 0) hx hb dX2_standingTotal_2 (by decide) ?_
  refine lv_istore_n (lv' := [(2, .int 0), (1, .int 0), (0, .ref h0)]) hx hb dX2_standingTotal_3 rfl hl (by decide) rfl (fun ls hl => ?_)
  exact hJ4 ((((f_X2_total r)).toInt - ((0 : Int32)).toInt).toNat + 1) 0 0 (Nat.lt_succ_self _) (by decide) (eF.trans (by rw [f_X2_standingTotal])) ls (lv_sub hl [2, 1, 0] rfl)

def f_X2_standingHeldBy_j39 (x2_4 : Int32) (x3_4 : Int32) (kj4 : Int32 → Int32 → Int32) (s0_39 : Bool) : Int32 :=
  kj4 (x2_4 + (vm_bi s0_39)) (x3_4 + 1)
def f_X2_standingHeldBy_j38 (x2_4 : Int32) (x3_4 : Int32) (kj4 : Int32 → Int32 → Int32) : Int32 :=
  f_X2_standingHeldBy_j39 x2_4 x3_4 kj4 false
def f_X2_standingHeldBy_j4 (r : Int32) (f : Nat → Int32) (p1 : Int32) : Nat → Int32 → Int32 → Int32
  | 0, _, _ => 0
  | n4 + 1, x2_4, x3_4 => if (f_X2_total r) ≤ x3_4 then
      x2_4
    else
      if (vm_bi (f_X2_stands r f x3_4)) = 0 then
        f_X2_standingHeldBy_j38 x2_4 x3_4 (f_X2_standingHeldBy_j4 r f p1 n4)
      else
        if (f_X3_get 8 r 96 f x3_4 1) = p1 then
          f_X2_standingHeldBy_j39 x2_4 x3_4 (f_X2_standingHeldBy_j4 r f p1 n4) true
        else
          f_X2_standingHeldBy_j38 x2_4 x3_4 (f_X2_standingHeldBy_j4 r f p1 n4)
def f_X2_standingHeldBy (r : Int32) (f : Nat → Int32) (p1 : Int32) : Int32 :=
  f_X2_standingHeldBy_j4 r f p1 ((((f_X2_total r)).toInt - ((0 : Int32)).toInt).toNat + 1) 0 0
theorem yd_X2_standingHeldBy : yX2_standingHeldBy.cls = RX2 ∧ yX2_standingHeldBy.cls ≠ "java/lang/invoke/MethodHandle" ∧ yX2_standingHeldBy.cls ≠ "java/lang/invoke/VarHandle" ∧ (parseMethodDescriptor yX2_standingHeldBy.desc).map (fun d => d.parameters.length) = some 1 := by decide +kernel
set_option maxHeartbeats 4000000 in
set_option maxRecDepth 100000 in
theorem c_X2_standingHeldBy (l : Launch) (dC : Nat → ClassId) (dI : Nat → Nat → Nat) (cI cB : ClassId) (h0 h1 h2 : Nat) (r : Int32) (f : Nat → Int32) (p1 : Int32) : Met l yX2_standingHeldBy wsX2_standingHeldBy ({ frames := 2, cells := 0, slots := 0, locals := 44 }) (vm_pre [.ref h0, .int p1] (dC, dI) [(h0, .inr (2, [.ref h1])), (h1, .inr (3, [.ref h2, .int 12, .int 8, .int r])), (h2, .inl (cI, 96, .inl f))] cI cB) (vp_Si (fun r9 : Int32 => r9 = (f_X2_standingHeldBy r f p1))) 0 0 (fun _ => False) := by
  refine Met.ofW (cc := cX2_standingHeldBy) (maxL := 4) (ret := (some .int)) (by decide) rfl ?_
  intro p e s m args below meth c s₁ B hml hv
  obtain ⟨rfl, hP, hK, hN⟩ := hv
  have hx := B.exec
  have hb := B.bytes
  have hr := B.returns
  have hts := atoms_spec (ws := wsX2_standingHeldBy) B.pre
  have hown : s.vm.findClass RX2 = some m.cls := findClass_of_methodNamed B.named
  have hlocks := B.notSynchronized
  have kw1 := hts (.fieldLink RX2 16 "LapseMandates$Mandates" "table" "LLapseMandates$Table;") (List.mem_of_getElem? (i := 1) rfl)
  have iwsX20 : ∀ w ∈ wsX20, w ∈ wsX2_standingHeldBy := fun w h => List.mem_cons_of_mem _ (List.mem_append_left _ (List.mem_append_right _ h))
  generalize hrr : f_X2_standingHeldBy r f p1 = rr
  have eF := hrr.symm
  have hl := lv_entry ([.ref h0, .int p1]) (n := 4) (Nat.le_of_ble_eq_true rfl)
  rw [lg_entry_eq]
  generalize (lg_sl ([.ref h0, .int p1]) ++ List.replicate (4 - (lg_sl ([.ref h0, .int p1])).length) Slot.unset).toArray = ls at hl ⊢
  have hl : lv_has ls 4 [(0, .ref h0), (1, .int p1)] := hl
  have hJ4 : ∀ (n4 : Nat) (x2_4 : Int32) (x3_4 : Int32), (((f_X2_total r)).toInt - (x3_4).toInt).toNat < n4 → 0 ≤ x3_4 → rr = f_X2_standingHeldBy_j4 r f p1 n4 x2_4 x3_4 → ∀ (ls : Array Slot), lv_has ls 4 [(0, .ref h0), (1, .int p1), (2, .int x2_4), (3, .int x3_4)] → W p l e (headSpec wsX2_standingHeldBy ({ frames := 2, cells := 0, slots := 0, locals := 44 })).room s m ([.ref h0, .int p1] : List Value).toArray below meth c s.heap [] 0 0 (MQ below (vp_Si (fun r9 : Int32 => r9 = rr)) ([.ref h0, .int p1] : List Value).toArray s 0 0 (fun _ => False)) (F0 m 4 ls []) := by
    intro n4
    induction n4 with
    | zero =>
      intro x2_4 x3_4 hm4
      exact absurd hm4 (Nat.not_lt_zero _)
    | succ n4 ih4 =>
      intro x2_4 x3_4 hm4 hi4 eF ls hl
      have hJ39 : ∀ (s0_39 : Bool), ¬ (f_X2_total r) ≤ x3_4 → rr = f_X2_standingHeldBy_j39 x2_4 x3_4 (f_X2_standingHeldBy_j4 r f p1 n4) s0_39 → ∀ (ls : Array Slot), lv_has ls 4 [(0, .ref h0), (1, .int p1), (3, .int x3_4)] → W p l e (headSpec wsX2_standingHeldBy ({ frames := 2, cells := 0, slots := 0, locals := 44 })).room s m ([.ref h0, .int p1] : List Value).toArray below meth c s.heap [] 0 0 (MQ below (vp_Si (fun r9 : Int32 => r9 = rr)) ([.ref h0, .int p1] : List Value).toArray s 0 0 (fun _ => False)) (F0 m 39 ls [.int (vm_bi s0_39), .int x2_4]) := by
        intro s0_39 cL4 eF ls hl
        refine lv_iadd hx hb dX2_standingHeldBy_39 ?_
        refine lv_istore_n (lv' := [(2, .int (x2_4 + (vm_bi s0_39))), (0, .ref h0), (1, .int p1), (3, .int x3_4)]) hx hb dX2_standingHeldBy_40 rfl hl (by decide) rfl (fun ls hl => ?_)
        refine lv_iinc (v := (x3_4 + 1)) (lv' := [(3, .int (x3_4 + 1)), (2, .int (x2_4 + (vm_bi s0_39))), (0, .ref h0), (1, .int p1)]) hx hb dX2_standingHeldBy_41 hl (k := 3) rfl rfl (by decide) rfl (fun ls hl => ?_)
        refine lv_goto (tgt := 4) hx hb dX2_standingHeldBy_44 (by decide) ?_
        exact ih4 (x2_4 + (vm_bi s0_39)) (x3_4 + 1) (vm_up (vm_nle cL4) hm4) (vm_nn hi4 (vm_nle cL4)) (eF.trans (by rw [f_X2_standingHeldBy_j39])) ls (lv_sub hl [2, 3, 1, 0] rfl)
      have hJ38 : ¬ (f_X2_total r) ≤ x3_4 → rr = f_X2_standingHeldBy_j38 x2_4 x3_4 (f_X2_standingHeldBy_j4 r f p1 n4) → ∀ (ls : Array Slot), lv_has ls 4 [(0, .ref h0), (1, .int p1), (3, .int x3_4)] → W p l e (headSpec wsX2_standingHeldBy ({ frames := 2, cells := 0, slots := 0, locals := 44 })).room s m ([.ref h0, .int p1] : List Value).toArray below meth c s.heap [] 0 0 (MQ below (vp_Si (fun r9 : Int32 => r9 = rr)) ([.ref h0, .int p1] : List Value).toArray s 0 0 (fun _ => False)) (F0 m 38 ls [.int x2_4]) := by
        intro cL4 eF ls hl
        refine lv_iconst (v := 0) hx hb dX2_standingHeldBy_38 (by decide) ?_
        exact hJ39 false cL4 (eF.trans (by rw [f_X2_standingHeldBy_j38])) ls (lv_sub hl [0, 1, 2] rfl)
      refine lv_iload_n hx hb dX2_standingHeldBy_4 rfl (lv_at hl 3 rfl) ?_
      refine lv_aload_n hx hb dX2_standingHeldBy_5 rfl (lv_at hl 0 rfl) ?_
      refine vm_roVx (v := (f_X2_total r)) (As := []) (rest := [.int x3_4]) (T := TX2) (N := 1) (wc := [(h0, .inr (2, [.ref h1])), (h1, .inr (3, [.ref h2, .int 12, .int 8, .int r])), (h2, .inl (cI, 96, .inl f))]) ⟨hx, hb, hml, hown, hts⟩ hK hN hP hl.1 ⟨Nat.le_of_ble_eq_true rfl, Nat.le_of_ble_eq_true rfl⟩ (c_X2_total l dC dI cI cB h0 h1 h2 r f) (cwV 0 hts gX2_standingHeldBy_X2_total rfl rfl rfl yd_X2_total ⟨Nat.le_of_ble_eq_true rfl, Nat.le_of_ble_eq_true rfl⟩) [0, 1, 2] rfl 2 rfl rfl rfl rfl (Nat.le_of_ble_eq_true rfl) dX2_standingHeldBy_6 ?_
      refine lv_icmp_ge (tgt := 47) hx hb dX2_standingHeldBy_9 (by decide) (fun cL4 => ?_) (fun cL4 => ?_)
      · refine lv_iload_n hx hb dX2_standingHeldBy_47 rfl (lv_at hl 2 rfl) ?_
        have e9 : rr = x2_4 := eF.trans (by rw [f_X2_standingHeldBy_j4, if_pos cL4])
        exact W.iret (v := x2_4) hx hb hr (fun t ht hW => ⟨_, rfl, e9.symm, ht⟩) (fun _ hq => by cases hq) dX2_standingHeldBy_48
      · refine lv_iload_n hx hb dX2_standingHeldBy_12 rfl (lv_at hl 2 rfl) ?_
        refine lv_aload_n hx hb dX2_standingHeldBy_13 rfl (lv_at hl 0 rfl) ?_
        refine lv_iload_n hx hb dX2_standingHeldBy_14 rfl (lv_at hl 3 rfl) ?_
        refine vm_roVx (v := vm_bi (f_X2_stands r f x3_4)) (As := [.int x3_4]) (rest := [.int x2_4]) (T := TX2) (N := 1) (wc := [(h0, .inr (2, [.ref h1])), (h1, .inr (3, [.ref h2, .int 12, .int 8, .int r])), (h2, .inl (cI, 96, .inl f))]) ⟨hx, hb, hml, hown, hts⟩ hK hN hP hl.1 ⟨Nat.le_of_ble_eq_true rfl, Nat.le_of_ble_eq_true rfl⟩ (c_X2_stands l dC dI cI cB h0 h1 h2 r f x3_4) (cwV 1 hts gX2_standingHeldBy_X2_stands rfl rfl rfl yd_X2_stands ⟨Nat.le_of_ble_eq_true rfl, Nat.le_of_ble_eq_true rfl⟩) [0, 1, 2] rfl 2 rfl rfl rfl rfl (Nat.le_of_ble_eq_true rfl) dX2_standingHeldBy_15 ?_
        refine lv_if_eq (tgt := 38) hx hb dX2_standingHeldBy_18 (by decide) (fun c_2 => ?_) (fun c_2 => ?_)
        · exact hJ38 cL4 (eF.trans (by rw [f_X2_standingHeldBy_j4, if_neg cL4, if_pos c_2])) ls (lv_sub hl [0, 1, 3] rfl)
        · refine lv_aload_n hx hb dX2_standingHeldBy_21 rfl (lv_at hl 0 rfl) ?_
          refine va_get (D := (dC, dI)) (ci := 2) (v := .ref h1) (C := RX2) (T := TX2) (N := 1) hx hb hts iwsX20 hown hK hP 0 rfl rfl 0 (by decide) kw1 (fun _ h9 => h9) rfl dX2_standingHeldBy_22 ?_
          refine lv_iload_n hx hb dX2_standingHeldBy_25 rfl (lv_at hl 3 rfl) ?_
          refine lv_iconst (v := 1) hx hb dX2_standingHeldBy_26 (by decide) ?_
          refine vm_roVx (v := (f_X3_get 8 r 96 f x3_4 1)) (As := [.int x3_4, .int 1]) (rest := [.int x2_4]) (T := TX3) (N := 4) (wc := [(h1, .inr (3, [.ref h2, .int 12, .int 8, .int r])), (h2, .inl (cI, 96, .inl f))]) ⟨hx, hb, hml, hown, hts⟩ hK hN hP hl.1 ⟨Nat.le_of_ble_eq_true rfl, Nat.le_of_ble_eq_true rfl⟩ (c_X3_get l dC dI cI cB h1 h2 12 8 r 96 f x3_4 1 (by decide)) (cwV 2 hts gX2_standingHeldBy_X3_get rfl rfl rfl yd_X3_get ⟨Nat.le_of_ble_eq_true rfl, Nat.le_of_ble_eq_true rfl⟩) [1, 2] rfl 3 rfl rfl rfl rfl (Nat.le_of_ble_eq_true rfl) dX2_standingHeldBy_27 ?_
          refine lv_iload_n hx hb dX2_standingHeldBy_30 rfl (lv_at hl 1 rfl) ?_
          refine lv_icmp_ne (tgt := 38) hx hb dX2_standingHeldBy_31 (by decide) (fun c_3 => ?_) (fun c_3 => ?_)
          · exact hJ38 cL4 (eF.trans (by rw [f_X2_standingHeldBy_j4, if_neg cL4, if_neg c_2, if_neg c_3])) ls (lv_sub hl [0, 1, 3] rfl)
          · refine lv_iconst (v := 1) hx hb dX2_standingHeldBy_34 (by decide) ?_
            refine lv_goto (tgt := 39) hx hb dX2_standingHeldBy_35 (by decide) ?_
            exact hJ39 true cL4 (eF.trans (by rw [f_X2_standingHeldBy_j4, if_neg cL4, if_neg c_2, if_pos c_3])) ls (lv_sub hl [0, 1, 3] rfl)
  refine lv_iconst (v := 0) hx hb dX2_standingHeldBy_0 (by decide) ?_
  refine lv_istore_n (lv' := [(2, .int 0), (0, .ref h0), (1, .int p1)]) hx hb dX2_standingHeldBy_1 rfl hl (by decide) rfl (fun ls hl => ?_)
  refine lv_iconst (v := 0) hx hb dX2_standingHeldBy_2 (by decide) ?_
  refine lv_istore_n (lv' := [(3, .int 0), (2, .int 0), (0, .ref h0), (1, .int p1)]) hx hb dX2_standingHeldBy_3 rfl hl (by decide) rfl (fun ls hl => ?_)
  exact hJ4 ((((f_X2_total r)).toInt - ((0 : Int32)).toInt).toNat + 1) 0 0 (Nat.lt_succ_self _) (by decide) (eF.trans (by rw [f_X2_standingHeldBy])) ls (lv_sub hl [2, 3, 1, 0] rfl)

def f_X2_spentByHolder_j40 (x2_4 : Int32) (x3_4 : Int32) (kj4 : Int32 → Int32 → Int32) (s0_40 : Int32) : Int32 :=
  kj4 (x2_4 + s0_40) (x3_4 + 1)
def f_X2_spentByHolder_j4 (r : Int32) (f : Nat → Int32) (p1 : Int32) : Nat → Int32 → Int32 → Int32
  | 0, _, _ => 0
  | n4 + 1, x2_4, x3_4 => if (f_X2_total r) ≤ x3_4 then
      x2_4
    else
      if (f_X3_get 8 r 96 f x3_4 1) = p1 then
        f_X2_spentByHolder_j40 x2_4 x3_4 (f_X2_spentByHolder_j4 r f p1 n4) (f_X3_get 8 r 96 f x3_4 7)
      else
        f_X2_spentByHolder_j40 x2_4 x3_4 (f_X2_spentByHolder_j4 r f p1 n4) 0
def f_X2_spentByHolder (r : Int32) (f : Nat → Int32) (p1 : Int32) : Int32 :=
  f_X2_spentByHolder_j4 r f p1 ((((f_X2_total r)).toInt - ((0 : Int32)).toInt).toNat + 1) 0 0
theorem yd_X2_spentByHolder : yX2_spentByHolder.cls = RX2 ∧ yX2_spentByHolder.cls ≠ "java/lang/invoke/MethodHandle" ∧ yX2_spentByHolder.cls ≠ "java/lang/invoke/VarHandle" ∧ (parseMethodDescriptor yX2_spentByHolder.desc).map (fun d => d.parameters.length) = some 1 := by decide +kernel
set_option maxHeartbeats 4000000 in
set_option maxRecDepth 100000 in
theorem c_X2_spentByHolder (l : Launch) (dC : Nat → ClassId) (dI : Nat → Nat → Nat) (cI cB : ClassId) (h0 h1 h2 : Nat) (r : Int32) (f : Nat → Int32) (p1 : Int32) : Met l yX2_spentByHolder wsX2_spentByHolder ({ frames := 1, cells := 0, slots := 0, locals := 23 }) (vm_pre [.ref h0, .int p1] (dC, dI) [(h0, .inr (2, [.ref h1])), (h1, .inr (3, [.ref h2, .int 12, .int 8, .int r])), (h2, .inl (cI, 96, .inl f))] cI cB) (vp_Si (fun r9 : Int32 => r9 = (f_X2_spentByHolder r f p1))) 0 0 (fun _ => False) := by
  refine Met.ofW (cc := cX2_spentByHolder) (maxL := 4) (ret := (some .int)) (by decide) rfl ?_
  intro p e s m args below meth c s₁ B hml hv
  obtain ⟨rfl, hP, hK, hN⟩ := hv
  have hx := B.exec
  have hb := B.bytes
  have hr := B.returns
  have hts := atoms_spec (ws := wsX2_spentByHolder) B.pre
  have hown : s.vm.findClass RX2 = some m.cls := findClass_of_methodNamed B.named
  have hlocks := B.notSynchronized
  have kw1 := hts (.fieldLink RX2 16 "LapseMandates$Mandates" "table" "LLapseMandates$Table;") (List.mem_of_getElem? (i := 1) rfl)
  have iwsX20 : ∀ w ∈ wsX20, w ∈ wsX2_spentByHolder := fun w h => List.mem_cons_of_mem _ (List.mem_append_left _ (List.mem_append_right _ h))
  generalize hrr : f_X2_spentByHolder r f p1 = rr
  have eF := hrr.symm
  have hl := lv_entry ([.ref h0, .int p1]) (n := 4) (Nat.le_of_ble_eq_true rfl)
  rw [lg_entry_eq]
  generalize (lg_sl ([.ref h0, .int p1]) ++ List.replicate (4 - (lg_sl ([.ref h0, .int p1])).length) Slot.unset).toArray = ls at hl ⊢
  have hl : lv_has ls 4 [(0, .ref h0), (1, .int p1)] := hl
  have hJ4 : ∀ (n4 : Nat) (x2_4 : Int32) (x3_4 : Int32), (((f_X2_total r)).toInt - (x3_4).toInt).toNat < n4 → 0 ≤ x3_4 → rr = f_X2_spentByHolder_j4 r f p1 n4 x2_4 x3_4 → ∀ (ls : Array Slot), lv_has ls 4 [(0, .ref h0), (1, .int p1), (2, .int x2_4), (3, .int x3_4)] → W p l e (headSpec wsX2_spentByHolder ({ frames := 1, cells := 0, slots := 0, locals := 23 })).room s m ([.ref h0, .int p1] : List Value).toArray below meth c s.heap [] 0 0 (MQ below (vp_Si (fun r9 : Int32 => r9 = rr)) ([.ref h0, .int p1] : List Value).toArray s 0 0 (fun _ => False)) (F0 m 4 ls []) := by
    intro n4
    induction n4 with
    | zero =>
      intro x2_4 x3_4 hm4
      exact absurd hm4 (Nat.not_lt_zero _)
    | succ n4 ih4 =>
      intro x2_4 x3_4 hm4 hi4 eF ls hl
      have hJ40 : ∀ (s0_40 : Int32), ¬ (f_X2_total r) ≤ x3_4 → rr = f_X2_spentByHolder_j40 x2_4 x3_4 (f_X2_spentByHolder_j4 r f p1 n4) s0_40 → ∀ (ls : Array Slot), lv_has ls 4 [(0, .ref h0), (1, .int p1), (3, .int x3_4)] → W p l e (headSpec wsX2_spentByHolder ({ frames := 1, cells := 0, slots := 0, locals := 23 })).room s m ([.ref h0, .int p1] : List Value).toArray below meth c s.heap [] 0 0 (MQ below (vp_Si (fun r9 : Int32 => r9 = rr)) ([.ref h0, .int p1] : List Value).toArray s 0 0 (fun _ => False)) (F0 m 40 ls [.int s0_40, .int x2_4]) := by
        intro s0_40 cL4 eF ls hl
        refine lv_iadd hx hb dX2_spentByHolder_40 ?_
        refine lv_istore_n (lv' := [(2, .int (x2_4 + s0_40)), (0, .ref h0), (1, .int p1), (3, .int x3_4)]) hx hb dX2_spentByHolder_41 rfl hl (by decide) rfl (fun ls hl => ?_)
        refine lv_iinc (v := (x3_4 + 1)) (lv' := [(3, .int (x3_4 + 1)), (2, .int (x2_4 + s0_40)), (0, .ref h0), (1, .int p1)]) hx hb dX2_spentByHolder_42 hl (k := 3) rfl rfl (by decide) rfl (fun ls hl => ?_)
        refine lv_goto (tgt := 4) hx hb dX2_spentByHolder_45 (by decide) ?_
        exact ih4 (x2_4 + s0_40) (x3_4 + 1) (vm_up (vm_nle cL4) hm4) (vm_nn hi4 (vm_nle cL4)) (eF.trans (by rw [f_X2_spentByHolder_j40])) ls (lv_sub hl [2, 3, 1, 0] rfl)
      refine lv_iload_n hx hb dX2_spentByHolder_4 rfl (lv_at hl 3 rfl) ?_
      refine lv_aload_n hx hb dX2_spentByHolder_5 rfl (lv_at hl 0 rfl) ?_
      refine vm_roVx (v := (f_X2_total r)) (As := []) (rest := [.int x3_4]) (T := TX2) (N := 1) (wc := [(h0, .inr (2, [.ref h1])), (h1, .inr (3, [.ref h2, .int 12, .int 8, .int r])), (h2, .inl (cI, 96, .inl f))]) ⟨hx, hb, hml, hown, hts⟩ hK hN hP hl.1 ⟨Nat.le_of_ble_eq_true rfl, Nat.le_of_ble_eq_true rfl⟩ (c_X2_total l dC dI cI cB h0 h1 h2 r f) (cwV 0 hts gX2_spentByHolder_X2_total rfl rfl rfl yd_X2_total ⟨Nat.le_of_ble_eq_true rfl, Nat.le_of_ble_eq_true rfl⟩) [0, 1, 2] rfl 2 rfl rfl rfl rfl (Nat.le_of_ble_eq_true rfl) dX2_spentByHolder_6 ?_
      refine lv_icmp_ge (tgt := 48) hx hb dX2_spentByHolder_9 (by decide) (fun cL4 => ?_) (fun cL4 => ?_)
      · refine lv_iload_n hx hb dX2_spentByHolder_48 rfl (lv_at hl 2 rfl) ?_
        have e9 : rr = x2_4 := eF.trans (by rw [f_X2_spentByHolder_j4, if_pos cL4])
        exact W.iret (v := x2_4) hx hb hr (fun t ht hW => ⟨_, rfl, e9.symm, ht⟩) (fun _ hq => by cases hq) dX2_spentByHolder_49
      · refine lv_iload_n hx hb dX2_spentByHolder_12 rfl (lv_at hl 2 rfl) ?_
        refine lv_aload_n hx hb dX2_spentByHolder_13 rfl (lv_at hl 0 rfl) ?_
        refine va_get (D := (dC, dI)) (ci := 2) (v := .ref h1) (C := RX2) (T := TX2) (N := 1) hx hb hts iwsX20 hown hK hP 0 rfl rfl 0 (by decide) kw1 (fun _ h9 => h9) rfl dX2_spentByHolder_14 ?_
        refine lv_iload_n hx hb dX2_spentByHolder_17 rfl (lv_at hl 3 rfl) ?_
        refine lv_iconst (v := 1) hx hb dX2_spentByHolder_18 (by decide) ?_
        refine vm_roVx (v := (f_X3_get 8 r 96 f x3_4 1)) (As := [.int x3_4, .int 1]) (rest := [.int x2_4]) (T := TX3) (N := 4) (wc := [(h1, .inr (3, [.ref h2, .int 12, .int 8, .int r])), (h2, .inl (cI, 96, .inl f))]) ⟨hx, hb, hml, hown, hts⟩ hK hN hP hl.1 ⟨Nat.le_of_ble_eq_true rfl, Nat.le_of_ble_eq_true rfl⟩ (c_X3_get l dC dI cI cB h1 h2 12 8 r 96 f x3_4 1 (by decide)) (cwV 2 hts gX2_spentByHolder_X3_get rfl rfl rfl yd_X3_get ⟨Nat.le_of_ble_eq_true rfl, Nat.le_of_ble_eq_true rfl⟩) [1, 2] rfl 3 rfl rfl rfl rfl (Nat.le_of_ble_eq_true rfl) dX2_spentByHolder_19 ?_
        refine lv_iload_n hx hb dX2_spentByHolder_22 rfl (lv_at hl 1 rfl) ?_
        refine lv_icmp_ne (tgt := 39) hx hb dX2_spentByHolder_23 (by decide) (fun c_2 => ?_) (fun c_2 => ?_)
        · refine lv_iconst (v := 0) hx hb dX2_spentByHolder_39 (by decide) ?_
          exact hJ40 0 cL4 (eF.trans (by rw [f_X2_spentByHolder_j4, if_neg cL4, if_neg c_2])) ls (lv_sub hl [0, 1, 3] rfl)
        · refine lv_aload_n hx hb dX2_spentByHolder_26 rfl (lv_at hl 0 rfl) ?_
          refine va_get (D := (dC, dI)) (ci := 2) (v := .ref h1) (C := RX2) (T := TX2) (N := 1) hx hb hts iwsX20 hown hK hP 0 rfl rfl 0 (by decide) kw1 (fun _ h9 => h9) rfl dX2_spentByHolder_27 ?_
          refine lv_iload_n hx hb dX2_spentByHolder_30 rfl (lv_at hl 3 rfl) ?_
          refine lv_bipush (v := 7) hx hb dX2_spentByHolder_31 (by decide) ?_
          refine vm_roVx (v := (f_X3_get 8 r 96 f x3_4 7)) (As := [.int x3_4, .int 7]) (rest := [.int x2_4]) (T := TX3) (N := 4) (wc := [(h1, .inr (3, [.ref h2, .int 12, .int 8, .int r])), (h2, .inl (cI, 96, .inl f))]) ⟨hx, hb, hml, hown, hts⟩ hK hN hP hl.1 ⟨Nat.le_of_ble_eq_true rfl, Nat.le_of_ble_eq_true rfl⟩ (c_X3_get l dC dI cI cB h1 h2 12 8 r 96 f x3_4 7 (by decide)) (cwV 2 hts gX2_spentByHolder_X3_get rfl rfl rfl yd_X3_get ⟨Nat.le_of_ble_eq_true rfl, Nat.le_of_ble_eq_true rfl⟩) [1, 2] rfl 3 rfl rfl rfl rfl (Nat.le_of_ble_eq_true rfl) dX2_spentByHolder_33 ?_
          refine lv_goto (tgt := 40) hx hb dX2_spentByHolder_36 (by decide) ?_
          exact hJ40 (f_X3_get 8 r 96 f x3_4 7) cL4 (eF.trans (by rw [f_X2_spentByHolder_j4, if_neg cL4, if_pos c_2])) ls (lv_sub hl [0, 1, 3] rfl)
  refine lv_iconst (v := 0) hx hb dX2_spentByHolder_0 (by decide) ?_
  refine lv_istore_n (lv' := [(2, .int 0), (0, .ref h0), (1, .int p1)]) hx hb dX2_spentByHolder_1 rfl hl (by decide) rfl (fun ls hl => ?_)
  refine lv_iconst (v := 0) hx hb dX2_spentByHolder_2 (by decide) ?_
  refine lv_istore_n (lv' := [(3, .int 0), (2, .int 0), (0, .ref h0), (1, .int p1)]) hx hb dX2_spentByHolder_3 rfl hl (by decide) rfl (fun ls hl => ?_)
  exact hJ4 ((((f_X2_total r)).toInt - ((0 : Int32)).toInt).toNat + 1) 0 0 (Nat.lt_succ_self _) (by decide) (eF.trans (by rw [f_X2_spentByHolder])) ls (lv_sub hl [2, 3, 1, 0] rfl)
