def f_X6_spend_c62 (s0_39 : Int32) (states_c55 : Int32) (hi_c55 : Nat → Int32) (y62 : Int32) (z_c62 : Nat → Int32) : Int32 × Int32 × Int32 × (Nat → Int32) × (Nat → Int32) :=
  (y62, states_c55, s0_39, z_c62, hi_c55)
def f_X6_spend_c55 (z : Nat → Int32) (p1 : Int32) (p2 : Int32) (s0_39 : Int32) (states_c55 : Int32) (hi_c55 : Nat → Int32) : Int32 × Int32 × Int32 × (Nat → Int32) × (Nat → Int32) :=
  f_X6_spend_c62 s0_39 states_c55 hi_c55 ((f_X6_asks z p1 p2 0).1) ((f_X6_asks z p1 p2 0).2)
def f_X6_spend_j39 (states : Int32) (z : Nat → Int32) (hi : Nat → Int32) (p1 : Int32) (p2 : Int32) (s0_39 : Int32) : Int32 × Int32 × Int32 × (Nat → Int32) × (Nat → Int32) :=
  if s0_39 ≤ 0 then
    f_X6_spend_c55 z p1 p2 s0_39 ((f_X6_save states z hi).1) ((f_X6_save states z hi).2)
  else
    (0, states, s0_39, z, hi)
def f_X6_spend (states : Int32) (z : Nat → Int32) (hi : Nat → Int32) (p1 : Int32) (p2 : Int32) : Int32 × Int32 × Int32 × (Nat → Int32) × (Nat → Int32) :=
  if (vm_bi (f_X6_isMandate z p1)) = 0 then
    f_X6_spend_j39 states z hi p1 p2 1
  else
    if (vm_bi (f_X6_isMoney p2)) = 0 then
      f_X6_spend_j39 states z hi p1 p2 2
    else
      if (vm_bi (f_X6_canAsk z p1 p2 0)) = 0 then
        f_X6_spend_j39 states z hi p1 p2 3
      else
        f_X6_spend_j39 states z hi p1 p2 0
def o_X6_spend_c62 (s0_39 : Int32) (states_c55 : Int32) (hi_c55 : Nat → Int32) (y62 : Int32) (z_c62 : Nat → Int32) : Prop :=
  True
def o_X6_spend_c55 (z : Nat → Int32) (p1 : Int32) (p2 : Int32) (s0_39 : Int32) (states_c55 : Int32) (hi_c55 : Nat → Int32) : Prop :=
  o_X6_asks z p1 p2 0 ∧
  (o_X6_spend_c62 s0_39 states_c55 hi_c55 ((f_X6_asks z p1 p2 0).1) ((f_X6_asks z p1 p2 0).2))
def o_X6_spend_j39 (states : Int32) (z : Nat → Int32) (hi : Nat → Int32) (p1 : Int32) (p2 : Int32) (s0_39 : Int32) : Prop :=
  if s0_39 ≤ 0 then
    o_X6_save states z hi ∧
    (o_X6_spend_c55 z p1 p2 s0_39 ((f_X6_save states z hi).1) ((f_X6_save states z hi).2))
  else
    True
def o_X6_spend (states : Int32) (z : Nat → Int32) (hi : Nat → Int32) (p1 : Int32) (p2 : Int32) : Prop :=
  if (vm_bi (f_X6_isMandate z p1)) = 0 then
    o_X6_spend_j39 states z hi p1 p2 1
  else
    if (vm_bi (f_X6_isMoney p2)) = 0 then
      o_X6_spend_j39 states z hi p1 p2 2
    else
      o_X6_canAsk z p1 p2 0 ∧
      (if (vm_bi (f_X6_canAsk z p1 p2 0)) = 0 then
        o_X6_spend_j39 states z hi p1 p2 3
      else
        o_X6_spend_j39 states z hi p1 p2 0)
theorem yd_X6_spend : yX6_spend.cls = RX6 ∧ yX6_spend.cls ≠ "java/lang/invoke/MethodHandle" ∧ yX6_spend.cls ≠ "java/lang/invoke/VarHandle" ∧ (parseMethodDescriptor yX6_spend.desc).map (fun d => d.parameters.length) = some 2 := by decide +kernel
set_option maxHeartbeats 4000000 in
set_option maxRecDepth 100000 in
theorem c_X6_spend (l : Launch) (dC : Nat → ClassId) (dI : Nat → Nat → Nat) (cI cB : ClassId) (h0 h1 h2 h3 h4 : Nat) (sz : Nat) (states : Int32) (ln : Int32) (thr : Int32) (rd : Int32) (num : Int32) (due : Int32) (hash : Int64) (z : Nat → Int32) (hi : Nat → Int32) (tx : Nat → Int32) (pa : Nat → Int32) (p1 : Int32) (p2 : Int32) (eO : o_X6_spend states z hi p1 p2) : Met l yX6_spend wsX6_spend ({ frames := 5, cells := 0, slots := 0, locals := 112 }) (vm_prw [.ref h0, .int p1, .int p2] (dC, dI) [(h0, .inr (6, [.ref h1, .int states, .ref h2, .int ln, .ref h3, .int thr, .ref h4, .int rd, .int num, .int due, .long hash])), (h1, .inl (cI, 163, .inl z)), (h2, .inl (cI, 978, .inl hi)), (h3, .inl (cI, 60, .inl tx)), (h4, .inl (cI, 42, .inl pa))] cI cB sz) (va_Qi (fun (r9 : Int32) (_ : Unit) => r9 = (f_X6_spend states z hi p1 p2).1) (fun _ t => va_P (dC, dI) vwCl [(h0, .inr (6, [.ref h1, .int ((f_X6_spend states z hi p1 p2).2.1), .ref h2, .int ln, .ref h3, .int ((f_X6_spend states z hi p1 p2).2.2.1), .ref h4, .int rd, .int num, .int due, .long hash])), (h1, .inl (cI, 163, .inl ((f_X6_spend states z hi p1 p2).2.2.2.1))), (h2, .inl (cI, 978, .inl ((f_X6_spend states z hi p1 p2).2.2.2.2))), (h3, .inl (cI, 60, .inl tx)), (h4, .inl (cI, 42, .inl pa))] t.heap) (va_A [(h0, .inr (6, [.ref h1, .int states, .ref h2, .int ln, .ref h3, .int thr, .ref h4, .int rd, .int num, .int due, .long hash])), (h1, .inl (cI, 163, .inl z)), (h2, .inl (cI, 978, .inl hi)), (h3, .inl (cI, 60, .inl tx)), (h4, .inl (cI, 42, .inl pa))] sz)) 0 0 (va_A [(h0, .inr (6, [.ref h1, .int states, .ref h2, .int ln, .ref h3, .int thr, .ref h4, .int rd, .int num, .int due, .long hash])), (h1, .inl (cI, 163, .inl z)), (h2, .inl (cI, 978, .inl hi)), (h3, .inl (cI, 60, .inl tx)), (h4, .inl (cI, 42, .inl pa))] sz) := by
  refine Met.ofW (cc := cX6_spend) (maxL := 3) (ret := (some .int)) (by decide) rfl ?_
  intro p e s m args below meth c s₁ B hml hv
  obtain ⟨rfl, hsz, hP, hK, hN, hD0⟩ := hv
  have hx := B.exec
  have hb := B.bytes
  have hr := B.returns
  have hts := atoms_spec (ws := wsX6_spend) B.pre
  have hown : s.vm.findClass RX6 = some m.cls := findClass_of_methodNamed B.named
  have hlocks := B.notSynchronized
  subst hsz
  have hD := hD0.self (sz := s.heap.size)
  generalize hAe : va_A [(h0, .inr (6, [.ref h1, .int states, .ref h2, .int ln, .ref h3, .int thr, .ref h4, .int rd, .int num, .int due, .long hash])), (h1, .inl (cI, 163, .inl z)), (h2, .inl (cI, 978, .inl hi)), (h3, .inl (cI, 60, .inl tx)), (h4, .inl (cI, 42, .inl pa))] s.heap.size = A at hD ⊢
  have hA : ∀ q : Nat, s.heap.size ≤ q → A q := fun q h => by rw [← hAe]; exact Or.inr h
  have hS : va_S A s.heap s.heap [] := va_S.rf
  have hP : va_P (dC, dI) vwCl [(h0, .inr (6, [.ref h1, .int states, .ref h2, .int ln, .ref h3, .int thr, .ref h4, .int rd, .int num, .int due, .long hash])), (h1, .inl (cI, 163, .inl z)), (h2, .inl (cI, 978, .inl hi)), (h3, .inl (cI, 60, .inl tx)), (h4, .inl (cI, 42, .inl pa))] s.heap := hP
  have kw1 := hts (.fieldLink RX6 22 "LapseMandatesModel" "thrown" "I") (List.mem_of_getElem? (i := 1) rfl)
  have iwsX60 : ∀ w ∈ wsX60, w ∈ wsX6_spend := fun w h => List.mem_cons_of_mem _ (List.mem_append_right _ h)
  generalize hrr : f_X6_spend states z hi p1 p2 = rr
  have eF := hrr.symm
  have hl := lv_entry ([.ref h0, .int p1, .int p2]) (n := 3) (Nat.le_of_ble_eq_true rfl)
  rw [lg_entry_eq]
  generalize (lg_sl ([.ref h0, .int p1, .int p2]) ++ List.replicate (3 - (lg_sl ([.ref h0, .int p1, .int p2])).length) Slot.unset).toArray = ls at hl ⊢
  have hl : lv_has ls 3 [(0, .ref h0), (1, .int p1), (2, .int p2)] := hl
  have hJ39 : ∀ (s0_39 : Int32), rr = f_X6_spend_j39 states z hi p1 p2 s0_39 → o_X6_spend_j39 states z hi p1 p2 s0_39 → ∀ (H : Heap) (locs : List Loc), va_P (dC, dI) vwCl [(h0, .inr (6, [.ref h1, .int states, .ref h2, .int ln, .ref h3, .int thr, .ref h4, .int rd, .int num, .int due, .long hash])), (h1, .inl (cI, 163, .inl z)), (h2, .inl (cI, 978, .inl hi)), (h3, .inl (cI, 60, .inl tx)), (h4, .inl (cI, 42, .inl pa))] H → va_D A [(h0, .inr (6, [.ref h1, .int states, .ref h2, .int ln, .ref h3, .int thr, .ref h4, .int rd, .int num, .int due, .long hash])), (h1, .inl (cI, 163, .inl z)), (h2, .inl (cI, 978, .inl hi)), (h3, .inl (cI, 60, .inl tx)), (h4, .inl (cI, 42, .inl pa))] → va_S A s.heap H locs → ∀ (ls : Array Slot), lv_has ls 3 [(0, .ref h0), (1, .int p1), (2, .int p2)] → W p l e (headSpec wsX6_spend ({ frames := 5, cells := 0, slots := 0, locals := 112 })).room s m ([.ref h0, .int p1, .int p2] : List Value).toArray below meth c H locs 0 0 (MQ below (va_Qi (fun (r9 : Int32) (_ : Unit) => r9 = rr.1) (fun _ t => va_P (dC, dI) vwCl [(h0, .inr (6, [.ref h1, .int rr.2.1, .ref h2, .int ln, .ref h3, .int rr.2.2.1, .ref h4, .int rd, .int num, .int due, .long hash])), (h1, .inl (cI, 163, .inl rr.2.2.2.1)), (h2, .inl (cI, 978, .inl rr.2.2.2.2)), (h3, .inl (cI, 60, .inl tx)), (h4, .inl (cI, 42, .inl pa))] t.heap) A) ([.ref h0, .int p1, .int p2] : List Value).toArray s 0 0 A) (F0 m 39 ls [.int s0_39, .ref h0]) := by
    intro s0_39 eF eO H locs hP hD hS ls hl
    rw [o_X6_spend_j39] at eO
    refine va_put (D := (dC, dI)) (ci := 6) (v := .int s0_39) (ty := .int) (C := RX6) (T := TX6) (N := 11) hx hb hts iwsX60 tyX6 tyX6_ok nmX6 hown hK hP hD hS 0 rfl rfl 5 (by decide) kw1 (fun _ h9 => h9) rfl (by decide +kernel) rfl rfl (Nat.le_of_ble_eq_true rfl) dX6_spend_39 (fun H locs hP hD hS => ?_)
    have hP : va_P (dC, dI) vwCl [(h0, .inr (6, [.ref h1, .int states, .ref h2, .int ln, .ref h3, .int s0_39, .ref h4, .int rd, .int num, .int due, .long hash])), (h1, .inl (cI, 163, .inl z)), (h2, .inl (cI, 978, .inl hi)), (h3, .inl (cI, 60, .inl tx)), (h4, .inl (cI, 42, .inl pa))] H := hP
    have hD : va_D A [(h0, .inr (6, [.ref h1, .int states, .ref h2, .int ln, .ref h3, .int s0_39, .ref h4, .int rd, .int num, .int due, .long hash])), (h1, .inl (cI, 163, .inl z)), (h2, .inl (cI, 978, .inl hi)), (h3, .inl (cI, 60, .inl tx)), (h4, .inl (cI, 42, .inl pa))] := hD
    refine lv_aload_n hx hb dX6_spend_42 rfl (lv_at hl 0 rfl) ?_
    refine va_get (D := (dC, dI)) (ci := 6) (v := .int s0_39) (C := RX6) (T := TX6) (N := 11) hx hb hts iwsX60 hown hK hP 0 rfl rfl 5 (by decide) kw1 (fun _ h9 => h9) rfl dX6_spend_43 ?_
    refine lv_if_le (tgt := 51) hx hb dX6_spend_46 (by decide) (fun c_1 => ?_) (fun c_1 => ?_)
    · rw [if_pos c_1] at eO
      refine lv_aload_n hx hb dX6_spend_51 rfl (lv_at hl 0 rfl) ?_
      obtain ⟨hv_2, eO⟩ := eO
      refine vm_rwVv (As := []) (rest := []) (T := TX6) (N := 11) (wc := [(h0, .inr (6, [.ref h1, .int states, .ref h2, .int ln, .ref h3, .int s0_39, .ref h4, .int rd, .int num, .int due, .long hash])), (h1, .inl (cI, 163, .inl z)), (h2, .inl (cI, 978, .inl hi)), (h3, .inl (cI, 60, .inl tx)), (h4, .inl (cI, 42, .inl pa))]) (w1 := [(h0, .inr (6, [.ref h1, .int ((f_X6_save states z hi).1), .ref h2, .int ln, .ref h3, .int s0_39, .ref h4, .int rd, .int num, .int due, .long hash])), (h1, .inl (cI, 163, .inl z)), (h2, .inl (cI, 978, .inl ((f_X6_save states z hi).2))), (h3, .inl (cI, 60, .inl tx)), (h4, .inl (cI, 42, .inl pa))]) ⟨hx, hb, hml, hown, hts⟩ hK hN hP hD hS hA hl.1 ⟨Nat.le_of_ble_eq_true rfl, Nat.le_of_ble_eq_true rfl⟩ (c_X6_save l dC dI cI cB h0 h1 h2 h3 h4 _ states ln s0_39 rd num due hash z hi tx pa hv_2) (cwV 0 hts gX6_spend_X6_save rfl rfl rfl yd_X6_save ⟨Nat.le_of_ble_eq_true rfl, Nat.le_of_ble_eq_true rfl⟩) [0, 1, 2, 3, 4] rfl rfl rfl 6 rfl rfl rfl rfl (Nat.le_of_ble_eq_true rfl) dX6_spend_52 (fun H locs hP hD hS => ?_)
      have hP : va_P (dC, dI) vwCl [(h0, .inr (6, [.ref h1, .int ((f_X6_save states z hi).1), .ref h2, .int ln, .ref h3, .int s0_39, .ref h4, .int rd, .int num, .int due, .long hash])), (h1, .inl (cI, 163, .inl z)), (h2, .inl (cI, 978, .inl ((f_X6_save states z hi).2))), (h3, .inl (cI, 60, .inl tx)), (h4, .inl (cI, 42, .inl pa))] H := hP
      have hD : va_D A [(h0, .inr (6, [.ref h1, .int ((f_X6_save states z hi).1), .ref h2, .int ln, .ref h3, .int s0_39, .ref h4, .int rd, .int num, .int due, .long hash])), (h1, .inl (cI, 163, .inl z)), (h2, .inl (cI, 978, .inl ((f_X6_save states z hi).2))), (h3, .inl (cI, 60, .inl tx)), (h4, .inl (cI, 42, .inl pa))] := hD
      obtain ⟨states_c55, estates_c55⟩ : ∃ zz9, zz9 = (f_X6_save states z hi).1 := ⟨_, rfl⟩
      rw [← estates_c55] at hP hD
      obtain ⟨hi_c55, ehi_c55⟩ : ∃ zz9, zz9 = (f_X6_save states z hi).2 := ⟨_, rfl⟩
      rw [← ehi_c55] at hP hD
      have eF : rr = f_X6_spend_c55 z p1 p2 s0_39 states_c55 hi_c55 := eF.trans (by rw [f_X6_spend_j39, if_pos c_1, estates_c55, ehi_c55])
      have eO : o_X6_spend_c55 z p1 p2 s0_39 states_c55 hi_c55 := by rw [estates_c55, ehi_c55]; exact eO
      rw [o_X6_spend_c55] at eO
      refine lv_aload_n hx hb dX6_spend_55 rfl (lv_at hl 0 rfl) ?_
      refine lv_iload_n hx hb dX6_spend_56 rfl (lv_at hl 1 rfl) ?_
      refine lv_iload_n hx hb dX6_spend_57 rfl (lv_at hl 2 rfl) ?_
      refine lv_iconst (v := 0) hx hb dX6_spend_58 (by decide) ?_
      obtain ⟨hv_3, eO⟩ := eO
      refine vm_rwV (As := [.int p1, .int p2, .int 0]) (rest := []) (T := TX6) (N := 11) (wc := [(h0, .inr (6, [.ref h1, .int states_c55, .ref h2, .int ln, .ref h3, .int s0_39, .ref h4, .int rd, .int num, .int due, .long hash])), (h1, .inl (cI, 163, .inl z)), (h2, .inl (cI, 978, .inl hi_c55)), (h3, .inl (cI, 60, .inl tx)), (h4, .inl (cI, 42, .inl pa))]) (w1 := [(h0, .inr (6, [.ref h1, .int states_c55, .ref h2, .int ln, .ref h3, .int s0_39, .ref h4, .int rd, .int num, .int due, .long hash])), (h1, .inl (cI, 163, .inl ((f_X6_asks z p1 p2 0).2))), (h2, .inl (cI, 978, .inl hi_c55)), (h3, .inl (cI, 60, .inl tx)), (h4, .inl (cI, 42, .inl pa))]) ⟨hx, hb, hml, hown, hts⟩ hK hN hP hD hS hA hl.1 ⟨Nat.le_of_ble_eq_true rfl, Nat.le_of_ble_eq_true rfl⟩ (c_X6_asks l dC dI cI cB h0 h1 h2 h3 h4 _ states_c55 ln s0_39 rd num due hash z hi_c55 tx pa p1 p2 0 hv_3) (cwV 3 hts gX6_spend_X6_asks rfl rfl rfl yd_X6_asks ⟨Nat.le_of_ble_eq_true rfl, Nat.le_of_ble_eq_true rfl⟩) [0, 1, 2, 3, 4] rfl rfl rfl 6 rfl rfl rfl rfl (Nat.le_of_ble_eq_true rfl) dX6_spend_59 (fun r62 H locs hw hP hD hS => ?_)
      have hP : va_P (dC, dI) vwCl [(h0, .inr (6, [.ref h1, .int states_c55, .ref h2, .int ln, .ref h3, .int s0_39, .ref h4, .int rd, .int num, .int due, .long hash])), (h1, .inl (cI, 163, .inl ((f_X6_asks z p1 p2 0).2))), (h2, .inl (cI, 978, .inl hi_c55)), (h3, .inl (cI, 60, .inl tx)), (h4, .inl (cI, 42, .inl pa))] H := hP
      have hD : va_D A [(h0, .inr (6, [.ref h1, .int states_c55, .ref h2, .int ln, .ref h3, .int s0_39, .ref h4, .int rd, .int num, .int due, .long hash])), (h1, .inl (cI, 163, .inl ((f_X6_asks z p1 p2 0).2))), (h2, .inl (cI, 978, .inl hi_c55)), (h3, .inl (cI, 60, .inl tx)), (h4, .inl (cI, 42, .inl pa))] := hD
      obtain ⟨y62, ey62⟩ : ∃ zz9, zz9 = (f_X6_asks z p1 p2 0).1 := ⟨_, rfl⟩
      obtain rfl : y62 = r62 := (hw.trans ey62.symm).symm
      obtain ⟨z_c62, ez_c62⟩ : ∃ zz9, zz9 = (f_X6_asks z p1 p2 0).2 := ⟨_, rfl⟩
      rw [← ez_c62] at hP hD
      have eF : rr = f_X6_spend_c62 s0_39 states_c55 hi_c55 y62 z_c62 := eF.trans (by rw [f_X6_spend_c55, ey62, ez_c62])
      have eO : o_X6_spend_c62 s0_39 states_c55 hi_c55 y62 z_c62 := by rw [ey62, ez_c62]; exact eO
      rw [o_X6_spend_c62] at eO
      have e9 : rr = ((y62, states_c55, s0_39, z_c62, hi_c55) : Int32 × Int32 × Int32 × (Nat → Int32) × (Nat → Int32)) := eF.trans (by rw [f_X6_spend_c62])
      exact W.iret (v := y62) hx hb hr (fun t ht hW => ⟨⟨_, (), rfl, by rw [e9], (by rw [e9]; show va_P _ _ _ t.heap; rw [ht]; exact hP)⟩, hS.F ht⟩) hS.2.2 dX6_spend_62
    · rw [if_neg c_1] at eO
      refine lv_iconst (v := 0) hx hb dX6_spend_49 (by decide) ?_
      have e9 : rr = ((0, states, s0_39, z, hi) : Int32 × Int32 × Int32 × (Nat → Int32) × (Nat → Int32)) := eF.trans (by rw [f_X6_spend_j39, if_neg c_1])
      exact W.iret (v := 0) hx hb hr (fun t ht hW => ⟨⟨_, (), rfl, by rw [e9], (by rw [e9]; show va_P _ _ _ t.heap; rw [ht]; exact hP)⟩, hS.F ht⟩) hS.2.2 dX6_spend_50
  rw [o_X6_spend] at eO
  refine lv_aload_n hx hb dX6_spend_0 rfl (lv_at hl 0 rfl) ?_
  refine lv_aload_n hx hb dX6_spend_1 rfl (lv_at hl 0 rfl) ?_
  refine lv_iload_n hx hb dX6_spend_2 rfl (lv_at hl 1 rfl) ?_
  refine vm_roVx (v := vm_bi (f_X6_isMandate z p1)) (As := [.int p1]) (rest := [.ref h0]) (T := TX6) (N := 11) (wc := [(h0, .inr (6, [.ref h1, .int states, .ref h2, .int ln, .ref h3, .int thr, .ref h4, .int rd, .int num, .int due, .long hash])), (h1, .inl (cI, 163, .inl z)), (h2, .inl (cI, 978, .inl hi)), (h3, .inl (cI, 60, .inl tx)), (h4, .inl (cI, 42, .inl pa))]) ⟨hx, hb, hml, hown, hts⟩ hK hN hP hl.1 ⟨Nat.le_of_ble_eq_true rfl, Nat.le_of_ble_eq_true rfl⟩ (c_X6_isMandate l dC dI cI cB h0 h1 h2 h3 h4 states ln thr rd num due hash z hi tx pa p1) (cwV 1 hts gX6_spend_X6_isMandate rfl rfl rfl yd_X6_isMandate ⟨Nat.le_of_ble_eq_true rfl, Nat.le_of_ble_eq_true rfl⟩) [0, 1, 2, 3, 4] rfl 6 rfl rfl rfl rfl (Nat.le_of_ble_eq_true rfl) dX6_spend_3 ?_
  refine lv_if_ne (tgt := 13) hx hb dX6_spend_6 (by decide) (fun c_4 => ?_) (fun c_4 => ?_)
  · rw [if_neg c_4] at eO
    refine lv_iload_n hx hb dX6_spend_13 rfl (lv_at hl 2 rfl) ?_
    refine vm_roSx (v := vm_bi (f_X6_isMoney p2)) (As := [.int p2]) (rest := [.ref h0]) ⟨hx, hb, hml, hown, hts⟩ hK hN hP hl.1 ⟨Nat.le_of_ble_eq_true rfl, Nat.le_of_ble_eq_true rfl⟩ (c_X6_isMoney l dC dI cI cB p2) (va_cwS 1 hts gX6_spend_X6_isMoney rfl rfl rfl yd_X6_isMoney ⟨Nat.le_of_ble_eq_true rfl, Nat.le_of_ble_eq_true rfl⟩) rfl rfl (Nat.le_of_ble_eq_true rfl) dX6_spend_14 ?_
    refine lv_if_ne (tgt := 24) hx hb dX6_spend_17 (by decide) (fun c_5 => ?_) (fun c_5 => ?_)
    · rw [if_neg c_5] at eO
      refine lv_aload_n hx hb dX6_spend_24 rfl (lv_at hl 0 rfl) ?_
      refine lv_iload_n hx hb dX6_spend_25 rfl (lv_at hl 1 rfl) ?_
      refine lv_iload_n hx hb dX6_spend_26 rfl (lv_at hl 2 rfl) ?_
      refine lv_iconst (v := 0) hx hb dX6_spend_27 (by decide) ?_
      obtain ⟨hv_6, eO⟩ := eO
      refine vm_roVx (v := vm_bi (f_X6_canAsk z p1 p2 0)) (As := [.int p1, .int p2, .int 0]) (rest := [.ref h0]) (T := TX6) (N := 11) (wc := [(h0, .inr (6, [.ref h1, .int states, .ref h2, .int ln, .ref h3, .int thr, .ref h4, .int rd, .int num, .int due, .long hash])), (h1, .inl (cI, 163, .inl z)), (h2, .inl (cI, 978, .inl hi)), (h3, .inl (cI, 60, .inl tx)), (h4, .inl (cI, 42, .inl pa))]) ⟨hx, hb, hml, hown, hts⟩ hK hN hP hl.1 ⟨Nat.le_of_ble_eq_true rfl, Nat.le_of_ble_eq_true rfl⟩ (c_X6_canAsk l dC dI cI cB h0 h1 h2 h3 h4 states ln thr rd num due hash z hi tx pa p1 p2 0 hv_6) (cwV 3 hts gX6_spend_X6_canAsk rfl rfl rfl yd_X6_canAsk ⟨Nat.le_of_ble_eq_true rfl, Nat.le_of_ble_eq_true rfl⟩) [0, 1, 2, 3, 4] rfl 6 rfl rfl rfl rfl (Nat.le_of_ble_eq_true rfl) dX6_spend_28 ?_
      refine lv_if_eq (tgt := 38) hx hb dX6_spend_31 (by decide) (fun c_7 => ?_) (fun c_7 => ?_)
      · rw [if_pos c_7] at eO
        refine lv_iconst (v := 3) hx hb dX6_spend_38 (by decide) ?_
        exact hJ39 3 (eF.trans (by rw [f_X6_spend, if_neg c_4, if_neg c_5, if_pos c_7])) eO _ _ hP hD hS ls (lv_sub hl [0, 1, 2] rfl)
      · rw [if_neg c_7] at eO
        refine lv_iconst (v := 0) hx hb dX6_spend_34 (by decide) ?_
        refine lv_goto (tgt := 39) hx hb dX6_spend_35 (by decide) ?_
        exact hJ39 0 (eF.trans (by rw [f_X6_spend, if_neg c_4, if_neg c_5, if_neg c_7])) eO _ _ hP hD hS ls (lv_sub hl [0, 1, 2] rfl)
    · rw [if_pos c_5] at eO
      refine lv_iconst (v := 2) hx hb dX6_spend_20 (by decide) ?_
      refine lv_goto (tgt := 39) hx hb dX6_spend_21 (by decide) ?_
      exact hJ39 2 (eF.trans (by rw [f_X6_spend, if_neg c_4, if_pos c_5])) eO _ _ hP hD hS ls (lv_sub hl [0, 1, 2] rfl)
  · rw [if_pos c_4] at eO
    refine lv_iconst (v := 1) hx hb dX6_spend_9 (by decide) ?_
    refine lv_goto (tgt := 39) hx hb dX6_spend_10 (by decide) ?_
    exact hJ39 1 (eF.trans (by rw [f_X6_spend, if_pos c_4])) eO _ _ hP hD hS ls (lv_sub hl [0, 1, 2] rfl)

def f_X6_urge_c62 (s0_39 : Int32) (states_c55 : Int32) (hi_c55 : Nat → Int32) (y62 : Int32) (z_c62 : Nat → Int32) : Int32 × Int32 × Int32 × (Nat → Int32) × (Nat → Int32) :=
  (y62, states_c55, s0_39, z_c62, hi_c55)
def f_X6_urge_c55 (z : Nat → Int32) (p1 : Int32) (p2 : Int32) (s0_39 : Int32) (states_c55 : Int32) (hi_c55 : Nat → Int32) : Int32 × Int32 × Int32 × (Nat → Int32) × (Nat → Int32) :=
  f_X6_urge_c62 s0_39 states_c55 hi_c55 ((f_X6_asks z p1 p2 1).1) ((f_X6_asks z p1 p2 1).2)
def f_X6_urge_j39 (states : Int32) (z : Nat → Int32) (hi : Nat → Int32) (p1 : Int32) (p2 : Int32) (s0_39 : Int32) : Int32 × Int32 × Int32 × (Nat → Int32) × (Nat → Int32) :=
  if s0_39 ≤ 0 then
    f_X6_urge_c55 z p1 p2 s0_39 ((f_X6_save states z hi).1) ((f_X6_save states z hi).2)
  else
    (0, states, s0_39, z, hi)
def f_X6_urge (states : Int32) (z : Nat → Int32) (hi : Nat → Int32) (p1 : Int32) (p2 : Int32) : Int32 × Int32 × Int32 × (Nat → Int32) × (Nat → Int32) :=
  if (vm_bi (f_X6_isMandate z p1)) = 0 then
    f_X6_urge_j39 states z hi p1 p2 1
  else
    if (vm_bi (f_X6_isMoney p2)) = 0 then
      f_X6_urge_j39 states z hi p1 p2 2
    else
      if (vm_bi (f_X6_canAsk z p1 p2 1)) = 0 then
        f_X6_urge_j39 states z hi p1 p2 3
      else
        f_X6_urge_j39 states z hi p1 p2 0
def o_X6_urge_c62 (s0_39 : Int32) (states_c55 : Int32) (hi_c55 : Nat → Int32) (y62 : Int32) (z_c62 : Nat → Int32) : Prop :=
  True
def o_X6_urge_c55 (z : Nat → Int32) (p1 : Int32) (p2 : Int32) (s0_39 : Int32) (states_c55 : Int32) (hi_c55 : Nat → Int32) : Prop :=
  o_X6_asks z p1 p2 1 ∧
  (o_X6_urge_c62 s0_39 states_c55 hi_c55 ((f_X6_asks z p1 p2 1).1) ((f_X6_asks z p1 p2 1).2))
def o_X6_urge_j39 (states : Int32) (z : Nat → Int32) (hi : Nat → Int32) (p1 : Int32) (p2 : Int32) (s0_39 : Int32) : Prop :=
  if s0_39 ≤ 0 then
    o_X6_save states z hi ∧
    (o_X6_urge_c55 z p1 p2 s0_39 ((f_X6_save states z hi).1) ((f_X6_save states z hi).2))
  else
    True
def o_X6_urge (states : Int32) (z : Nat → Int32) (hi : Nat → Int32) (p1 : Int32) (p2 : Int32) : Prop :=
  if (vm_bi (f_X6_isMandate z p1)) = 0 then
    o_X6_urge_j39 states z hi p1 p2 1
  else
    if (vm_bi (f_X6_isMoney p2)) = 0 then
      o_X6_urge_j39 states z hi p1 p2 2
    else
      o_X6_canAsk z p1 p2 1 ∧
      (if (vm_bi (f_X6_canAsk z p1 p2 1)) = 0 then
        o_X6_urge_j39 states z hi p1 p2 3
      else
        o_X6_urge_j39 states z hi p1 p2 0)
theorem yd_X6_urge : yX6_urge.cls = RX6 ∧ yX6_urge.cls ≠ "java/lang/invoke/MethodHandle" ∧ yX6_urge.cls ≠ "java/lang/invoke/VarHandle" ∧ (parseMethodDescriptor yX6_urge.desc).map (fun d => d.parameters.length) = some 2 := by decide +kernel
set_option maxHeartbeats 4000000 in
set_option maxRecDepth 100000 in
theorem c_X6_urge (l : Launch) (dC : Nat → ClassId) (dI : Nat → Nat → Nat) (cI cB : ClassId) (h0 h1 h2 h3 h4 : Nat) (sz : Nat) (states : Int32) (ln : Int32) (thr : Int32) (rd : Int32) (num : Int32) (due : Int32) (hash : Int64) (z : Nat → Int32) (hi : Nat → Int32) (tx : Nat → Int32) (pa : Nat → Int32) (p1 : Int32) (p2 : Int32) (eO : o_X6_urge states z hi p1 p2) : Met l yX6_urge wsX6_urge ({ frames := 5, cells := 0, slots := 0, locals := 112 }) (vm_prw [.ref h0, .int p1, .int p2] (dC, dI) [(h0, .inr (6, [.ref h1, .int states, .ref h2, .int ln, .ref h3, .int thr, .ref h4, .int rd, .int num, .int due, .long hash])), (h1, .inl (cI, 163, .inl z)), (h2, .inl (cI, 978, .inl hi)), (h3, .inl (cI, 60, .inl tx)), (h4, .inl (cI, 42, .inl pa))] cI cB sz) (va_Qi (fun (r9 : Int32) (_ : Unit) => r9 = (f_X6_urge states z hi p1 p2).1) (fun _ t => va_P (dC, dI) vwCl [(h0, .inr (6, [.ref h1, .int ((f_X6_urge states z hi p1 p2).2.1), .ref h2, .int ln, .ref h3, .int ((f_X6_urge states z hi p1 p2).2.2.1), .ref h4, .int rd, .int num, .int due, .long hash])), (h1, .inl (cI, 163, .inl ((f_X6_urge states z hi p1 p2).2.2.2.1))), (h2, .inl (cI, 978, .inl ((f_X6_urge states z hi p1 p2).2.2.2.2))), (h3, .inl (cI, 60, .inl tx)), (h4, .inl (cI, 42, .inl pa))] t.heap) (va_A [(h0, .inr (6, [.ref h1, .int states, .ref h2, .int ln, .ref h3, .int thr, .ref h4, .int rd, .int num, .int due, .long hash])), (h1, .inl (cI, 163, .inl z)), (h2, .inl (cI, 978, .inl hi)), (h3, .inl (cI, 60, .inl tx)), (h4, .inl (cI, 42, .inl pa))] sz)) 0 0 (va_A [(h0, .inr (6, [.ref h1, .int states, .ref h2, .int ln, .ref h3, .int thr, .ref h4, .int rd, .int num, .int due, .long hash])), (h1, .inl (cI, 163, .inl z)), (h2, .inl (cI, 978, .inl hi)), (h3, .inl (cI, 60, .inl tx)), (h4, .inl (cI, 42, .inl pa))] sz) := by
  refine Met.ofW (cc := cX6_urge) (maxL := 3) (ret := (some .int)) (by decide) rfl ?_
  intro p e s m args below meth c s₁ B hml hv
  obtain ⟨rfl, hsz, hP, hK, hN, hD0⟩ := hv
  have hx := B.exec
  have hb := B.bytes
  have hr := B.returns
  have hts := atoms_spec (ws := wsX6_urge) B.pre
  have hown : s.vm.findClass RX6 = some m.cls := findClass_of_methodNamed B.named
  have hlocks := B.notSynchronized
  subst hsz
  have hD := hD0.self (sz := s.heap.size)
  generalize hAe : va_A [(h0, .inr (6, [.ref h1, .int states, .ref h2, .int ln, .ref h3, .int thr, .ref h4, .int rd, .int num, .int due, .long hash])), (h1, .inl (cI, 163, .inl z)), (h2, .inl (cI, 978, .inl hi)), (h3, .inl (cI, 60, .inl tx)), (h4, .inl (cI, 42, .inl pa))] s.heap.size = A at hD ⊢
  have hA : ∀ q : Nat, s.heap.size ≤ q → A q := fun q h => by rw [← hAe]; exact Or.inr h
  have hS : va_S A s.heap s.heap [] := va_S.rf
  have hP : va_P (dC, dI) vwCl [(h0, .inr (6, [.ref h1, .int states, .ref h2, .int ln, .ref h3, .int thr, .ref h4, .int rd, .int num, .int due, .long hash])), (h1, .inl (cI, 163, .inl z)), (h2, .inl (cI, 978, .inl hi)), (h3, .inl (cI, 60, .inl tx)), (h4, .inl (cI, 42, .inl pa))] s.heap := hP
  have kw1 := hts (.fieldLink RX6 22 "LapseMandatesModel" "thrown" "I") (List.mem_of_getElem? (i := 1) rfl)
  have iwsX60 : ∀ w ∈ wsX60, w ∈ wsX6_urge := fun w h => List.mem_cons_of_mem _ (List.mem_append_right _ h)
  generalize hrr : f_X6_urge states z hi p1 p2 = rr
  have eF := hrr.symm
  have hl := lv_entry ([.ref h0, .int p1, .int p2]) (n := 3) (Nat.le_of_ble_eq_true rfl)
  rw [lg_entry_eq]
  generalize (lg_sl ([.ref h0, .int p1, .int p2]) ++ List.replicate (3 - (lg_sl ([.ref h0, .int p1, .int p2])).length) Slot.unset).toArray = ls at hl ⊢
  have hl : lv_has ls 3 [(0, .ref h0), (1, .int p1), (2, .int p2)] := hl
  have hJ39 : ∀ (s0_39 : Int32), rr = f_X6_urge_j39 states z hi p1 p2 s0_39 → o_X6_urge_j39 states z hi p1 p2 s0_39 → ∀ (H : Heap) (locs : List Loc), va_P (dC, dI) vwCl [(h0, .inr (6, [.ref h1, .int states, .ref h2, .int ln, .ref h3, .int thr, .ref h4, .int rd, .int num, .int due, .long hash])), (h1, .inl (cI, 163, .inl z)), (h2, .inl (cI, 978, .inl hi)), (h3, .inl (cI, 60, .inl tx)), (h4, .inl (cI, 42, .inl pa))] H → va_D A [(h0, .inr (6, [.ref h1, .int states, .ref h2, .int ln, .ref h3, .int thr, .ref h4, .int rd, .int num, .int due, .long hash])), (h1, .inl (cI, 163, .inl z)), (h2, .inl (cI, 978, .inl hi)), (h3, .inl (cI, 60, .inl tx)), (h4, .inl (cI, 42, .inl pa))] → va_S A s.heap H locs → ∀ (ls : Array Slot), lv_has ls 3 [(0, .ref h0), (1, .int p1), (2, .int p2)] → W p l e (headSpec wsX6_urge ({ frames := 5, cells := 0, slots := 0, locals := 112 })).room s m ([.ref h0, .int p1, .int p2] : List Value).toArray below meth c H locs 0 0 (MQ below (va_Qi (fun (r9 : Int32) (_ : Unit) => r9 = rr.1) (fun _ t => va_P (dC, dI) vwCl [(h0, .inr (6, [.ref h1, .int rr.2.1, .ref h2, .int ln, .ref h3, .int rr.2.2.1, .ref h4, .int rd, .int num, .int due, .long hash])), (h1, .inl (cI, 163, .inl rr.2.2.2.1)), (h2, .inl (cI, 978, .inl rr.2.2.2.2)), (h3, .inl (cI, 60, .inl tx)), (h4, .inl (cI, 42, .inl pa))] t.heap) A) ([.ref h0, .int p1, .int p2] : List Value).toArray s 0 0 A) (F0 m 39 ls [.int s0_39, .ref h0]) := by
    intro s0_39 eF eO H locs hP hD hS ls hl
    rw [o_X6_urge_j39] at eO
    refine va_put (D := (dC, dI)) (ci := 6) (v := .int s0_39) (ty := .int) (C := RX6) (T := TX6) (N := 11) hx hb hts iwsX60 tyX6 tyX6_ok nmX6 hown hK hP hD hS 0 rfl rfl 5 (by decide) kw1 (fun _ h9 => h9) rfl (by decide +kernel) rfl rfl (Nat.le_of_ble_eq_true rfl) dX6_urge_39 (fun H locs hP hD hS => ?_)
    have hP : va_P (dC, dI) vwCl [(h0, .inr (6, [.ref h1, .int states, .ref h2, .int ln, .ref h3, .int s0_39, .ref h4, .int rd, .int num, .int due, .long hash])), (h1, .inl (cI, 163, .inl z)), (h2, .inl (cI, 978, .inl hi)), (h3, .inl (cI, 60, .inl tx)), (h4, .inl (cI, 42, .inl pa))] H := hP
    have hD : va_D A [(h0, .inr (6, [.ref h1, .int states, .ref h2, .int ln, .ref h3, .int s0_39, .ref h4, .int rd, .int num, .int due, .long hash])), (h1, .inl (cI, 163, .inl z)), (h2, .inl (cI, 978, .inl hi)), (h3, .inl (cI, 60, .inl tx)), (h4, .inl (cI, 42, .inl pa))] := hD
    refine lv_aload_n hx hb dX6_urge_42 rfl (lv_at hl 0 rfl) ?_
    refine va_get (D := (dC, dI)) (ci := 6) (v := .int s0_39) (C := RX6) (T := TX6) (N := 11) hx hb hts iwsX60 hown hK hP 0 rfl rfl 5 (by decide) kw1 (fun _ h9 => h9) rfl dX6_urge_43 ?_
    refine lv_if_le (tgt := 51) hx hb dX6_urge_46 (by decide) (fun c_1 => ?_) (fun c_1 => ?_)
    · rw [if_pos c_1] at eO
      refine lv_aload_n hx hb dX6_urge_51 rfl (lv_at hl 0 rfl) ?_
      obtain ⟨hv_2, eO⟩ := eO
      refine vm_rwVv (As := []) (rest := []) (T := TX6) (N := 11) (wc := [(h0, .inr (6, [.ref h1, .int states, .ref h2, .int ln, .ref h3, .int s0_39, .ref h4, .int rd, .int num, .int due, .long hash])), (h1, .inl (cI, 163, .inl z)), (h2, .inl (cI, 978, .inl hi)), (h3, .inl (cI, 60, .inl tx)), (h4, .inl (cI, 42, .inl pa))]) (w1 := [(h0, .inr (6, [.ref h1, .int ((f_X6_save states z hi).1), .ref h2, .int ln, .ref h3, .int s0_39, .ref h4, .int rd, .int num, .int due, .long hash])), (h1, .inl (cI, 163, .inl z)), (h2, .inl (cI, 978, .inl ((f_X6_save states z hi).2))), (h3, .inl (cI, 60, .inl tx)), (h4, .inl (cI, 42, .inl pa))]) ⟨hx, hb, hml, hown, hts⟩ hK hN hP hD hS hA hl.1 ⟨Nat.le_of_ble_eq_true rfl, Nat.le_of_ble_eq_true rfl⟩ (c_X6_save l dC dI cI cB h0 h1 h2 h3 h4 _ states ln s0_39 rd num due hash z hi tx pa hv_2) (cwV 0 hts gX6_urge_X6_save rfl rfl rfl yd_X6_save ⟨Nat.le_of_ble_eq_true rfl, Nat.le_of_ble_eq_true rfl⟩) [0, 1, 2, 3, 4] rfl rfl rfl 6 rfl rfl rfl rfl (Nat.le_of_ble_eq_true rfl) dX6_urge_52 (fun H locs hP hD hS => ?_)
      have hP : va_P (dC, dI) vwCl [(h0, .inr (6, [.ref h1, .int ((f_X6_save states z hi).1), .ref h2, .int ln, .ref h3, .int s0_39, .ref h4, .int rd, .int num, .int due, .long hash])), (h1, .inl (cI, 163, .inl z)), (h2, .inl (cI, 978, .inl ((f_X6_save states z hi).2))), (h3, .inl (cI, 60, .inl tx)), (h4, .inl (cI, 42, .inl pa))] H := hP
      have hD : va_D A [(h0, .inr (6, [.ref h1, .int ((f_X6_save states z hi).1), .ref h2, .int ln, .ref h3, .int s0_39, .ref h4, .int rd, .int num, .int due, .long hash])), (h1, .inl (cI, 163, .inl z)), (h2, .inl (cI, 978, .inl ((f_X6_save states z hi).2))), (h3, .inl (cI, 60, .inl tx)), (h4, .inl (cI, 42, .inl pa))] := hD
      obtain ⟨states_c55, estates_c55⟩ : ∃ zz9, zz9 = (f_X6_save states z hi).1 := ⟨_, rfl⟩
      rw [← estates_c55] at hP hD
      obtain ⟨hi_c55, ehi_c55⟩ : ∃ zz9, zz9 = (f_X6_save states z hi).2 := ⟨_, rfl⟩
      rw [← ehi_c55] at hP hD
      have eF : rr = f_X6_urge_c55 z p1 p2 s0_39 states_c55 hi_c55 := eF.trans (by rw [f_X6_urge_j39, if_pos c_1, estates_c55, ehi_c55])
      have eO : o_X6_urge_c55 z p1 p2 s0_39 states_c55 hi_c55 := by rw [estates_c55, ehi_c55]; exact eO
      rw [o_X6_urge_c55] at eO
      refine lv_aload_n hx hb dX6_urge_55 rfl (lv_at hl 0 rfl) ?_
      refine lv_iload_n hx hb dX6_urge_56 rfl (lv_at hl 1 rfl) ?_
      refine lv_iload_n hx hb dX6_urge_57 rfl (lv_at hl 2 rfl) ?_
      refine lv_iconst (v := 1) hx hb dX6_urge_58 (by decide) ?_
      obtain ⟨hv_3, eO⟩ := eO
      refine vm_rwV (As := [.int p1, .int p2, .int 1]) (rest := []) (T := TX6) (N := 11) (wc := [(h0, .inr (6, [.ref h1, .int states_c55, .ref h2, .int ln, .ref h3, .int s0_39, .ref h4, .int rd, .int num, .int due, .long hash])), (h1, .inl (cI, 163, .inl z)), (h2, .inl (cI, 978, .inl hi_c55)), (h3, .inl (cI, 60, .inl tx)), (h4, .inl (cI, 42, .inl pa))]) (w1 := [(h0, .inr (6, [.ref h1, .int states_c55, .ref h2, .int ln, .ref h3, .int s0_39, .ref h4, .int rd, .int num, .int due, .long hash])), (h1, .inl (cI, 163, .inl ((f_X6_asks z p1 p2 1).2))), (h2, .inl (cI, 978, .inl hi_c55)), (h3, .inl (cI, 60, .inl tx)), (h4, .inl (cI, 42, .inl pa))]) ⟨hx, hb, hml, hown, hts⟩ hK hN hP hD hS hA hl.1 ⟨Nat.le_of_ble_eq_true rfl, Nat.le_of_ble_eq_true rfl⟩ (c_X6_asks l dC dI cI cB h0 h1 h2 h3 h4 _ states_c55 ln s0_39 rd num due hash z hi_c55 tx pa p1 p2 1 hv_3) (cwV 3 hts gX6_urge_X6_asks rfl rfl rfl yd_X6_asks ⟨Nat.le_of_ble_eq_true rfl, Nat.le_of_ble_eq_true rfl⟩) [0, 1, 2, 3, 4] rfl rfl rfl 6 rfl rfl rfl rfl (Nat.le_of_ble_eq_true rfl) dX6_urge_59 (fun r62 H locs hw hP hD hS => ?_)
      have hP : va_P (dC, dI) vwCl [(h0, .inr (6, [.ref h1, .int states_c55, .ref h2, .int ln, .ref h3, .int s0_39, .ref h4, .int rd, .int num, .int due, .long hash])), (h1, .inl (cI, 163, .inl ((f_X6_asks z p1 p2 1).2))), (h2, .inl (cI, 978, .inl hi_c55)), (h3, .inl (cI, 60, .inl tx)), (h4, .inl (cI, 42, .inl pa))] H := hP
      have hD : va_D A [(h0, .inr (6, [.ref h1, .int states_c55, .ref h2, .int ln, .ref h3, .int s0_39, .ref h4, .int rd, .int num, .int due, .long hash])), (h1, .inl (cI, 163, .inl ((f_X6_asks z p1 p2 1).2))), (h2, .inl (cI, 978, .inl hi_c55)), (h3, .inl (cI, 60, .inl tx)), (h4, .inl (cI, 42, .inl pa))] := hD
      obtain ⟨y62, ey62⟩ : ∃ zz9, zz9 = (f_X6_asks z p1 p2 1).1 := ⟨_, rfl⟩
      obtain rfl : y62 = r62 := (hw.trans ey62.symm).symm
      obtain ⟨z_c62, ez_c62⟩ : ∃ zz9, zz9 = (f_X6_asks z p1 p2 1).2 := ⟨_, rfl⟩
      rw [← ez_c62] at hP hD
      have eF : rr = f_X6_urge_c62 s0_39 states_c55 hi_c55 y62 z_c62 := eF.trans (by rw [f_X6_urge_c55, ey62, ez_c62])
      have eO : o_X6_urge_c62 s0_39 states_c55 hi_c55 y62 z_c62 := by rw [ey62, ez_c62]; exact eO
      rw [o_X6_urge_c62] at eO
      have e9 : rr = ((y62, states_c55, s0_39, z_c62, hi_c55) : Int32 × Int32 × Int32 × (Nat → Int32) × (Nat → Int32)) := eF.trans (by rw [f_X6_urge_c62])
      exact W.iret (v := y62) hx hb hr (fun t ht hW => ⟨⟨_, (), rfl, by rw [e9], (by rw [e9]; show va_P _ _ _ t.heap; rw [ht]; exact hP)⟩, hS.F ht⟩) hS.2.2 dX6_urge_62
    · rw [if_neg c_1] at eO
      refine lv_iconst (v := 0) hx hb dX6_urge_49 (by decide) ?_
      have e9 : rr = ((0, states, s0_39, z, hi) : Int32 × Int32 × Int32 × (Nat → Int32) × (Nat → Int32)) := eF.trans (by rw [f_X6_urge_j39, if_neg c_1])
      exact W.iret (v := 0) hx hb hr (fun t ht hW => ⟨⟨_, (), rfl, by rw [e9], (by rw [e9]; show va_P _ _ _ t.heap; rw [ht]; exact hP)⟩, hS.F ht⟩) hS.2.2 dX6_urge_50
  rw [o_X6_urge] at eO
  refine lv_aload_n hx hb dX6_urge_0 rfl (lv_at hl 0 rfl) ?_
  refine lv_aload_n hx hb dX6_urge_1 rfl (lv_at hl 0 rfl) ?_
  refine lv_iload_n hx hb dX6_urge_2 rfl (lv_at hl 1 rfl) ?_
  refine vm_roVx (v := vm_bi (f_X6_isMandate z p1)) (As := [.int p1]) (rest := [.ref h0]) (T := TX6) (N := 11) (wc := [(h0, .inr (6, [.ref h1, .int states, .ref h2, .int ln, .ref h3, .int thr, .ref h4, .int rd, .int num, .int due, .long hash])), (h1, .inl (cI, 163, .inl z)), (h2, .inl (cI, 978, .inl hi)), (h3, .inl (cI, 60, .inl tx)), (h4, .inl (cI, 42, .inl pa))]) ⟨hx, hb, hml, hown, hts⟩ hK hN hP hl.1 ⟨Nat.le_of_ble_eq_true rfl, Nat.le_of_ble_eq_true rfl⟩ (c_X6_isMandate l dC dI cI cB h0 h1 h2 h3 h4 states ln thr rd num due hash z hi tx pa p1) (cwV 1 hts gX6_urge_X6_isMandate rfl rfl rfl yd_X6_isMandate ⟨Nat.le_of_ble_eq_true rfl, Nat.le_of_ble_eq_true rfl⟩) [0, 1, 2, 3, 4] rfl 6 rfl rfl rfl rfl (Nat.le_of_ble_eq_true rfl) dX6_urge_3 ?_
  refine lv_if_ne (tgt := 13) hx hb dX6_urge_6 (by decide) (fun c_4 => ?_) (fun c_4 => ?_)
  · rw [if_neg c_4] at eO
    refine lv_iload_n hx hb dX6_urge_13 rfl (lv_at hl 2 rfl) ?_
    refine vm_roSx (v := vm_bi (f_X6_isMoney p2)) (As := [.int p2]) (rest := [.ref h0]) ⟨hx, hb, hml, hown, hts⟩ hK hN hP hl.1 ⟨Nat.le_of_ble_eq_true rfl, Nat.le_of_ble_eq_true rfl⟩ (c_X6_isMoney l dC dI cI cB p2) (va_cwS 1 hts gX6_urge_X6_isMoney rfl rfl rfl yd_X6_isMoney ⟨Nat.le_of_ble_eq_true rfl, Nat.le_of_ble_eq_true rfl⟩) rfl rfl (Nat.le_of_ble_eq_true rfl) dX6_urge_14 ?_
    refine lv_if_ne (tgt := 24) hx hb dX6_urge_17 (by decide) (fun c_5 => ?_) (fun c_5 => ?_)
    · rw [if_neg c_5] at eO
      refine lv_aload_n hx hb dX6_urge_24 rfl (lv_at hl 0 rfl) ?_
      refine lv_iload_n hx hb dX6_urge_25 rfl (lv_at hl 1 rfl) ?_
      refine lv_iload_n hx hb dX6_urge_26 rfl (lv_at hl 2 rfl) ?_
      refine lv_iconst (v := 1) hx hb dX6_urge_27 (by decide) ?_
      obtain ⟨hv_6, eO⟩ := eO
      refine vm_roVx (v := vm_bi (f_X6_canAsk z p1 p2 1)) (As := [.int p1, .int p2, .int 1]) (rest := [.ref h0]) (T := TX6) (N := 11) (wc := [(h0, .inr (6, [.ref h1, .int states, .ref h2, .int ln, .ref h3, .int thr, .ref h4, .int rd, .int num, .int due, .long hash])), (h1, .inl (cI, 163, .inl z)), (h2, .inl (cI, 978, .inl hi)), (h3, .inl (cI, 60, .inl tx)), (h4, .inl (cI, 42, .inl pa))]) ⟨hx, hb, hml, hown, hts⟩ hK hN hP hl.1 ⟨Nat.le_of_ble_eq_true rfl, Nat.le_of_ble_eq_true rfl⟩ (c_X6_canAsk l dC dI cI cB h0 h1 h2 h3 h4 states ln thr rd num due hash z hi tx pa p1 p2 1 hv_6) (cwV 3 hts gX6_urge_X6_canAsk rfl rfl rfl yd_X6_canAsk ⟨Nat.le_of_ble_eq_true rfl, Nat.le_of_ble_eq_true rfl⟩) [0, 1, 2, 3, 4] rfl 6 rfl rfl rfl rfl (Nat.le_of_ble_eq_true rfl) dX6_urge_28 ?_
      refine lv_if_eq (tgt := 38) hx hb dX6_urge_31 (by decide) (fun c_7 => ?_) (fun c_7 => ?_)
      · rw [if_pos c_7] at eO
        refine lv_iconst (v := 3) hx hb dX6_urge_38 (by decide) ?_
        exact hJ39 3 (eF.trans (by rw [f_X6_urge, if_neg c_4, if_neg c_5, if_pos c_7])) eO _ _ hP hD hS ls (lv_sub hl [0, 1, 2] rfl)
      · rw [if_neg c_7] at eO
        refine lv_iconst (v := 0) hx hb dX6_urge_34 (by decide) ?_
        refine lv_goto (tgt := 39) hx hb dX6_urge_35 (by decide) ?_
        exact hJ39 0 (eF.trans (by rw [f_X6_urge, if_neg c_4, if_neg c_5, if_neg c_7])) eO _ _ hP hD hS ls (lv_sub hl [0, 1, 2] rfl)
    · rw [if_pos c_5] at eO
      refine lv_iconst (v := 2) hx hb dX6_urge_20 (by decide) ?_
      refine lv_goto (tgt := 39) hx hb dX6_urge_21 (by decide) ?_
      exact hJ39 2 (eF.trans (by rw [f_X6_urge, if_neg c_4, if_pos c_5])) eO _ _ hP hD hS ls (lv_sub hl [0, 1, 2] rfl)
  · rw [if_pos c_4] at eO
    refine lv_iconst (v := 1) hx hb dX6_urge_9 (by decide) ?_
    refine lv_goto (tgt := 39) hx hb dX6_urge_10 (by decide) ?_
    exact hJ39 1 (eF.trans (by rw [f_X6_urge, if_pos c_4])) eO _ _ hP hD hS ls (lv_sub hl [0, 1, 2] rfl)

def f_X6_end_c71 (z_c71 : Nat → Int32) : Int32 × (Nat → Int32) :=
  (1, z_c71)
def f_X6_end_c36 (z : Nat → Int32) (p1 : Int32) (s0_29 : Bool) (z_c36 : Nat → Int32) : Int32 × (Nat → Int32) :=
  if (vm_bi s0_29) = 0 then
    if (f_X6_reason z_c36 (f_X6_ofRequest z p1 0) (f_X6_ofRequest z p1 1)) ≤ 0 then
      f_X6_end_c71 (f_X6_make z_c36 (f_X6_ofRequest z p1 0) (f_X6_ofRequest z p1 1))
    else
      (2, (upd z_c36 (Int32.toNatClampNeg 9) ((z_c36 (Int32.toNatClampNeg 9)) + 1)))
  else
    (1, z_c36)
def f_X6_end_j29 (z : Nat → Int32) (p1 : Int32) (s0_29 : Bool) : Int32 × (Nat → Int32) :=
  f_X6_end_c36 z p1 s0_29 (f_X6_removeRequest z p1)
def f_X6_end (z : Nat → Int32) (p1 : Int32) : Int32 × (Nat → Int32) :=
  if (f_X6_ofRequest z p1 3) = 1 then
    f_X6_end_j29 z p1 true
  else
    f_X6_end_j29 z p1 false
def o_X6_end_c71 (z_c71 : Nat → Int32) : Prop :=
  True
def o_X6_end_c36 (z : Nat → Int32) (p1 : Int32) (s0_29 : Bool) (z_c36 : Nat → Int32) : Prop :=
  if (vm_bi s0_29) = 0 then
    o_X6_reason z_c36 (f_X6_ofRequest z p1 0) (f_X6_ofRequest z p1 1) ∧
    (if (f_X6_reason z_c36 (f_X6_ofRequest z p1 0) (f_X6_ofRequest z p1 1)) ≤ 0 then
      o_X6_make z_c36 (f_X6_ofRequest z p1 0) (f_X6_ofRequest z p1 1) ∧
      (o_X6_end_c71 (f_X6_make z_c36 (f_X6_ofRequest z p1 0) (f_X6_ofRequest z p1 1)))
    else
      True)
  else
    True
def o_X6_end_j29 (z : Nat → Int32) (p1 : Int32) (s0_29 : Bool) : Prop :=
  o_X6_removeRequest z p1 ∧
  (o_X6_end_c36 z p1 s0_29 (f_X6_removeRequest z p1))
def o_X6_end (z : Nat → Int32) (p1 : Int32) : Prop :=
  o_X6_ofRequest z p1 0 ∧
  (o_X6_ofRequest z p1 1 ∧
  (o_X6_ofRequest z p1 3 ∧
  (if (f_X6_ofRequest z p1 3) = 1 then
    o_X6_end_j29 z p1 true
  else
    o_X6_end_j29 z p1 false)))
theorem yd_X6_end : yX6_end.cls = RX6 ∧ yX6_end.cls ≠ "java/lang/invoke/MethodHandle" ∧ yX6_end.cls ≠ "java/lang/invoke/VarHandle" ∧ (parseMethodDescriptor yX6_end.desc).map (fun d => d.parameters.length) = some 1 := by decide +kernel
set_option maxHeartbeats 4000000 in
set_option maxRecDepth 100000 in
theorem c_X6_end (l : Launch) (dC : Nat → ClassId) (dI : Nat → Nat → Nat) (cI cB : ClassId) (h0 h1 h2 h3 h4 : Nat) (sz : Nat) (states : Int32) (ln : Int32) (thr : Int32) (rd : Int32) (num : Int32) (due : Int32) (hash : Int64) (z : Nat → Int32) (hi : Nat → Int32) (tx : Nat → Int32) (pa : Nat → Int32) (p1 : Int32) (eO : o_X6_end z p1) : Met l yX6_end wsX6_end ({ frames := 4, cells := 0, slots := 0, locals := 88 }) (vm_prw [.ref h0, .int p1] (dC, dI) [(h0, .inr (6, [.ref h1, .int states, .ref h2, .int ln, .ref h3, .int thr, .ref h4, .int rd, .int num, .int due, .long hash])), (h1, .inl (cI, 163, .inl z)), (h2, .inl (cI, 978, .inl hi)), (h3, .inl (cI, 60, .inl tx)), (h4, .inl (cI, 42, .inl pa))] cI cB sz) (va_Qi (fun (r9 : Int32) (_ : Unit) => r9 = (f_X6_end z p1).1) (fun _ t => va_P (dC, dI) vwCl [(h0, .inr (6, [.ref h1, .int states, .ref h2, .int ln, .ref h3, .int thr, .ref h4, .int rd, .int num, .int due, .long hash])), (h1, .inl (cI, 163, .inl ((f_X6_end z p1).2))), (h2, .inl (cI, 978, .inl hi)), (h3, .inl (cI, 60, .inl tx)), (h4, .inl (cI, 42, .inl pa))] t.heap) (va_A [(h0, .inr (6, [.ref h1, .int states, .ref h2, .int ln, .ref h3, .int thr, .ref h4, .int rd, .int num, .int due, .long hash])), (h1, .inl (cI, 163, .inl z)), (h2, .inl (cI, 978, .inl hi)), (h3, .inl (cI, 60, .inl tx)), (h4, .inl (cI, 42, .inl pa))] sz)) 0 0 (va_A [(h0, .inr (6, [.ref h1, .int states, .ref h2, .int ln, .ref h3, .int thr, .ref h4, .int rd, .int num, .int due, .long hash])), (h1, .inl (cI, 163, .inl z)), (h2, .inl (cI, 978, .inl hi)), (h3, .inl (cI, 60, .inl tx)), (h4, .inl (cI, 42, .inl pa))] sz) := by
  refine Met.ofW (cc := cX6_end) (maxL := 5) (ret := (some .int)) (by decide) rfl ?_
  intro p e s m args below meth c s₁ B hml hv
  obtain ⟨rfl, hsz, hP, hK, hN, hD0⟩ := hv
  have hx := B.exec
  have hb := B.bytes
  have hr := B.returns
  have hts := atoms_spec (ws := wsX6_end) B.pre
  have hown : s.vm.findClass RX6 = some m.cls := findClass_of_methodNamed B.named
  have hlocks := B.notSynchronized
  subst hsz
  have hD := hD0.self (sz := s.heap.size)
  generalize hAe : va_A [(h0, .inr (6, [.ref h1, .int states, .ref h2, .int ln, .ref h3, .int thr, .ref h4, .int rd, .int num, .int due, .long hash])), (h1, .inl (cI, 163, .inl z)), (h2, .inl (cI, 978, .inl hi)), (h3, .inl (cI, 60, .inl tx)), (h4, .inl (cI, 42, .inl pa))] s.heap.size = A at hD ⊢
  have hA : ∀ q : Nat, s.heap.size ≤ q → A q := fun q h => by rw [← hAe]; exact Or.inr h
  have hS : va_S A s.heap s.heap [] := va_S.rf
  have hP : va_P (dC, dI) vwCl [(h0, .inr (6, [.ref h1, .int states, .ref h2, .int ln, .ref h3, .int thr, .ref h4, .int rd, .int num, .int due, .long hash])), (h1, .inl (cI, 163, .inl z)), (h2, .inl (cI, 978, .inl hi)), (h3, .inl (cI, 60, .inl tx)), (h4, .inl (cI, 42, .inl pa))] s.heap := hP
  have kw1 := hts (.fieldLink RX6 7 "LapseMandatesModel" "z" "[I") (List.mem_of_getElem? (i := 1) rfl)
  have iwsX60 : ∀ w ∈ wsX60, w ∈ wsX6_end := fun w h => List.mem_cons_of_mem _ (List.mem_append_right _ h)
  generalize hrr : f_X6_end z p1 = rr
  have eF := hrr.symm
  have hl := lv_entry ([.ref h0, .int p1]) (n := 5) (Nat.le_of_ble_eq_true rfl)
  rw [lg_entry_eq]
  generalize (lg_sl ([.ref h0, .int p1]) ++ List.replicate (5 - (lg_sl ([.ref h0, .int p1])).length) Slot.unset).toArray = ls at hl ⊢
  have hl : lv_has ls 5 [(0, .ref h0), (1, .int p1)] := hl
  have hJ29 : ∀ (s0_29 : Bool), rr = f_X6_end_j29 z p1 s0_29 → o_X6_end_j29 z p1 s0_29 → ∀ (H : Heap) (locs : List Loc), va_P (dC, dI) vwCl [(h0, .inr (6, [.ref h1, .int states, .ref h2, .int ln, .ref h3, .int thr, .ref h4, .int rd, .int num, .int due, .long hash])), (h1, .inl (cI, 163, .inl z)), (h2, .inl (cI, 978, .inl hi)), (h3, .inl (cI, 60, .inl tx)), (h4, .inl (cI, 42, .inl pa))] H → va_D A [(h0, .inr (6, [.ref h1, .int states, .ref h2, .int ln, .ref h3, .int thr, .ref h4, .int rd, .int num, .int due, .long hash])), (h1, .inl (cI, 163, .inl z)), (h2, .inl (cI, 978, .inl hi)), (h3, .inl (cI, 60, .inl tx)), (h4, .inl (cI, 42, .inl pa))] → va_S A s.heap H locs → ∀ (ls : Array Slot), lv_has ls 5 [(0, .ref h0), (1, .int p1), (2, .int (f_X6_ofRequest z p1 0)), (3, .int (f_X6_ofRequest z p1 1))] → W p l e (headSpec wsX6_end ({ frames := 4, cells := 0, slots := 0, locals := 88 })).room s m ([.ref h0, .int p1] : List Value).toArray below meth c H locs 0 0 (MQ below (va_Qi (fun (r9 : Int32) (_ : Unit) => r9 = rr.1) (fun _ t => va_P (dC, dI) vwCl [(h0, .inr (6, [.ref h1, .int states, .ref h2, .int ln, .ref h3, .int thr, .ref h4, .int rd, .int num, .int due, .long hash])), (h1, .inl (cI, 163, .inl rr.2)), (h2, .inl (cI, 978, .inl hi)), (h3, .inl (cI, 60, .inl tx)), (h4, .inl (cI, 42, .inl pa))] t.heap) A) ([.ref h0, .int p1] : List Value).toArray s 0 0 A) (F0 m 29 ls [.int (vm_bi s0_29)]) := by
    intro s0_29 eF eO H locs hP hD hS ls hl
    rw [o_X6_end_j29] at eO
    refine lv_istore (lv' := [(4, .int (vm_bi s0_29)), (0, .ref h0), (1, .int p1), (2, .int (f_X6_ofRequest z p1 0)), (3, .int (f_X6_ofRequest z p1 1))]) hx hb dX6_end_29 hl (by decide) rfl (fun ls hl => ?_)
    refine lv_aload_n hx hb dX6_end_31 rfl (lv_at hl 1 rfl) ?_
    refine lv_iload_n hx hb dX6_end_32 rfl (lv_at hl 2 rfl) ?_
    obtain ⟨hv_1, eO⟩ := eO
    refine vm_rwVv (As := [.int p1]) (rest := []) (T := TX6) (N := 11) (wc := [(h0, .inr (6, [.ref h1, .int states, .ref h2, .int ln, .ref h3, .int thr, .ref h4, .int rd, .int num, .int due, .long hash])), (h1, .inl (cI, 163, .inl z)), (h2, .inl (cI, 978, .inl hi)), (h3, .inl (cI, 60, .inl tx)), (h4, .inl (cI, 42, .inl pa))]) (w1 := [(h0, .inr (6, [.ref h1, .int states, .ref h2, .int ln, .ref h3, .int thr, .ref h4, .int rd, .int num, .int due, .long hash])), (h1, .inl (cI, 163, .inl (f_X6_removeRequest z p1))), (h2, .inl (cI, 978, .inl hi)), (h3, .inl (cI, 60, .inl tx)), (h4, .inl (cI, 42, .inl pa))]) ⟨hx, hb, hml, hown, hts⟩ hK hN hP hD hS hA hl.1 ⟨Nat.le_of_ble_eq_true rfl, Nat.le_of_ble_eq_true rfl⟩ (c_X6_removeRequest l dC dI cI cB h0 h1 h2 h3 h4 _ states ln thr rd num due hash z hi tx pa p1 hv_1) (cwV 1 hts gX6_end_X6_removeRequest rfl rfl rfl yd_X6_removeRequest ⟨Nat.le_of_ble_eq_true rfl, Nat.le_of_ble_eq_true rfl⟩) [0, 1, 2, 3, 4] rfl rfl rfl 6 rfl rfl rfl rfl (Nat.le_of_ble_eq_true rfl) dX6_end_33 (fun H locs hP hD hS => ?_)
    have hP : va_P (dC, dI) vwCl [(h0, .inr (6, [.ref h1, .int states, .ref h2, .int ln, .ref h3, .int thr, .ref h4, .int rd, .int num, .int due, .long hash])), (h1, .inl (cI, 163, .inl (f_X6_removeRequest z p1))), (h2, .inl (cI, 978, .inl hi)), (h3, .inl (cI, 60, .inl tx)), (h4, .inl (cI, 42, .inl pa))] H := hP
    have hD : va_D A [(h0, .inr (6, [.ref h1, .int states, .ref h2, .int ln, .ref h3, .int thr, .ref h4, .int rd, .int num, .int due, .long hash])), (h1, .inl (cI, 163, .inl (f_X6_removeRequest z p1))), (h2, .inl (cI, 978, .inl hi)), (h3, .inl (cI, 60, .inl tx)), (h4, .inl (cI, 42, .inl pa))] := hD
    obtain ⟨z_c36, ez_c36⟩ : ∃ zz9, zz9 = (f_X6_removeRequest z p1) := ⟨_, rfl⟩
    rw [← ez_c36] at hP hD
    have eF : rr = f_X6_end_c36 z p1 s0_29 z_c36 := eF.trans (by rw [f_X6_end_j29, ez_c36])
    have eO : o_X6_end_c36 z p1 s0_29 z_c36 := by rw [ez_c36]; exact eO
    rw [o_X6_end_c36] at eO
    refine lv_iload hx hb dX6_end_36 (lv_at hl 0 rfl) ?_
    refine lv_if_eq (tgt := 43) hx hb dX6_end_38 (by decide) (fun c_2 => ?_) (fun c_2 => ?_)
    · rw [if_pos c_2] at eO
      refine lv_aload_n hx hb dX6_end_43 rfl (lv_at hl 1 rfl) ?_
      refine lv_iload_n hx hb dX6_end_44 rfl (lv_at hl 3 rfl) ?_
      refine lv_iload_n hx hb dX6_end_45 rfl (lv_at hl 4 rfl) ?_
      obtain ⟨hv_3, eO⟩ := eO
      refine vm_roVx (v := (f_X6_reason z_c36 (f_X6_ofRequest z p1 0) (f_X6_ofRequest z p1 1))) (As := [.int (f_X6_ofRequest z p1 0), .int (f_X6_ofRequest z p1 1)]) (rest := []) (T := TX6) (N := 11) (wc := [(h0, .inr (6, [.ref h1, .int states, .ref h2, .int ln, .ref h3, .int thr, .ref h4, .int rd, .int num, .int due, .long hash])), (h1, .inl (cI, 163, .inl z_c36)), (h2, .inl (cI, 978, .inl hi)), (h3, .inl (cI, 60, .inl tx)), (h4, .inl (cI, 42, .inl pa))]) ⟨hx, hb, hml, hown, hts⟩ hK hN hP hl.1 ⟨Nat.le_of_ble_eq_true rfl, Nat.le_of_ble_eq_true rfl⟩ (c_X6_reason l dC dI cI cB h0 h1 h2 h3 h4 states ln thr rd num due hash z_c36 hi tx pa (f_X6_ofRequest z p1 0) (f_X6_ofRequest z p1 1) hv_3) (cwV 2 hts gX6_end_X6_reason rfl rfl rfl yd_X6_reason ⟨Nat.le_of_ble_eq_true rfl, Nat.le_of_ble_eq_true rfl⟩) [0, 1, 2, 3, 4] rfl 6 rfl rfl rfl rfl (Nat.le_of_ble_eq_true rfl) dX6_end_46 ?_
      refine lv_if_le (tgt := 65) hx hb dX6_end_49 (by decide) (fun c_4 => ?_) (fun c_4 => ?_)
      · rw [if_pos c_4] at eO
        refine lv_aload_n hx hb dX6_end_65 rfl (lv_at hl 1 rfl) ?_
        refine lv_iload_n hx hb dX6_end_66 rfl (lv_at hl 3 rfl) ?_
        refine lv_iload_n hx hb dX6_end_67 rfl (lv_at hl 4 rfl) ?_
        obtain ⟨hv_5, eO⟩ := eO
        refine vm_rwVv (As := [.int (f_X6_ofRequest z p1 0), .int (f_X6_ofRequest z p1 1)]) (rest := []) (T := TX6) (N := 11) (wc := [(h0, .inr (6, [.ref h1, .int states, .ref h2, .int ln, .ref h3, .int thr, .ref h4, .int rd, .int num, .int due, .long hash])), (h1, .inl (cI, 163, .inl z_c36)), (h2, .inl (cI, 978, .inl hi)), (h3, .inl (cI, 60, .inl tx)), (h4, .inl (cI, 42, .inl pa))]) (w1 := [(h0, .inr (6, [.ref h1, .int states, .ref h2, .int ln, .ref h3, .int thr, .ref h4, .int rd, .int num, .int due, .long hash])), (h1, .inl (cI, 163, .inl (f_X6_make z_c36 (f_X6_ofRequest z p1 0) (f_X6_ofRequest z p1 1)))), (h2, .inl (cI, 978, .inl hi)), (h3, .inl (cI, 60, .inl tx)), (h4, .inl (cI, 42, .inl pa))]) ⟨hx, hb, hml, hown, hts⟩ hK hN hP hD hS hA hl.1 ⟨Nat.le_of_ble_eq_true rfl, Nat.le_of_ble_eq_true rfl⟩ (c_X6_make l dC dI cI cB h0 h1 h2 h3 h4 _ states ln thr rd num due hash z_c36 hi tx pa (f_X6_ofRequest z p1 0) (f_X6_ofRequest z p1 1) hv_5) (cwV 2 hts gX6_end_X6_make rfl rfl rfl yd_X6_make ⟨Nat.le_of_ble_eq_true rfl, Nat.le_of_ble_eq_true rfl⟩) [0, 1, 2, 3, 4] rfl rfl rfl 6 rfl rfl rfl rfl (Nat.le_of_ble_eq_true rfl) dX6_end_68 (fun H locs hP hD hS => ?_)
        have hP : va_P (dC, dI) vwCl [(h0, .inr (6, [.ref h1, .int states, .ref h2, .int ln, .ref h3, .int thr, .ref h4, .int rd, .int num, .int due, .long hash])), (h1, .inl (cI, 163, .inl (f_X6_make z_c36 (f_X6_ofRequest z p1 0) (f_X6_ofRequest z p1 1)))), (h2, .inl (cI, 978, .inl hi)), (h3, .inl (cI, 60, .inl tx)), (h4, .inl (cI, 42, .inl pa))] H := hP
        have hD : va_D A [(h0, .inr (6, [.ref h1, .int states, .ref h2, .int ln, .ref h3, .int thr, .ref h4, .int rd, .int num, .int due, .long hash])), (h1, .inl (cI, 163, .inl (f_X6_make z_c36 (f_X6_ofRequest z p1 0) (f_X6_ofRequest z p1 1)))), (h2, .inl (cI, 978, .inl hi)), (h3, .inl (cI, 60, .inl tx)), (h4, .inl (cI, 42, .inl pa))] := hD
        obtain ⟨z_c71, ez_c71⟩ : ∃ zz9, zz9 = (f_X6_make z_c36 (f_X6_ofRequest z p1 0) (f_X6_ofRequest z p1 1)) := ⟨_, rfl⟩
        rw [← ez_c71] at hP hD
        have eF : rr = f_X6_end_c71 z_c71 := eF.trans (by rw [f_X6_end_c36, if_pos c_2, if_pos c_4, ez_c71])
        have eO : o_X6_end_c71 z_c71 := by rw [ez_c71]; exact eO
        rw [o_X6_end_c71] at eO
        refine lv_iconst (v := 1) hx hb dX6_end_71 (by decide) ?_
        have e9 : rr = ((1, z_c71) : Int32 × (Nat → Int32)) := eF.trans (by rw [f_X6_end_c71])
        exact W.iret (v := 1) hx hb hr (fun t ht hW => ⟨⟨_, (), rfl, by rw [e9], (by rw [e9]; show va_P _ _ _ t.heap; rw [ht]; exact hP)⟩, hS.F ht⟩) hS.2.2 dX6_end_72
      · rw [if_neg c_4] at eO
        refine lv_aload_n hx hb dX6_end_52 rfl (lv_at hl 1 rfl) ?_
        refine va_get (D := (dC, dI)) (ci := 6) (v := .ref h1) (C := RX6) (T := TX6) (N := 11) hx hb hts iwsX60 hown hK hP 0 rfl rfl 0 (by decide) kw1 (fun _ h9 => h9) rfl dX6_end_53 ?_
        refine lv_bipush (v := 9) hx hb dX6_end_56 (by decide) ?_
        refine lv_dup2_11 hx hb dX6_end_58 rfl rfl ?_
        refine va_iald hx hb hK hP 1 0 rfl rfl (by unfold vp_in; decide) dX6_end_59 ?_
        refine lv_iconst (v := 1) hx hb dX6_end_60 (by decide) ?_
        refine lv_iadd hx hb dX6_end_61 ?_
        refine va_iast hx hb hK hP hD hS 1 0 rfl rfl (by unfold vp_in; decide) dX6_end_62 (fun H locs hP hD hS => ?_)
        have hP : va_P (dC, dI) vwCl [(h0, .inr (6, [.ref h1, .int states, .ref h2, .int ln, .ref h3, .int thr, .ref h4, .int rd, .int num, .int due, .long hash])), (h1, .inl (cI, 163, .inl (upd z_c36 (Int32.toNatClampNeg 9) ((z_c36 (Int32.toNatClampNeg 9)) + 1)))), (h2, .inl (cI, 978, .inl hi)), (h3, .inl (cI, 60, .inl tx)), (h4, .inl (cI, 42, .inl pa))] H := hP
        have hD : va_D A [(h0, .inr (6, [.ref h1, .int states, .ref h2, .int ln, .ref h3, .int thr, .ref h4, .int rd, .int num, .int due, .long hash])), (h1, .inl (cI, 163, .inl (upd z_c36 (Int32.toNatClampNeg 9) ((z_c36 (Int32.toNatClampNeg 9)) + 1)))), (h2, .inl (cI, 978, .inl hi)), (h3, .inl (cI, 60, .inl tx)), (h4, .inl (cI, 42, .inl pa))] := hD
        refine lv_iconst (v := 2) hx hb dX6_end_63 (by decide) ?_
        have e9 : rr = ((2, (upd z_c36 (Int32.toNatClampNeg 9) ((z_c36 (Int32.toNatClampNeg 9)) + 1))) : Int32 × (Nat → Int32)) := eF.trans (by rw [f_X6_end_c36, if_pos c_2, if_neg c_4])
        exact W.iret (v := 2) hx hb hr (fun t ht hW => ⟨⟨_, (), rfl, by rw [e9], (by rw [e9]; show va_P _ _ _ t.heap; rw [ht]; exact hP)⟩, hS.F ht⟩) hS.2.2 dX6_end_64
    · rw [if_neg c_2] at eO
      refine lv_iconst (v := 1) hx hb dX6_end_41 (by decide) ?_
      have e9 : rr = ((1, z_c36) : Int32 × (Nat → Int32)) := eF.trans (by rw [f_X6_end_c36, if_neg c_2])
      exact W.iret (v := 1) hx hb hr (fun t ht hW => ⟨⟨_, (), rfl, by rw [e9], (by rw [e9]; show va_P _ _ _ t.heap; rw [ht]; exact hP)⟩, hS.F ht⟩) hS.2.2 dX6_end_42
  rw [o_X6_end] at eO
  refine lv_aload_n hx hb dX6_end_0 rfl (lv_at hl 0 rfl) ?_
  refine lv_iload_n hx hb dX6_end_1 rfl (lv_at hl 1 rfl) ?_
  refine lv_iconst (v := 0) hx hb dX6_end_2 (by decide) ?_
  obtain ⟨hv_6, eO⟩ := eO
  refine vm_roVx (v := (f_X6_ofRequest z p1 0)) (As := [.int p1, .int 0]) (rest := []) (T := TX6) (N := 11) (wc := [(h0, .inr (6, [.ref h1, .int states, .ref h2, .int ln, .ref h3, .int thr, .ref h4, .int rd, .int num, .int due, .long hash])), (h1, .inl (cI, 163, .inl z)), (h2, .inl (cI, 978, .inl hi)), (h3, .inl (cI, 60, .inl tx)), (h4, .inl (cI, 42, .inl pa))]) ⟨hx, hb, hml, hown, hts⟩ hK hN hP hl.1 ⟨Nat.le_of_ble_eq_true rfl, Nat.le_of_ble_eq_true rfl⟩ (c_X6_ofRequest l dC dI cI cB h0 h1 h2 h3 h4 states ln thr rd num due hash z hi tx pa p1 0 hv_6) (cwV 2 hts gX6_end_X6_ofRequest rfl rfl rfl yd_X6_ofRequest ⟨Nat.le_of_ble_eq_true rfl, Nat.le_of_ble_eq_true rfl⟩) [0, 1, 2, 3, 4] rfl 6 rfl rfl rfl rfl (Nat.le_of_ble_eq_true rfl) dX6_end_3 ?_
  refine lv_istore_n (lv' := [(2, .int (f_X6_ofRequest z p1 0)), (0, .ref h0), (1, .int p1)]) hx hb dX6_end_6 rfl hl (by decide) rfl (fun ls hl => ?_)
  refine lv_aload_n hx hb dX6_end_7 rfl (lv_at hl 1 rfl) ?_
  refine lv_iload_n hx hb dX6_end_8 rfl (lv_at hl 2 rfl) ?_
  refine lv_iconst (v := 1) hx hb dX6_end_9 (by decide) ?_
  obtain ⟨hv_7, eO⟩ := eO
  refine vm_roVx (v := (f_X6_ofRequest z p1 1)) (As := [.int p1, .int 1]) (rest := []) (T := TX6) (N := 11) (wc := [(h0, .inr (6, [.ref h1, .int states, .ref h2, .int ln, .ref h3, .int thr, .ref h4, .int rd, .int num, .int due, .long hash])), (h1, .inl (cI, 163, .inl z)), (h2, .inl (cI, 978, .inl hi)), (h3, .inl (cI, 60, .inl tx)), (h4, .inl (cI, 42, .inl pa))]) ⟨hx, hb, hml, hown, hts⟩ hK hN hP hl.1 ⟨Nat.le_of_ble_eq_true rfl, Nat.le_of_ble_eq_true rfl⟩ (c_X6_ofRequest l dC dI cI cB h0 h1 h2 h3 h4 states ln thr rd num due hash z hi tx pa p1 1 hv_7) (cwV 2 hts gX6_end_X6_ofRequest rfl rfl rfl yd_X6_ofRequest ⟨Nat.le_of_ble_eq_true rfl, Nat.le_of_ble_eq_true rfl⟩) [0, 1, 2, 3, 4] rfl 6 rfl rfl rfl rfl (Nat.le_of_ble_eq_true rfl) dX6_end_10 ?_
  refine lv_istore_n (lv' := [(3, .int (f_X6_ofRequest z p1 1)), (2, .int (f_X6_ofRequest z p1 0)), (0, .ref h0), (1, .int p1)]) hx hb dX6_end_13 rfl hl (by decide) rfl (fun ls hl => ?_)
  refine lv_aload_n hx hb dX6_end_14 rfl (lv_at hl 2 rfl) ?_
  refine lv_iload_n hx hb dX6_end_15 rfl (lv_at hl 3 rfl) ?_
  refine lv_iconst (v := 3) hx hb dX6_end_16 (by decide) ?_
  obtain ⟨hv_8, eO⟩ := eO
  refine vm_roVx (v := (f_X6_ofRequest z p1 3)) (As := [.int p1, .int 3]) (rest := []) (T := TX6) (N := 11) (wc := [(h0, .inr (6, [.ref h1, .int states, .ref h2, .int ln, .ref h3, .int thr, .ref h4, .int rd, .int num, .int due, .long hash])), (h1, .inl (cI, 163, .inl z)), (h2, .inl (cI, 978, .inl hi)), (h3, .inl (cI, 60, .inl tx)), (h4, .inl (cI, 42, .inl pa))]) ⟨hx, hb, hml, hown, hts⟩ hK hN hP hl.1 ⟨Nat.le_of_ble_eq_true rfl, Nat.le_of_ble_eq_true rfl⟩ (c_X6_ofRequest l dC dI cI cB h0 h1 h2 h3 h4 states ln thr rd num due hash z hi tx pa p1 3 hv_8) (cwV 2 hts gX6_end_X6_ofRequest rfl rfl rfl yd_X6_ofRequest ⟨Nat.le_of_ble_eq_true rfl, Nat.le_of_ble_eq_true rfl⟩) [0, 1, 2, 3, 4] rfl 6 rfl rfl rfl rfl (Nat.le_of_ble_eq_true rfl) dX6_end_17 ?_
  refine lv_iconst (v := 1) hx hb dX6_end_20 (by decide) ?_
  refine lv_icmp_ne (tgt := 28) hx hb dX6_end_21 (by decide) (fun c_9 => ?_) (fun c_9 => ?_)
  · rw [if_neg c_9] at eO
    refine lv_iconst (v := 0) hx hb dX6_end_28 (by decide) ?_
    exact hJ29 false (eF.trans (by rw [f_X6_end, if_neg c_9])) eO _ _ hP hD hS ls (lv_sub hl [2, 3, 1, 0] rfl)
  · rw [if_pos c_9] at eO
    refine lv_iconst (v := 1) hx hb dX6_end_24 (by decide) ?_
    refine lv_goto (tgt := 29) hx hb dX6_end_25 (by decide) ?_
    exact hJ29 true (eF.trans (by rw [f_X6_end, if_pos c_9])) eO _ _ hP hD hS ls (lv_sub hl [2, 3, 1, 0] rfl)

def f_X6_approve_c110 (s0_34 : Int32) (states_c50 : Int32) (hi_c50 : Nat → Int32) (y110 : Int32) (z_c110 : Nat → Int32) : Int32 × Int32 × Int32 × (Nat → Int32) × (Nat → Int32) :=
  (y110, states_c50, s0_34, z_c110, hi_c50)
def f_X6_approve_c50 (z : Nat → Int32) (p1 : Int32) (p2 : Int32) (s0_34 : Int32) (states_c50 : Int32) (hi_c50 : Nat → Int32) : Int32 × Int32 × Int32 × (Nat → Int32) × (Nat → Int32) :=
  if (f_X6_ofRequest (upd (upd z (Int32.toNatClampNeg (11 + p2)) ((z (Int32.toNatClampNeg (11 + p2))) + 1)) (Int32.toNatClampNeg ((127 + (6 * p1)) + 5)) (((upd z (Int32.toNatClampNeg (11 + p2)) ((z (Int32.toNatClampNeg (11 + p2))) + 1)) (Int32.toNatClampNeg ((127 + (6 * p1)) + 5))) ||| (1 <<< (p2 &&& 31)))) p1 4) ≤ (f_X6_ones (f_X6_ofRequest (upd (upd z (Int32.toNatClampNeg (11 + p2)) ((z (Int32.toNatClampNeg (11 + p2))) + 1)) (Int32.toNatClampNeg ((127 + (6 * p1)) + 5)) (((upd z (Int32.toNatClampNeg (11 + p2)) ((z (Int32.toNatClampNeg (11 + p2))) + 1)) (Int32.toNatClampNeg ((127 + (6 * p1)) + 5))) ||| (1 <<< (p2 &&& 31)))) p1 5)) then
    f_X6_approve_c110 s0_34 states_c50 hi_c50 ((f_X6_end (upd (upd z (Int32.toNatClampNeg (11 + p2)) ((z (Int32.toNatClampNeg (11 + p2))) + 1)) (Int32.toNatClampNeg ((127 + (6 * p1)) + 5)) (((upd z (Int32.toNatClampNeg (11 + p2)) ((z (Int32.toNatClampNeg (11 + p2))) + 1)) (Int32.toNatClampNeg ((127 + (6 * p1)) + 5))) ||| (1 <<< (p2 &&& 31)))) p1).1) ((f_X6_end (upd (upd z (Int32.toNatClampNeg (11 + p2)) ((z (Int32.toNatClampNeg (11 + p2))) + 1)) (Int32.toNatClampNeg ((127 + (6 * p1)) + 5)) (((upd z (Int32.toNatClampNeg (11 + p2)) ((z (Int32.toNatClampNeg (11 + p2))) + 1)) (Int32.toNatClampNeg ((127 + (6 * p1)) + 5))) ||| (1 <<< (p2 &&& 31)))) p1).2)
  else
    (0, states_c50, s0_34, (upd (upd z (Int32.toNatClampNeg (11 + p2)) ((z (Int32.toNatClampNeg (11 + p2))) + 1)) (Int32.toNatClampNeg ((127 + (6 * p1)) + 5)) (((upd z (Int32.toNatClampNeg (11 + p2)) ((z (Int32.toNatClampNeg (11 + p2))) + 1)) (Int32.toNatClampNeg ((127 + (6 * p1)) + 5))) ||| (1 <<< (p2 &&& 31)))), hi_c50)
def f_X6_approve_j34 (states : Int32) (z : Nat → Int32) (hi : Nat → Int32) (p1 : Int32) (p2 : Int32) (s0_34 : Int32) : Int32 × Int32 × Int32 × (Nat → Int32) × (Nat → Int32) :=
  if s0_34 ≤ 0 then
    f_X6_approve_c50 z p1 p2 s0_34 ((f_X6_save states z hi).1) ((f_X6_save states z hi).2)
  else
    (0, states, s0_34, z, hi)
def f_X6_approve_j16 (states : Int32) (z : Nat → Int32) (hi : Nat → Int32) (p1 : Int32) (p2 : Int32) : Int32 × Int32 × Int32 × (Nat → Int32) × (Nat → Int32) :=
  f_X6_approve_j34 states z hi p1 p2 1
def f_X6_approve (states : Int32) (z : Nat → Int32) (hi : Nat → Int32) (p1 : Int32) (p2 : Int32) : Int32 × Int32 × Int32 × (Nat → Int32) × (Nat → Int32) :=
  if (vm_bi (f_X6_isRequest z p1)) = 0 then
    f_X6_approve_j16 states z hi p1 p2
  else
    if (vm_bi (f_X6_isPerson p2)) = 0 then
      f_X6_approve_j16 states z hi p1 p2
    else
      if (vm_bi (f_X6_canApprove z p1 p2)) = 0 then
        f_X6_approve_j34 states z hi p1 p2 2
      else
        f_X6_approve_j34 states z hi p1 p2 0
def o_X6_approve_c110 (s0_34 : Int32) (states_c50 : Int32) (hi_c50 : Nat → Int32) (y110 : Int32) (z_c110 : Nat → Int32) : Prop :=
  True
def o_X6_approve_c50 (z : Nat → Int32) (p1 : Int32) (p2 : Int32) (s0_34 : Int32) (states_c50 : Int32) (hi_c50 : Nat → Int32) : Prop :=
  vp_in (11 + p2) 163 ∧
  (vp_in (11 + p2) 163 ∧
  (vp_in ((127 + (6 * p1)) + 5) 163 ∧
  (vp_in ((127 + (6 * p1)) + 5) 163 ∧
  (o_X6_ofRequest (upd (upd z (Int32.toNatClampNeg (11 + p2)) ((z (Int32.toNatClampNeg (11 + p2))) + 1)) (Int32.toNatClampNeg ((127 + (6 * p1)) + 5)) (((upd z (Int32.toNatClampNeg (11 + p2)) ((z (Int32.toNatClampNeg (11 + p2))) + 1)) (Int32.toNatClampNeg ((127 + (6 * p1)) + 5))) ||| (1 <<< (p2 &&& 31)))) p1 5 ∧
  (o_X6_ofRequest (upd (upd z (Int32.toNatClampNeg (11 + p2)) ((z (Int32.toNatClampNeg (11 + p2))) + 1)) (Int32.toNatClampNeg ((127 + (6 * p1)) + 5)) (((upd z (Int32.toNatClampNeg (11 + p2)) ((z (Int32.toNatClampNeg (11 + p2))) + 1)) (Int32.toNatClampNeg ((127 + (6 * p1)) + 5))) ||| (1 <<< (p2 &&& 31)))) p1 4 ∧
  (if (f_X6_ofRequest (upd (upd z (Int32.toNatClampNeg (11 + p2)) ((z (Int32.toNatClampNeg (11 + p2))) + 1)) (Int32.toNatClampNeg ((127 + (6 * p1)) + 5)) (((upd z (Int32.toNatClampNeg (11 + p2)) ((z (Int32.toNatClampNeg (11 + p2))) + 1)) (Int32.toNatClampNeg ((127 + (6 * p1)) + 5))) ||| (1 <<< (p2 &&& 31)))) p1 4) ≤ (f_X6_ones (f_X6_ofRequest (upd (upd z (Int32.toNatClampNeg (11 + p2)) ((z (Int32.toNatClampNeg (11 + p2))) + 1)) (Int32.toNatClampNeg ((127 + (6 * p1)) + 5)) (((upd z (Int32.toNatClampNeg (11 + p2)) ((z (Int32.toNatClampNeg (11 + p2))) + 1)) (Int32.toNatClampNeg ((127 + (6 * p1)) + 5))) ||| (1 <<< (p2 &&& 31)))) p1 5)) then
    o_X6_end (upd (upd z (Int32.toNatClampNeg (11 + p2)) ((z (Int32.toNatClampNeg (11 + p2))) + 1)) (Int32.toNatClampNeg ((127 + (6 * p1)) + 5)) (((upd z (Int32.toNatClampNeg (11 + p2)) ((z (Int32.toNatClampNeg (11 + p2))) + 1)) (Int32.toNatClampNeg ((127 + (6 * p1)) + 5))) ||| (1 <<< (p2 &&& 31)))) p1 ∧
    (o_X6_approve_c110 s0_34 states_c50 hi_c50 ((f_X6_end (upd (upd z (Int32.toNatClampNeg (11 + p2)) ((z (Int32.toNatClampNeg (11 + p2))) + 1)) (Int32.toNatClampNeg ((127 + (6 * p1)) + 5)) (((upd z (Int32.toNatClampNeg (11 + p2)) ((z (Int32.toNatClampNeg (11 + p2))) + 1)) (Int32.toNatClampNeg ((127 + (6 * p1)) + 5))) ||| (1 <<< (p2 &&& 31)))) p1).1) ((f_X6_end (upd (upd z (Int32.toNatClampNeg (11 + p2)) ((z (Int32.toNatClampNeg (11 + p2))) + 1)) (Int32.toNatClampNeg ((127 + (6 * p1)) + 5)) (((upd z (Int32.toNatClampNeg (11 + p2)) ((z (Int32.toNatClampNeg (11 + p2))) + 1)) (Int32.toNatClampNeg ((127 + (6 * p1)) + 5))) ||| (1 <<< (p2 &&& 31)))) p1).2))
  else
    True))))))
def o_X6_approve_j34 (states : Int32) (z : Nat → Int32) (hi : Nat → Int32) (p1 : Int32) (p2 : Int32) (s0_34 : Int32) : Prop :=
  if s0_34 ≤ 0 then
    o_X6_save states z hi ∧
    (o_X6_approve_c50 z p1 p2 s0_34 ((f_X6_save states z hi).1) ((f_X6_save states z hi).2))
  else
    True
def o_X6_approve_j16 (states : Int32) (z : Nat → Int32) (hi : Nat → Int32) (p1 : Int32) (p2 : Int32) : Prop :=
  o_X6_approve_j34 states z hi p1 p2 1
def o_X6_approve (states : Int32) (z : Nat → Int32) (hi : Nat → Int32) (p1 : Int32) (p2 : Int32) : Prop :=
  if (vm_bi (f_X6_isRequest z p1)) = 0 then
    o_X6_approve_j16 states z hi p1 p2
  else
    if (vm_bi (f_X6_isPerson p2)) = 0 then
      o_X6_approve_j16 states z hi p1 p2
    else
      o_X6_canApprove z p1 p2 ∧
      (if (vm_bi (f_X6_canApprove z p1 p2)) = 0 then
        o_X6_approve_j34 states z hi p1 p2 2
      else
        o_X6_approve_j34 states z hi p1 p2 0)
theorem yd_X6_approve : yX6_approve.cls = RX6 ∧ yX6_approve.cls ≠ "java/lang/invoke/MethodHandle" ∧ yX6_approve.cls ≠ "java/lang/invoke/VarHandle" ∧ (parseMethodDescriptor yX6_approve.desc).map (fun d => d.parameters.length) = some 2 := by decide +kernel
set_option maxHeartbeats 4000000 in
set_option maxRecDepth 100000 in
theorem c_X6_approve (l : Launch) (dC : Nat → ClassId) (dI : Nat → Nat → Nat) (cI cB : ClassId) (h0 h1 h2 h3 h4 : Nat) (sz : Nat) (states : Int32) (ln : Int32) (thr : Int32) (rd : Int32) (num : Int32) (due : Int32) (hash : Int64) (z : Nat → Int32) (hi : Nat → Int32) (tx : Nat → Int32) (pa : Nat → Int32) (p1 : Int32) (p2 : Int32) (eO : o_X6_approve states z hi p1 p2) : Met l yX6_approve wsX6_approve ({ frames := 5, cells := 0, slots := 0, locals := 112 }) (vm_prw [.ref h0, .int p1, .int p2] (dC, dI) [(h0, .inr (6, [.ref h1, .int states, .ref h2, .int ln, .ref h3, .int thr, .ref h4, .int rd, .int num, .int due, .long hash])), (h1, .inl (cI, 163, .inl z)), (h2, .inl (cI, 978, .inl hi)), (h3, .inl (cI, 60, .inl tx)), (h4, .inl (cI, 42, .inl pa))] cI cB sz) (va_Qi (fun (r9 : Int32) (_ : Unit) => r9 = (f_X6_approve states z hi p1 p2).1) (fun _ t => va_P (dC, dI) vwCl [(h0, .inr (6, [.ref h1, .int ((f_X6_approve states z hi p1 p2).2.1), .ref h2, .int ln, .ref h3, .int ((f_X6_approve states z hi p1 p2).2.2.1), .ref h4, .int rd, .int num, .int due, .long hash])), (h1, .inl (cI, 163, .inl ((f_X6_approve states z hi p1 p2).2.2.2.1))), (h2, .inl (cI, 978, .inl ((f_X6_approve states z hi p1 p2).2.2.2.2))), (h3, .inl (cI, 60, .inl tx)), (h4, .inl (cI, 42, .inl pa))] t.heap) (va_A [(h0, .inr (6, [.ref h1, .int states, .ref h2, .int ln, .ref h3, .int thr, .ref h4, .int rd, .int num, .int due, .long hash])), (h1, .inl (cI, 163, .inl z)), (h2, .inl (cI, 978, .inl hi)), (h3, .inl (cI, 60, .inl tx)), (h4, .inl (cI, 42, .inl pa))] sz)) 0 0 (va_A [(h0, .inr (6, [.ref h1, .int states, .ref h2, .int ln, .ref h3, .int thr, .ref h4, .int rd, .int num, .int due, .long hash])), (h1, .inl (cI, 163, .inl z)), (h2, .inl (cI, 978, .inl hi)), (h3, .inl (cI, 60, .inl tx)), (h4, .inl (cI, 42, .inl pa))] sz) := by
  refine Met.ofW (cc := cX6_approve) (maxL := 3) (ret := (some .int)) (by decide) rfl ?_
  intro p e s m args below meth c s₁ B hml hv
  obtain ⟨rfl, hsz, hP, hK, hN, hD0⟩ := hv
  have hx := B.exec
  have hb := B.bytes
  have hr := B.returns
  have hts := atoms_spec (ws := wsX6_approve) B.pre
  have hown : s.vm.findClass RX6 = some m.cls := findClass_of_methodNamed B.named
  have hlocks := B.notSynchronized
  subst hsz
  have hD := hD0.self (sz := s.heap.size)
  generalize hAe : va_A [(h0, .inr (6, [.ref h1, .int states, .ref h2, .int ln, .ref h3, .int thr, .ref h4, .int rd, .int num, .int due, .long hash])), (h1, .inl (cI, 163, .inl z)), (h2, .inl (cI, 978, .inl hi)), (h3, .inl (cI, 60, .inl tx)), (h4, .inl (cI, 42, .inl pa))] s.heap.size = A at hD ⊢
  have hA : ∀ q : Nat, s.heap.size ≤ q → A q := fun q h => by rw [← hAe]; exact Or.inr h
  have hS : va_S A s.heap s.heap [] := va_S.rf
  have hP : va_P (dC, dI) vwCl [(h0, .inr (6, [.ref h1, .int states, .ref h2, .int ln, .ref h3, .int thr, .ref h4, .int rd, .int num, .int due, .long hash])), (h1, .inl (cI, 163, .inl z)), (h2, .inl (cI, 978, .inl hi)), (h3, .inl (cI, 60, .inl tx)), (h4, .inl (cI, 42, .inl pa))] s.heap := hP
  have kw1 := hts (.fieldLink RX6 22 "LapseMandatesModel" "thrown" "I") (List.mem_of_getElem? (i := 1) rfl)
  have kw2 := hts (.fieldLink RX6 7 "LapseMandatesModel" "z" "[I") (List.mem_of_getElem? (i := 2) rfl)
  have iwsX60 : ∀ w ∈ wsX60, w ∈ wsX6_approve := fun w h => List.mem_cons_of_mem _ (List.mem_append_right _ h)
  generalize hrr : f_X6_approve states z hi p1 p2 = rr
  have eF := hrr.symm
  have hl := lv_entry ([.ref h0, .int p1, .int p2]) (n := 3) (Nat.le_of_ble_eq_true rfl)
  rw [lg_entry_eq]
  generalize (lg_sl ([.ref h0, .int p1, .int p2]) ++ List.replicate (3 - (lg_sl ([.ref h0, .int p1, .int p2])).length) Slot.unset).toArray = ls at hl ⊢
  have hl : lv_has ls 3 [(0, .ref h0), (1, .int p1), (2, .int p2)] := hl
  have hJ34 : ∀ (s0_34 : Int32), rr = f_X6_approve_j34 states z hi p1 p2 s0_34 → o_X6_approve_j34 states z hi p1 p2 s0_34 → ∀ (H : Heap) (locs : List Loc), va_P (dC, dI) vwCl [(h0, .inr (6, [.ref h1, .int states, .ref h2, .int ln, .ref h3, .int thr, .ref h4, .int rd, .int num, .int due, .long hash])), (h1, .inl (cI, 163, .inl z)), (h2, .inl (cI, 978, .inl hi)), (h3, .inl (cI, 60, .inl tx)), (h4, .inl (cI, 42, .inl pa))] H → va_D A [(h0, .inr (6, [.ref h1, .int states, .ref h2, .int ln, .ref h3, .int thr, .ref h4, .int rd, .int num, .int due, .long hash])), (h1, .inl (cI, 163, .inl z)), (h2, .inl (cI, 978, .inl hi)), (h3, .inl (cI, 60, .inl tx)), (h4, .inl (cI, 42, .inl pa))] → va_S A s.heap H locs → ∀ (ls : Array Slot), lv_has ls 3 [(0, .ref h0), (1, .int p1), (2, .int p2)] → W p l e (headSpec wsX6_approve ({ frames := 5, cells := 0, slots := 0, locals := 112 })).room s m ([.ref h0, .int p1, .int p2] : List Value).toArray below meth c H locs 0 0 (MQ below (va_Qi (fun (r9 : Int32) (_ : Unit) => r9 = rr.1) (fun _ t => va_P (dC, dI) vwCl [(h0, .inr (6, [.ref h1, .int rr.2.1, .ref h2, .int ln, .ref h3, .int rr.2.2.1, .ref h4, .int rd, .int num, .int due, .long hash])), (h1, .inl (cI, 163, .inl rr.2.2.2.1)), (h2, .inl (cI, 978, .inl rr.2.2.2.2)), (h3, .inl (cI, 60, .inl tx)), (h4, .inl (cI, 42, .inl pa))] t.heap) A) ([.ref h0, .int p1, .int p2] : List Value).toArray s 0 0 A) (F0 m 34 ls [.int s0_34, .ref h0]) := by
    intro s0_34 eF eO H locs hP hD hS ls hl
    rw [o_X6_approve_j34] at eO
    refine va_put (D := (dC, dI)) (ci := 6) (v := .int s0_34) (ty := .int) (C := RX6) (T := TX6) (N := 11) hx hb hts iwsX60 tyX6 tyX6_ok nmX6 hown hK hP hD hS 0 rfl rfl 5 (by decide) kw1 (fun _ h9 => h9) rfl (by decide +kernel) rfl rfl (Nat.le_of_ble_eq_true rfl) dX6_approve_34 (fun H locs hP hD hS => ?_)
    have hP : va_P (dC, dI) vwCl [(h0, .inr (6, [.ref h1, .int states, .ref h2, .int ln, .ref h3, .int s0_34, .ref h4, .int rd, .int num, .int due, .long hash])), (h1, .inl (cI, 163, .inl z)), (h2, .inl (cI, 978, .inl hi)), (h3, .inl (cI, 60, .inl tx)), (h4, .inl (cI, 42, .inl pa))] H := hP
    have hD : va_D A [(h0, .inr (6, [.ref h1, .int states, .ref h2, .int ln, .ref h3, .int s0_34, .ref h4, .int rd, .int num, .int due, .long hash])), (h1, .inl (cI, 163, .inl z)), (h2, .inl (cI, 978, .inl hi)), (h3, .inl (cI, 60, .inl tx)), (h4, .inl (cI, 42, .inl pa))] := hD
    refine lv_aload_n hx hb dX6_approve_37 rfl (lv_at hl 0 rfl) ?_
    refine va_get (D := (dC, dI)) (ci := 6) (v := .int s0_34) (C := RX6) (T := TX6) (N := 11) hx hb hts iwsX60 hown hK hP 0 rfl rfl 5 (by decide) kw1 (fun _ h9 => h9) rfl dX6_approve_38 ?_
    refine lv_if_le (tgt := 46) hx hb dX6_approve_41 (by decide) (fun c_1 => ?_) (fun c_1 => ?_)
    · rw [if_pos c_1] at eO
      refine lv_aload_n hx hb dX6_approve_46 rfl (lv_at hl 0 rfl) ?_
      obtain ⟨hv_2, eO⟩ := eO
      refine vm_rwVv (As := []) (rest := []) (T := TX6) (N := 11) (wc := [(h0, .inr (6, [.ref h1, .int states, .ref h2, .int ln, .ref h3, .int s0_34, .ref h4, .int rd, .int num, .int due, .long hash])), (h1, .inl (cI, 163, .inl z)), (h2, .inl (cI, 978, .inl hi)), (h3, .inl (cI, 60, .inl tx)), (h4, .inl (cI, 42, .inl pa))]) (w1 := [(h0, .inr (6, [.ref h1, .int ((f_X6_save states z hi).1), .ref h2, .int ln, .ref h3, .int s0_34, .ref h4, .int rd, .int num, .int due, .long hash])), (h1, .inl (cI, 163, .inl z)), (h2, .inl (cI, 978, .inl ((f_X6_save states z hi).2))), (h3, .inl (cI, 60, .inl tx)), (h4, .inl (cI, 42, .inl pa))]) ⟨hx, hb, hml, hown, hts⟩ hK hN hP hD hS hA hl.1 ⟨Nat.le_of_ble_eq_true rfl, Nat.le_of_ble_eq_true rfl⟩ (c_X6_save l dC dI cI cB h0 h1 h2 h3 h4 _ states ln s0_34 rd num due hash z hi tx pa hv_2) (cwV 0 hts gX6_approve_X6_save rfl rfl rfl yd_X6_save ⟨Nat.le_of_ble_eq_true rfl, Nat.le_of_ble_eq_true rfl⟩) [0, 1, 2, 3, 4] rfl rfl rfl 6 rfl rfl rfl rfl (Nat.le_of_ble_eq_true rfl) dX6_approve_47 (fun H locs hP hD hS => ?_)
      have hP : va_P (dC, dI) vwCl [(h0, .inr (6, [.ref h1, .int ((f_X6_save states z hi).1), .ref h2, .int ln, .ref h3, .int s0_34, .ref h4, .int rd, .int num, .int due, .long hash])), (h1, .inl (cI, 163, .inl z)), (h2, .inl (cI, 978, .inl ((f_X6_save states z hi).2))), (h3, .inl (cI, 60, .inl tx)), (h4, .inl (cI, 42, .inl pa))] H := hP
      have hD : va_D A [(h0, .inr (6, [.ref h1, .int ((f_X6_save states z hi).1), .ref h2, .int ln, .ref h3, .int s0_34, .ref h4, .int rd, .int num, .int due, .long hash])), (h1, .inl (cI, 163, .inl z)), (h2, .inl (cI, 978, .inl ((f_X6_save states z hi).2))), (h3, .inl (cI, 60, .inl tx)), (h4, .inl (cI, 42, .inl pa))] := hD
      obtain ⟨states_c50, estates_c50⟩ : ∃ zz9, zz9 = (f_X6_save states z hi).1 := ⟨_, rfl⟩
      rw [← estates_c50] at hP hD
      obtain ⟨hi_c50, ehi_c50⟩ : ∃ zz9, zz9 = (f_X6_save states z hi).2 := ⟨_, rfl⟩
      rw [← ehi_c50] at hP hD
      have eF : rr = f_X6_approve_c50 z p1 p2 s0_34 states_c50 hi_c50 := eF.trans (by rw [f_X6_approve_j34, if_pos c_1, estates_c50, ehi_c50])
      have eO : o_X6_approve_c50 z p1 p2 s0_34 states_c50 hi_c50 := by rw [estates_c50, ehi_c50]; exact eO
      rw [o_X6_approve_c50] at eO
      refine lv_aload_n hx hb dX6_approve_50 rfl (lv_at hl 0 rfl) ?_
      refine va_get (D := (dC, dI)) (ci := 6) (v := .ref h1) (C := RX6) (T := TX6) (N := 11) hx hb hts iwsX60 hown hK hP 0 rfl rfl 0 (by decide) kw2 (fun _ h9 => h9) rfl dX6_approve_51 ?_
      refine lv_bipush (v := 11) hx hb dX6_approve_54 (by decide) ?_
      refine lv_iload_n hx hb dX6_approve_56 rfl (lv_at hl 2 rfl) ?_
      refine lv_iadd hx hb dX6_approve_57 ?_
      refine lv_dup2_11 hx hb dX6_approve_58 rfl rfl ?_
      obtain ⟨hv_3, eO⟩ := eO
      refine va_iald hx hb hK hP 1 0 rfl rfl hv_3 dX6_approve_59 ?_
      refine lv_iconst (v := 1) hx hb dX6_approve_60 (by decide) ?_
      refine lv_iadd hx hb dX6_approve_61 ?_
      obtain ⟨hv_4, eO⟩ := eO
      refine va_iast hx hb hK hP hD hS 1 0 rfl rfl hv_4 dX6_approve_62 (fun H locs hP hD hS => ?_)
      have hP : va_P (dC, dI) vwCl [(h0, .inr (6, [.ref h1, .int states_c50, .ref h2, .int ln, .ref h3, .int s0_34, .ref h4, .int rd, .int num, .int due, .long hash])), (h1, .inl (cI, 163, .inl (upd z (Int32.toNatClampNeg (11 + p2)) ((z (Int32.toNatClampNeg (11 + p2))) + 1)))), (h2, .inl (cI, 978, .inl hi_c50)), (h3, .inl (cI, 60, .inl tx)), (h4, .inl (cI, 42, .inl pa))] H := hP
      have hD : va_D A [(h0, .inr (6, [.ref h1, .int states_c50, .ref h2, .int ln, .ref h3, .int s0_34, .ref h4, .int rd, .int num, .int due, .long hash])), (h1, .inl (cI, 163, .inl (upd z (Int32.toNatClampNeg (11 + p2)) ((z (Int32.toNatClampNeg (11 + p2))) + 1)))), (h2, .inl (cI, 978, .inl hi_c50)), (h3, .inl (cI, 60, .inl tx)), (h4, .inl (cI, 42, .inl pa))] := hD
      refine lv_aload_n hx hb dX6_approve_63 rfl (lv_at hl 0 rfl) ?_
      refine va_get (D := (dC, dI)) (ci := 6) (v := .ref h1) (C := RX6) (T := TX6) (N := 11) hx hb hts iwsX60 hown hK hP 0 rfl rfl 0 (by decide) kw2 (fun _ h9 => h9) rfl dX6_approve_64 ?_
      refine lv_bipush (v := 127) hx hb dX6_approve_67 (by decide) ?_
      refine lv_bipush (v := 6) hx hb dX6_approve_69 (by decide) ?_
      refine lv_iload_n hx hb dX6_approve_71 rfl (lv_at hl 1 rfl) ?_
      refine lv_imul hx hb dX6_approve_72 ?_
      refine lv_iadd hx hb dX6_approve_73 ?_
      refine lv_iconst (v := 5) hx hb dX6_approve_74 (by decide) ?_
      refine lv_iadd hx hb dX6_approve_75 ?_
      refine lv_dup2_11 hx hb dX6_approve_76 rfl rfl ?_
      obtain ⟨hv_5, eO⟩ := eO
      refine va_iald hx hb hK hP 1 0 rfl rfl hv_5 dX6_approve_77 ?_
      refine lv_iconst (v := 1) hx hb dX6_approve_78 (by decide) ?_
      refine lv_iload_n hx hb dX6_approve_79 rfl (lv_at hl 2 rfl) ?_
      refine lv_ishl hx hb dX6_approve_80 ?_
      refine lv_ior hx hb dX6_approve_81 ?_
      obtain ⟨hv_6, eO⟩ := eO
      refine va_iast hx hb hK hP hD hS 1 0 rfl rfl hv_6 dX6_approve_82 (fun H locs hP hD hS => ?_)
      have hP : va_P (dC, dI) vwCl [(h0, .inr (6, [.ref h1, .int states_c50, .ref h2, .int ln, .ref h3, .int s0_34, .ref h4, .int rd, .int num, .int due, .long hash])), (h1, .inl (cI, 163, .inl (upd (upd z (Int32.toNatClampNeg (11 + p2)) ((z (Int32.toNatClampNeg (11 + p2))) + 1)) (Int32.toNatClampNeg ((127 + (6 * p1)) + 5)) (((upd z (Int32.toNatClampNeg (11 + p2)) ((z (Int32.toNatClampNeg (11 + p2))) + 1)) (Int32.toNatClampNeg ((127 + (6 * p1)) + 5))) ||| (1 <<< (p2 &&& 31)))))), (h2, .inl (cI, 978, .inl hi_c50)), (h3, .inl (cI, 60, .inl tx)), (h4, .inl (cI, 42, .inl pa))] H := hP
      have hD : va_D A [(h0, .inr (6, [.ref h1, .int states_c50, .ref h2, .int ln, .ref h3, .int s0_34, .ref h4, .int rd, .int num, .int due, .long hash])), (h1, .inl (cI, 163, .inl (upd (upd z (Int32.toNatClampNeg (11 + p2)) ((z (Int32.toNatClampNeg (11 + p2))) + 1)) (Int32.toNatClampNeg ((127 + (6 * p1)) + 5)) (((upd z (Int32.toNatClampNeg (11 + p2)) ((z (Int32.toNatClampNeg (11 + p2))) + 1)) (Int32.toNatClampNeg ((127 + (6 * p1)) + 5))) ||| (1 <<< (p2 &&& 31)))))), (h2, .inl (cI, 978, .inl hi_c50)), (h3, .inl (cI, 60, .inl tx)), (h4, .inl (cI, 42, .inl pa))] := hD
      refine lv_aload_n hx hb dX6_approve_83 rfl (lv_at hl 0 rfl) ?_
      refine lv_iload_n hx hb dX6_approve_84 rfl (lv_at hl 1 rfl) ?_
      refine lv_iconst (v := 5) hx hb dX6_approve_85 (by decide) ?_
      obtain ⟨hv_7, eO⟩ := eO
      refine vm_roVx (v := (f_X6_ofRequest (upd (upd z (Int32.toNatClampNeg (11 + p2)) ((z (Int32.toNatClampNeg (11 + p2))) + 1)) (Int32.toNatClampNeg ((127 + (6 * p1)) + 5)) (((upd z (Int32.toNatClampNeg (11 + p2)) ((z (Int32.toNatClampNeg (11 + p2))) + 1)) (Int32.toNatClampNeg ((127 + (6 * p1)) + 5))) ||| (1 <<< (p2 &&& 31)))) p1 5)) (As := [.int p1, .int 5]) (rest := []) (T := TX6) (N := 11) (wc := [(h0, .inr (6, [.ref h1, .int states_c50, .ref h2, .int ln, .ref h3, .int s0_34, .ref h4, .int rd, .int num, .int due, .long hash])), (h1, .inl (cI, 163, .inl (upd (upd z (Int32.toNatClampNeg (11 + p2)) ((z (Int32.toNatClampNeg (11 + p2))) + 1)) (Int32.toNatClampNeg ((127 + (6 * p1)) + 5)) (((upd z (Int32.toNatClampNeg (11 + p2)) ((z (Int32.toNatClampNeg (11 + p2))) + 1)) (Int32.toNatClampNeg ((127 + (6 * p1)) + 5))) ||| (1 <<< (p2 &&& 31)))))), (h2, .inl (cI, 978, .inl hi_c50)), (h3, .inl (cI, 60, .inl tx)), (h4, .inl (cI, 42, .inl pa))]) ⟨hx, hb, hml, hown, hts⟩ hK hN hP hl.1 ⟨Nat.le_of_ble_eq_true rfl, Nat.le_of_ble_eq_true rfl⟩ (c_X6_ofRequest l dC dI cI cB h0 h1 h2 h3 h4 states_c50 ln s0_34 rd num due hash (upd (upd z (Int32.toNatClampNeg (11 + p2)) ((z (Int32.toNatClampNeg (11 + p2))) + 1)) (Int32.toNatClampNeg ((127 + (6 * p1)) + 5)) (((upd z (Int32.toNatClampNeg (11 + p2)) ((z (Int32.toNatClampNeg (11 + p2))) + 1)) (Int32.toNatClampNeg ((127 + (6 * p1)) + 5))) ||| (1 <<< (p2 &&& 31)))) hi_c50 tx pa p1 5 hv_7) (cwV 2 hts gX6_approve_X6_ofRequest rfl rfl rfl yd_X6_ofRequest ⟨Nat.le_of_ble_eq_true rfl, Nat.le_of_ble_eq_true rfl⟩) [0, 1, 2, 3, 4] rfl 6 rfl rfl rfl rfl (Nat.le_of_ble_eq_true rfl) dX6_approve_86 ?_
      refine vm_roSx (v := (f_X6_ones (f_X6_ofRequest (upd (upd z (Int32.toNatClampNeg (11 + p2)) ((z (Int32.toNatClampNeg (11 + p2))) + 1)) (Int32.toNatClampNeg ((127 + (6 * p1)) + 5)) (((upd z (Int32.toNatClampNeg (11 + p2)) ((z (Int32.toNatClampNeg (11 + p2))) + 1)) (Int32.toNatClampNeg ((127 + (6 * p1)) + 5))) ||| (1 <<< (p2 &&& 31)))) p1 5))) (As := [.int (f_X6_ofRequest (upd (upd z (Int32.toNatClampNeg (11 + p2)) ((z (Int32.toNatClampNeg (11 + p2))) + 1)) (Int32.toNatClampNeg ((127 + (6 * p1)) + 5)) (((upd z (Int32.toNatClampNeg (11 + p2)) ((z (Int32.toNatClampNeg (11 + p2))) + 1)) (Int32.toNatClampNeg ((127 + (6 * p1)) + 5))) ||| (1 <<< (p2 &&& 31)))) p1 5)]) (rest := []) ⟨hx, hb, hml, hown, hts⟩ hK hN hP hl.1 ⟨Nat.le_of_ble_eq_true rfl, Nat.le_of_ble_eq_true rfl⟩ (c_X6_ones l dC dI cI cB (f_X6_ofRequest (upd (upd z (Int32.toNatClampNeg (11 + p2)) ((z (Int32.toNatClampNeg (11 + p2))) + 1)) (Int32.toNatClampNeg ((127 + (6 * p1)) + 5)) (((upd z (Int32.toNatClampNeg (11 + p2)) ((z (Int32.toNatClampNeg (11 + p2))) + 1)) (Int32.toNatClampNeg ((127 + (6 * p1)) + 5))) ||| (1 <<< (p2 &&& 31)))) p1 5)) (va_cwS 1 hts gX6_approve_X6_ones rfl rfl rfl yd_X6_ones ⟨Nat.le_of_ble_eq_true rfl, Nat.le_of_ble_eq_true rfl⟩) rfl rfl (Nat.le_of_ble_eq_true rfl) dX6_approve_89 ?_
      refine lv_aload_n hx hb dX6_approve_92 rfl (lv_at hl 0 rfl) ?_
      refine lv_iload_n hx hb dX6_approve_93 rfl (lv_at hl 1 rfl) ?_
      refine lv_iconst (v := 4) hx hb dX6_approve_94 (by decide) ?_
      obtain ⟨hv_8, eO⟩ := eO
      refine vm_roVx (v := (f_X6_ofRequest (upd (upd z (Int32.toNatClampNeg (11 + p2)) ((z (Int32.toNatClampNeg (11 + p2))) + 1)) (Int32.toNatClampNeg ((127 + (6 * p1)) + 5)) (((upd z (Int32.toNatClampNeg (11 + p2)) ((z (Int32.toNatClampNeg (11 + p2))) + 1)) (Int32.toNatClampNeg ((127 + (6 * p1)) + 5))) ||| (1 <<< (p2 &&& 31)))) p1 4)) (As := [.int p1, .int 4]) (rest := [.int (f_X6_ones (f_X6_ofRequest (upd (upd z (Int32.toNatClampNeg (11 + p2)) ((z (Int32.toNatClampNeg (11 + p2))) + 1)) (Int32.toNatClampNeg ((127 + (6 * p1)) + 5)) (((upd z (Int32.toNatClampNeg (11 + p2)) ((z (Int32.toNatClampNeg (11 + p2))) + 1)) (Int32.toNatClampNeg ((127 + (6 * p1)) + 5))) ||| (1 <<< (p2 &&& 31)))) p1 5))]) (T := TX6) (N := 11) (wc := [(h0, .inr (6, [.ref h1, .int states_c50, .ref h2, .int ln, .ref h3, .int s0_34, .ref h4, .int rd, .int num, .int due, .long hash])), (h1, .inl (cI, 163, .inl (upd (upd z (Int32.toNatClampNeg (11 + p2)) ((z (Int32.toNatClampNeg (11 + p2))) + 1)) (Int32.toNatClampNeg ((127 + (6 * p1)) + 5)) (((upd z (Int32.toNatClampNeg (11 + p2)) ((z (Int32.toNatClampNeg (11 + p2))) + 1)) (Int32.toNatClampNeg ((127 + (6 * p1)) + 5))) ||| (1 <<< (p2 &&& 31)))))), (h2, .inl (cI, 978, .inl hi_c50)), (h3, .inl (cI, 60, .inl tx)), (h4, .inl (cI, 42, .inl pa))]) ⟨hx, hb, hml, hown, hts⟩ hK hN hP hl.1 ⟨Nat.le_of_ble_eq_true rfl, Nat.le_of_ble_eq_true rfl⟩ (c_X6_ofRequest l dC dI cI cB h0 h1 h2 h3 h4 states_c50 ln s0_34 rd num due hash (upd (upd z (Int32.toNatClampNeg (11 + p2)) ((z (Int32.toNatClampNeg (11 + p2))) + 1)) (Int32.toNatClampNeg ((127 + (6 * p1)) + 5)) (((upd z (Int32.toNatClampNeg (11 + p2)) ((z (Int32.toNatClampNeg (11 + p2))) + 1)) (Int32.toNatClampNeg ((127 + (6 * p1)) + 5))) ||| (1 <<< (p2 &&& 31)))) hi_c50 tx pa p1 4 hv_8) (cwV 2 hts gX6_approve_X6_ofRequest rfl rfl rfl yd_X6_ofRequest ⟨Nat.le_of_ble_eq_true rfl, Nat.le_of_ble_eq_true rfl⟩) [0, 1, 2, 3, 4] rfl 6 rfl rfl rfl rfl (Nat.le_of_ble_eq_true rfl) dX6_approve_95 ?_
      refine lv_icmp_ge (tgt := 105) hx hb dX6_approve_98 (by decide) (fun c_9 => ?_) (fun c_9 => ?_)
      · rw [if_pos c_9] at eO
        refine lv_aload_n hx hb dX6_approve_105 rfl (lv_at hl 0 rfl) ?_
        refine lv_iload_n hx hb dX6_approve_106 rfl (lv_at hl 1 rfl) ?_
        obtain ⟨hv_10, eO⟩ := eO
        refine vm_rwV (As := [.int p1]) (rest := []) (T := TX6) (N := 11) (wc := [(h0, .inr (6, [.ref h1, .int states_c50, .ref h2, .int ln, .ref h3, .int s0_34, .ref h4, .int rd, .int num, .int due, .long hash])), (h1, .inl (cI, 163, .inl (upd (upd z (Int32.toNatClampNeg (11 + p2)) ((z (Int32.toNatClampNeg (11 + p2))) + 1)) (Int32.toNatClampNeg ((127 + (6 * p1)) + 5)) (((upd z (Int32.toNatClampNeg (11 + p2)) ((z (Int32.toNatClampNeg (11 + p2))) + 1)) (Int32.toNatClampNeg ((127 + (6 * p1)) + 5))) ||| (1 <<< (p2 &&& 31)))))), (h2, .inl (cI, 978, .inl hi_c50)), (h3, .inl (cI, 60, .inl tx)), (h4, .inl (cI, 42, .inl pa))]) (w1 := [(h0, .inr (6, [.ref h1, .int states_c50, .ref h2, .int ln, .ref h3, .int s0_34, .ref h4, .int rd, .int num, .int due, .long hash])), (h1, .inl (cI, 163, .inl ((f_X6_end (upd (upd z (Int32.toNatClampNeg (11 + p2)) ((z (Int32.toNatClampNeg (11 + p2))) + 1)) (Int32.toNatClampNeg ((127 + (6 * p1)) + 5)) (((upd z (Int32.toNatClampNeg (11 + p2)) ((z (Int32.toNatClampNeg (11 + p2))) + 1)) (Int32.toNatClampNeg ((127 + (6 * p1)) + 5))) ||| (1 <<< (p2 &&& 31)))) p1).2))), (h2, .inl (cI, 978, .inl hi_c50)), (h3, .inl (cI, 60, .inl tx)), (h4, .inl (cI, 42, .inl pa))]) ⟨hx, hb, hml, hown, hts⟩ hK hN hP hD hS hA hl.1 ⟨Nat.le_of_ble_eq_true rfl, Nat.le_of_ble_eq_true rfl⟩ (c_X6_end l dC dI cI cB h0 h1 h2 h3 h4 _ states_c50 ln s0_34 rd num due hash (upd (upd z (Int32.toNatClampNeg (11 + p2)) ((z (Int32.toNatClampNeg (11 + p2))) + 1)) (Int32.toNatClampNeg ((127 + (6 * p1)) + 5)) (((upd z (Int32.toNatClampNeg (11 + p2)) ((z (Int32.toNatClampNeg (11 + p2))) + 1)) (Int32.toNatClampNeg ((127 + (6 * p1)) + 5))) ||| (1 <<< (p2 &&& 31)))) hi_c50 tx pa p1 hv_10) (cwV 1 hts gX6_approve_X6_end rfl rfl rfl yd_X6_end ⟨Nat.le_of_ble_eq_true rfl, Nat.le_of_ble_eq_true rfl⟩) [0, 1, 2, 3, 4] rfl rfl rfl 6 rfl rfl rfl rfl (Nat.le_of_ble_eq_true rfl) dX6_approve_107 (fun r110 H locs hw hP hD hS => ?_)
        have hP : va_P (dC, dI) vwCl [(h0, .inr (6, [.ref h1, .int states_c50, .ref h2, .int ln, .ref h3, .int s0_34, .ref h4, .int rd, .int num, .int due, .long hash])), (h1, .inl (cI, 163, .inl ((f_X6_end (upd (upd z (Int32.toNatClampNeg (11 + p2)) ((z (Int32.toNatClampNeg (11 + p2))) + 1)) (Int32.toNatClampNeg ((127 + (6 * p1)) + 5)) (((upd z (Int32.toNatClampNeg (11 + p2)) ((z (Int32.toNatClampNeg (11 + p2))) + 1)) (Int32.toNatClampNeg ((127 + (6 * p1)) + 5))) ||| (1 <<< (p2 &&& 31)))) p1).2))), (h2, .inl (cI, 978, .inl hi_c50)), (h3, .inl (cI, 60, .inl tx)), (h4, .inl (cI, 42, .inl pa))] H := hP
        have hD : va_D A [(h0, .inr (6, [.ref h1, .int states_c50, .ref h2, .int ln, .ref h3, .int s0_34, .ref h4, .int rd, .int num, .int due, .long hash])), (h1, .inl (cI, 163, .inl ((f_X6_end (upd (upd z (Int32.toNatClampNeg (11 + p2)) ((z (Int32.toNatClampNeg (11 + p2))) + 1)) (Int32.toNatClampNeg ((127 + (6 * p1)) + 5)) (((upd z (Int32.toNatClampNeg (11 + p2)) ((z (Int32.toNatClampNeg (11 + p2))) + 1)) (Int32.toNatClampNeg ((127 + (6 * p1)) + 5))) ||| (1 <<< (p2 &&& 31)))) p1).2))), (h2, .inl (cI, 978, .inl hi_c50)), (h3, .inl (cI, 60, .inl tx)), (h4, .inl (cI, 42, .inl pa))] := hD
        obtain ⟨y110, ey110⟩ : ∃ zz9, zz9 = (f_X6_end (upd (upd z (Int32.toNatClampNeg (11 + p2)) ((z (Int32.toNatClampNeg (11 + p2))) + 1)) (Int32.toNatClampNeg ((127 + (6 * p1)) + 5)) (((upd z (Int32.toNatClampNeg (11 + p2)) ((z (Int32.toNatClampNeg (11 + p2))) + 1)) (Int32.toNatClampNeg ((127 + (6 * p1)) + 5))) ||| (1 <<< (p2 &&& 31)))) p1).1 := ⟨_, rfl⟩
        obtain rfl : y110 = r110 := (hw.trans ey110.symm).symm
        obtain ⟨z_c110, ez_c110⟩ : ∃ zz9, zz9 = (f_X6_end (upd (upd z (Int32.toNatClampNeg (11 + p2)) ((z (Int32.toNatClampNeg (11 + p2))) + 1)) (Int32.toNatClampNeg ((127 + (6 * p1)) + 5)) (((upd z (Int32.toNatClampNeg (11 + p2)) ((z (Int32.toNatClampNeg (11 + p2))) + 1)) (Int32.toNatClampNeg ((127 + (6 * p1)) + 5))) ||| (1 <<< (p2 &&& 31)))) p1).2 := ⟨_, rfl⟩
        rw [← ez_c110] at hP hD
        have eF : rr = f_X6_approve_c110 s0_34 states_c50 hi_c50 y110 z_c110 := eF.trans (by rw [f_X6_approve_c50, if_pos c_9, ey110, ez_c110])
        have eO : o_X6_approve_c110 s0_34 states_c50 hi_c50 y110 z_c110 := by rw [ey110, ez_c110]; exact eO
        rw [o_X6_approve_c110] at eO
        have e9 : rr = ((y110, states_c50, s0_34, z_c110, hi_c50) : Int32 × Int32 × Int32 × (Nat → Int32) × (Nat → Int32)) := eF.trans (by rw [f_X6_approve_c110])
        exact W.iret (v := y110) hx hb hr (fun t ht hW => ⟨⟨_, (), rfl, by rw [e9], (by rw [e9]; show va_P _ _ _ t.heap; rw [ht]; exact hP)⟩, hS.F ht⟩) hS.2.2 dX6_approve_110
      · rw [if_neg c_9] at eO
        refine lv_iconst (v := 0) hx hb dX6_approve_101 (by decide) ?_
        refine lv_goto (tgt := 110) hx hb dX6_approve_102 (by decide) ?_
        have e9 : rr = ((0, states_c50, s0_34, (upd (upd z (Int32.toNatClampNeg (11 + p2)) ((z (Int32.toNatClampNeg (11 + p2))) + 1)) (Int32.toNatClampNeg ((127 + (6 * p1)) + 5)) (((upd z (Int32.toNatClampNeg (11 + p2)) ((z (Int32.toNatClampNeg (11 + p2))) + 1)) (Int32.toNatClampNeg ((127 + (6 * p1)) + 5))) ||| (1 <<< (p2 &&& 31)))), hi_c50) : Int32 × Int32 × Int32 × (Nat → Int32) × (Nat → Int32)) := eF.trans (by rw [f_X6_approve_c50, if_neg c_9])
        exact W.iret (v := 0) hx hb hr (fun t ht hW => ⟨⟨_, (), rfl, by rw [e9], (by rw [e9]; show va_P _ _ _ t.heap; rw [ht]; exact hP)⟩, hS.F ht⟩) hS.2.2 dX6_approve_110
    · rw [if_neg c_1] at eO
      refine lv_iconst (v := 0) hx hb dX6_approve_44 (by decide) ?_
      have e9 : rr = ((0, states, s0_34, z, hi) : Int32 × Int32 × Int32 × (Nat → Int32) × (Nat → Int32)) := eF.trans (by rw [f_X6_approve_j34, if_neg c_1])
      exact W.iret (v := 0) hx hb hr (fun t ht hW => ⟨⟨_, (), rfl, by rw [e9], (by rw [e9]; show va_P _ _ _ t.heap; rw [ht]; exact hP)⟩, hS.F ht⟩) hS.2.2 dX6_approve_45
  have hJ16 : rr = f_X6_approve_j16 states z hi p1 p2 → o_X6_approve_j16 states z hi p1 p2 → ∀ (H : Heap) (locs : List Loc), va_P (dC, dI) vwCl [(h0, .inr (6, [.ref h1, .int states, .ref h2, .int ln, .ref h3, .int thr, .ref h4, .int rd, .int num, .int due, .long hash])), (h1, .inl (cI, 163, .inl z)), (h2, .inl (cI, 978, .inl hi)), (h3, .inl (cI, 60, .inl tx)), (h4, .inl (cI, 42, .inl pa))] H → va_D A [(h0, .inr (6, [.ref h1, .int states, .ref h2, .int ln, .ref h3, .int thr, .ref h4, .int rd, .int num, .int due, .long hash])), (h1, .inl (cI, 163, .inl z)), (h2, .inl (cI, 978, .inl hi)), (h3, .inl (cI, 60, .inl tx)), (h4, .inl (cI, 42, .inl pa))] → va_S A s.heap H locs → ∀ (ls : Array Slot), lv_has ls 3 [(0, .ref h0), (1, .int p1), (2, .int p2)] → W p l e (headSpec wsX6_approve ({ frames := 5, cells := 0, slots := 0, locals := 112 })).room s m ([.ref h0, .int p1, .int p2] : List Value).toArray below meth c H locs 0 0 (MQ below (va_Qi (fun (r9 : Int32) (_ : Unit) => r9 = rr.1) (fun _ t => va_P (dC, dI) vwCl [(h0, .inr (6, [.ref h1, .int rr.2.1, .ref h2, .int ln, .ref h3, .int rr.2.2.1, .ref h4, .int rd, .int num, .int due, .long hash])), (h1, .inl (cI, 163, .inl rr.2.2.2.1)), (h2, .inl (cI, 978, .inl rr.2.2.2.2)), (h3, .inl (cI, 60, .inl tx)), (h4, .inl (cI, 42, .inl pa))] t.heap) A) ([.ref h0, .int p1, .int p2] : List Value).toArray s 0 0 A) (F0 m 16 ls [.ref h0]) := by
    intro eF eO H locs hP hD hS ls hl
    rw [o_X6_approve_j16] at eO
    refine lv_iconst (v := 1) hx hb dX6_approve_16 (by decide) ?_
    refine lv_goto (tgt := 34) hx hb dX6_approve_17 (by decide) ?_
    exact hJ34 1 (eF.trans (by rw [f_X6_approve_j16])) eO _ _ hP hD hS ls (lv_sub hl [0, 1, 2] rfl)
  rw [o_X6_approve] at eO
  refine lv_aload_n hx hb dX6_approve_0 rfl (lv_at hl 0 rfl) ?_
  refine lv_aload_n hx hb dX6_approve_1 rfl (lv_at hl 0 rfl) ?_
  refine lv_iload_n hx hb dX6_approve_2 rfl (lv_at hl 1 rfl) ?_
  refine vm_roVx (v := vm_bi (f_X6_isRequest z p1)) (As := [.int p1]) (rest := [.ref h0]) (T := TX6) (N := 11) (wc := [(h0, .inr (6, [.ref h1, .int states, .ref h2, .int ln, .ref h3, .int thr, .ref h4, .int rd, .int num, .int due, .long hash])), (h1, .inl (cI, 163, .inl z)), (h2, .inl (cI, 978, .inl hi)), (h3, .inl (cI, 60, .inl tx)), (h4, .inl (cI, 42, .inl pa))]) ⟨hx, hb, hml, hown, hts⟩ hK hN hP hl.1 ⟨Nat.le_of_ble_eq_true rfl, Nat.le_of_ble_eq_true rfl⟩ (c_X6_isRequest l dC dI cI cB h0 h1 h2 h3 h4 states ln thr rd num due hash z hi tx pa p1) (cwV 1 hts gX6_approve_X6_isRequest rfl rfl rfl yd_X6_isRequest ⟨Nat.le_of_ble_eq_true rfl, Nat.le_of_ble_eq_true rfl⟩) [0, 1, 2, 3, 4] rfl 6 rfl rfl rfl rfl (Nat.le_of_ble_eq_true rfl) dX6_approve_3 ?_
  refine lv_if_eq (tgt := 16) hx hb dX6_approve_6 (by decide) (fun c_11 => ?_) (fun c_11 => ?_)
  · rw [if_pos c_11] at eO
    exact hJ16 (eF.trans (by rw [f_X6_approve, if_pos c_11])) eO _ _ hP hD hS ls (lv_sub hl [0, 1, 2] rfl)
  · rw [if_neg c_11] at eO
    refine lv_iload_n hx hb dX6_approve_9 rfl (lv_at hl 2 rfl) ?_
    refine vm_roSx (v := vm_bi (f_X6_isPerson p2)) (As := [.int p2]) (rest := [.ref h0]) ⟨hx, hb, hml, hown, hts⟩ hK hN hP hl.1 ⟨Nat.le_of_ble_eq_true rfl, Nat.le_of_ble_eq_true rfl⟩ (c_X6_isPerson l dC dI cI cB p2) (va_cwS 1 hts gX6_approve_X6_isPerson rfl rfl rfl yd_X6_isPerson ⟨Nat.le_of_ble_eq_true rfl, Nat.le_of_ble_eq_true rfl⟩) rfl rfl (Nat.le_of_ble_eq_true rfl) dX6_approve_10 ?_
    refine lv_if_ne (tgt := 20) hx hb dX6_approve_13 (by decide) (fun c_12 => ?_) (fun c_12 => ?_)
    · rw [if_neg c_12] at eO
      refine lv_aload_n hx hb dX6_approve_20 rfl (lv_at hl 0 rfl) ?_
      refine lv_iload_n hx hb dX6_approve_21 rfl (lv_at hl 1 rfl) ?_
      refine lv_iload_n hx hb dX6_approve_22 rfl (lv_at hl 2 rfl) ?_
      obtain ⟨hv_13, eO⟩ := eO
      refine vm_roVx (v := vm_bi (f_X6_canApprove z p1 p2)) (As := [.int p1, .int p2]) (rest := [.ref h0]) (T := TX6) (N := 11) (wc := [(h0, .inr (6, [.ref h1, .int states, .ref h2, .int ln, .ref h3, .int thr, .ref h4, .int rd, .int num, .int due, .long hash])), (h1, .inl (cI, 163, .inl z)), (h2, .inl (cI, 978, .inl hi)), (h3, .inl (cI, 60, .inl tx)), (h4, .inl (cI, 42, .inl pa))]) ⟨hx, hb, hml, hown, hts⟩ hK hN hP hl.1 ⟨Nat.le_of_ble_eq_true rfl, Nat.le_of_ble_eq_true rfl⟩ (c_X6_canApprove l dC dI cI cB h0 h1 h2 h3 h4 states ln thr rd num due hash z hi tx pa p1 p2 hv_13) (cwV 2 hts gX6_approve_X6_canApprove rfl rfl rfl yd_X6_canApprove ⟨Nat.le_of_ble_eq_true rfl, Nat.le_of_ble_eq_true rfl⟩) [0, 1, 2, 3, 4] rfl 6 rfl rfl rfl rfl (Nat.le_of_ble_eq_true rfl) dX6_approve_23 ?_
      refine lv_if_eq (tgt := 33) hx hb dX6_approve_26 (by decide) (fun c_14 => ?_) (fun c_14 => ?_)
      · rw [if_pos c_14] at eO
        refine lv_iconst (v := 2) hx hb dX6_approve_33 (by decide) ?_
        exact hJ34 2 (eF.trans (by rw [f_X6_approve, if_neg c_11, if_neg c_12, if_pos c_14])) eO _ _ hP hD hS ls (lv_sub hl [0, 1, 2] rfl)
      · rw [if_neg c_14] at eO
        refine lv_iconst (v := 0) hx hb dX6_approve_29 (by decide) ?_
        refine lv_goto (tgt := 34) hx hb dX6_approve_30 (by decide) ?_
        exact hJ34 0 (eF.trans (by rw [f_X6_approve, if_neg c_11, if_neg c_12, if_neg c_14])) eO _ _ hP hD hS ls (lv_sub hl [0, 1, 2] rfl)
    · rw [if_pos c_12] at eO
      exact hJ16 (eF.trans (by rw [f_X6_approve, if_neg c_11, if_pos c_12])) eO _ _ hP hD hS ls (lv_sub hl [0, 1, 2] rfl)

def f_X6_takeBack_c55 (z : Nat → Int32) (p1 : Int32) (s0_27 : Int32) (states_c43 : Int32) (hi_c43 : Nat → Int32) (z_c55 : Nat → Int32) : Int32 × Int32 × Int32 × (Nat → Int32) × (Nat → Int32) :=
  ((f_X6_ofRequest z p1 1), states_c43, s0_27, z_c55, hi_c43)
def f_X6_takeBack_c43 (z : Nat → Int32) (p1 : Int32) (s0_27 : Int32) (states_c43 : Int32) (hi_c43 : Nat → Int32) : Int32 × Int32 × Int32 × (Nat → Int32) × (Nat → Int32) :=
  f_X6_takeBack_c55 z p1 s0_27 states_c43 hi_c43 (f_X6_removeRequest z p1)
def f_X6_takeBack_j27 (states : Int32) (z : Nat → Int32) (hi : Nat → Int32) (p1 : Int32) (s0_27 : Int32) : Int32 × Int32 × Int32 × (Nat → Int32) × (Nat → Int32) :=
  if s0_27 ≤ 0 then
    f_X6_takeBack_c43 z p1 s0_27 ((f_X6_save states z hi).1) ((f_X6_save states z hi).2)
  else
    (0, states, s0_27, z, hi)
def f_X6_takeBack (states : Int32) (z : Nat → Int32) (hi : Nat → Int32) (p1 : Int32) : Int32 × Int32 × Int32 × (Nat → Int32) × (Nat → Int32) :=
  if (vm_bi (f_X6_isRequest z p1)) = 0 then
    f_X6_takeBack_j27 states z hi p1 1
  else
    if (f_X6_ofRequest z p1 3) = 0 then
      f_X6_takeBack_j27 states z hi p1 0
    else
      f_X6_takeBack_j27 states z hi p1 2
def o_X6_takeBack_c55 (z : Nat → Int32) (p1 : Int32) (s0_27 : Int32) (states_c43 : Int32) (hi_c43 : Nat → Int32) (z_c55 : Nat → Int32) : Prop :=
  True
def o_X6_takeBack_c43 (z : Nat → Int32) (p1 : Int32) (s0_27 : Int32) (states_c43 : Int32) (hi_c43 : Nat → Int32) : Prop :=
  o_X6_ofRequest z p1 1 ∧
  (o_X6_removeRequest z p1 ∧
  (o_X6_takeBack_c55 z p1 s0_27 states_c43 hi_c43 (f_X6_removeRequest z p1)))
def o_X6_takeBack_j27 (states : Int32) (z : Nat → Int32) (hi : Nat → Int32) (p1 : Int32) (s0_27 : Int32) : Prop :=
  if s0_27 ≤ 0 then
    o_X6_save states z hi ∧
    (o_X6_takeBack_c43 z p1 s0_27 ((f_X6_save states z hi).1) ((f_X6_save states z hi).2))
  else
    True
def o_X6_takeBack (states : Int32) (z : Nat → Int32) (hi : Nat → Int32) (p1 : Int32) : Prop :=
  if (vm_bi (f_X6_isRequest z p1)) = 0 then
    o_X6_takeBack_j27 states z hi p1 1
  else
    o_X6_ofRequest z p1 3 ∧
    (if (f_X6_ofRequest z p1 3) = 0 then
      o_X6_takeBack_j27 states z hi p1 0
    else
      o_X6_takeBack_j27 states z hi p1 2)
theorem yd_X6_takeBack : yX6_takeBack.cls = RX6 ∧ yX6_takeBack.cls ≠ "java/lang/invoke/MethodHandle" ∧ yX6_takeBack.cls ≠ "java/lang/invoke/VarHandle" ∧ (parseMethodDescriptor yX6_takeBack.desc).map (fun d => d.parameters.length) = some 1 := by decide +kernel
set_option maxHeartbeats 4000000 in
set_option maxRecDepth 100000 in
theorem c_X6_takeBack (l : Launch) (dC : Nat → ClassId) (dI : Nat → Nat → Nat) (cI cB : ClassId) (h0 h1 h2 h3 h4 : Nat) (sz : Nat) (states : Int32) (ln : Int32) (thr : Int32) (rd : Int32) (num : Int32) (due : Int32) (hash : Int64) (z : Nat → Int32) (hi : Nat → Int32) (tx : Nat → Int32) (pa : Nat → Int32) (p1 : Int32) (eO : o_X6_takeBack states z hi p1) : Met l yX6_takeBack wsX6_takeBack ({ frames := 2, cells := 0, slots := 0, locals := 43 }) (vm_prw [.ref h0, .int p1] (dC, dI) [(h0, .inr (6, [.ref h1, .int states, .ref h2, .int ln, .ref h3, .int thr, .ref h4, .int rd, .int num, .int due, .long hash])), (h1, .inl (cI, 163, .inl z)), (h2, .inl (cI, 978, .inl hi)), (h3, .inl (cI, 60, .inl tx)), (h4, .inl (cI, 42, .inl pa))] cI cB sz) (va_Qi (fun (r9 : Int32) (_ : Unit) => r9 = (f_X6_takeBack states z hi p1).1) (fun _ t => va_P (dC, dI) vwCl [(h0, .inr (6, [.ref h1, .int ((f_X6_takeBack states z hi p1).2.1), .ref h2, .int ln, .ref h3, .int ((f_X6_takeBack states z hi p1).2.2.1), .ref h4, .int rd, .int num, .int due, .long hash])), (h1, .inl (cI, 163, .inl ((f_X6_takeBack states z hi p1).2.2.2.1))), (h2, .inl (cI, 978, .inl ((f_X6_takeBack states z hi p1).2.2.2.2))), (h3, .inl (cI, 60, .inl tx)), (h4, .inl (cI, 42, .inl pa))] t.heap) (va_A [(h0, .inr (6, [.ref h1, .int states, .ref h2, .int ln, .ref h3, .int thr, .ref h4, .int rd, .int num, .int due, .long hash])), (h1, .inl (cI, 163, .inl z)), (h2, .inl (cI, 978, .inl hi)), (h3, .inl (cI, 60, .inl tx)), (h4, .inl (cI, 42, .inl pa))] sz)) 0 0 (va_A [(h0, .inr (6, [.ref h1, .int states, .ref h2, .int ln, .ref h3, .int thr, .ref h4, .int rd, .int num, .int due, .long hash])), (h1, .inl (cI, 163, .inl z)), (h2, .inl (cI, 978, .inl hi)), (h3, .inl (cI, 60, .inl tx)), (h4, .inl (cI, 42, .inl pa))] sz) := by
  refine Met.ofW (cc := cX6_takeBack) (maxL := 3) (ret := (some .int)) (by decide) rfl ?_
  intro p e s m args below meth c s₁ B hml hv
  obtain ⟨rfl, hsz, hP, hK, hN, hD0⟩ := hv
  have hx := B.exec
  have hb := B.bytes
  have hr := B.returns
  have hts := atoms_spec (ws := wsX6_takeBack) B.pre
  have hown : s.vm.findClass RX6 = some m.cls := findClass_of_methodNamed B.named
  have hlocks := B.notSynchronized
  subst hsz
  have hD := hD0.self (sz := s.heap.size)
  generalize hAe : va_A [(h0, .inr (6, [.ref h1, .int states, .ref h2, .int ln, .ref h3, .int thr, .ref h4, .int rd, .int num, .int due, .long hash])), (h1, .inl (cI, 163, .inl z)), (h2, .inl (cI, 978, .inl hi)), (h3, .inl (cI, 60, .inl tx)), (h4, .inl (cI, 42, .inl pa))] s.heap.size = A at hD ⊢
  have hA : ∀ q : Nat, s.heap.size ≤ q → A q := fun q h => by rw [← hAe]; exact Or.inr h
  have hS : va_S A s.heap s.heap [] := va_S.rf
  have hP : va_P (dC, dI) vwCl [(h0, .inr (6, [.ref h1, .int states, .ref h2, .int ln, .ref h3, .int thr, .ref h4, .int rd, .int num, .int due, .long hash])), (h1, .inl (cI, 163, .inl z)), (h2, .inl (cI, 978, .inl hi)), (h3, .inl (cI, 60, .inl tx)), (h4, .inl (cI, 42, .inl pa))] s.heap := hP
  have kw1 := hts (.fieldLink RX6 22 "LapseMandatesModel" "thrown" "I") (List.mem_of_getElem? (i := 1) rfl)
  have iwsX60 : ∀ w ∈ wsX60, w ∈ wsX6_takeBack := fun w h => List.mem_cons_of_mem _ (List.mem_append_right _ h)
  generalize hrr : f_X6_takeBack states z hi p1 = rr
  have eF := hrr.symm
  have hl := lv_entry ([.ref h0, .int p1]) (n := 3) (Nat.le_of_ble_eq_true rfl)
  rw [lg_entry_eq]
  generalize (lg_sl ([.ref h0, .int p1]) ++ List.replicate (3 - (lg_sl ([.ref h0, .int p1])).length) Slot.unset).toArray = ls at hl ⊢
  have hl : lv_has ls 3 [(0, .ref h0), (1, .int p1)] := hl
  have hJ27 : ∀ (s0_27 : Int32), rr = f_X6_takeBack_j27 states z hi p1 s0_27 → o_X6_takeBack_j27 states z hi p1 s0_27 → ∀ (H : Heap) (locs : List Loc), va_P (dC, dI) vwCl [(h0, .inr (6, [.ref h1, .int states, .ref h2, .int ln, .ref h3, .int thr, .ref h4, .int rd, .int num, .int due, .long hash])), (h1, .inl (cI, 163, .inl z)), (h2, .inl (cI, 978, .inl hi)), (h3, .inl (cI, 60, .inl tx)), (h4, .inl (cI, 42, .inl pa))] H → va_D A [(h0, .inr (6, [.ref h1, .int states, .ref h2, .int ln, .ref h3, .int thr, .ref h4, .int rd, .int num, .int due, .long hash])), (h1, .inl (cI, 163, .inl z)), (h2, .inl (cI, 978, .inl hi)), (h3, .inl (cI, 60, .inl tx)), (h4, .inl (cI, 42, .inl pa))] → va_S A s.heap H locs → ∀ (ls : Array Slot), lv_has ls 3 [(0, .ref h0), (1, .int p1)] → W p l e (headSpec wsX6_takeBack ({ frames := 2, cells := 0, slots := 0, locals := 43 })).room s m ([.ref h0, .int p1] : List Value).toArray below meth c H locs 0 0 (MQ below (va_Qi (fun (r9 : Int32) (_ : Unit) => r9 = rr.1) (fun _ t => va_P (dC, dI) vwCl [(h0, .inr (6, [.ref h1, .int rr.2.1, .ref h2, .int ln, .ref h3, .int rr.2.2.1, .ref h4, .int rd, .int num, .int due, .long hash])), (h1, .inl (cI, 163, .inl rr.2.2.2.1)), (h2, .inl (cI, 978, .inl rr.2.2.2.2)), (h3, .inl (cI, 60, .inl tx)), (h4, .inl (cI, 42, .inl pa))] t.heap) A) ([.ref h0, .int p1] : List Value).toArray s 0 0 A) (F0 m 27 ls [.int s0_27, .ref h0]) := by
    intro s0_27 eF eO H locs hP hD hS ls hl
    rw [o_X6_takeBack_j27] at eO
    refine va_put (D := (dC, dI)) (ci := 6) (v := .int s0_27) (ty := .int) (C := RX6) (T := TX6) (N := 11) hx hb hts iwsX60 tyX6 tyX6_ok nmX6 hown hK hP hD hS 0 rfl rfl 5 (by decide) kw1 (fun _ h9 => h9) rfl (by decide +kernel) rfl rfl (Nat.le_of_ble_eq_true rfl) dX6_takeBack_27 (fun H locs hP hD hS => ?_)
    have hP : va_P (dC, dI) vwCl [(h0, .inr (6, [.ref h1, .int states, .ref h2, .int ln, .ref h3, .int s0_27, .ref h4, .int rd, .int num, .int due, .long hash])), (h1, .inl (cI, 163, .inl z)), (h2, .inl (cI, 978, .inl hi)), (h3, .inl (cI, 60, .inl tx)), (h4, .inl (cI, 42, .inl pa))] H := hP
    have hD : va_D A [(h0, .inr (6, [.ref h1, .int states, .ref h2, .int ln, .ref h3, .int s0_27, .ref h4, .int rd, .int num, .int due, .long hash])), (h1, .inl (cI, 163, .inl z)), (h2, .inl (cI, 978, .inl hi)), (h3, .inl (cI, 60, .inl tx)), (h4, .inl (cI, 42, .inl pa))] := hD
    refine lv_aload_n hx hb dX6_takeBack_30 rfl (lv_at hl 0 rfl) ?_
    refine va_get (D := (dC, dI)) (ci := 6) (v := .int s0_27) (C := RX6) (T := TX6) (N := 11) hx hb hts iwsX60 hown hK hP 0 rfl rfl 5 (by decide) kw1 (fun _ h9 => h9) rfl dX6_takeBack_31 ?_
    refine lv_if_le (tgt := 39) hx hb dX6_takeBack_34 (by decide) (fun c_1 => ?_) (fun c_1 => ?_)
    · rw [if_pos c_1] at eO
      refine lv_aload_n hx hb dX6_takeBack_39 rfl (lv_at hl 0 rfl) ?_
      obtain ⟨hv_2, eO⟩ := eO
      refine vm_rwVv (As := []) (rest := []) (T := TX6) (N := 11) (wc := [(h0, .inr (6, [.ref h1, .int states, .ref h2, .int ln, .ref h3, .int s0_27, .ref h4, .int rd, .int num, .int due, .long hash])), (h1, .inl (cI, 163, .inl z)), (h2, .inl (cI, 978, .inl hi)), (h3, .inl (cI, 60, .inl tx)), (h4, .inl (cI, 42, .inl pa))]) (w1 := [(h0, .inr (6, [.ref h1, .int ((f_X6_save states z hi).1), .ref h2, .int ln, .ref h3, .int s0_27, .ref h4, .int rd, .int num, .int due, .long hash])), (h1, .inl (cI, 163, .inl z)), (h2, .inl (cI, 978, .inl ((f_X6_save states z hi).2))), (h3, .inl (cI, 60, .inl tx)), (h4, .inl (cI, 42, .inl pa))]) ⟨hx, hb, hml, hown, hts⟩ hK hN hP hD hS hA hl.1 ⟨Nat.le_of_ble_eq_true rfl, Nat.le_of_ble_eq_true rfl⟩ (c_X6_save l dC dI cI cB h0 h1 h2 h3 h4 _ states ln s0_27 rd num due hash z hi tx pa hv_2) (cwV 0 hts gX6_takeBack_X6_save rfl rfl rfl yd_X6_save ⟨Nat.le_of_ble_eq_true rfl, Nat.le_of_ble_eq_true rfl⟩) [0, 1, 2, 3, 4] rfl rfl rfl 6 rfl rfl rfl rfl (Nat.le_of_ble_eq_true rfl) dX6_takeBack_40 (fun H locs hP hD hS => ?_)
      have hP : va_P (dC, dI) vwCl [(h0, .inr (6, [.ref h1, .int ((f_X6_save states z hi).1), .ref h2, .int ln, .ref h3, .int s0_27, .ref h4, .int rd, .int num, .int due, .long hash])), (h1, .inl (cI, 163, .inl z)), (h2, .inl (cI, 978, .inl ((f_X6_save states z hi).2))), (h3, .inl (cI, 60, .inl tx)), (h4, .inl (cI, 42, .inl pa))] H := hP
      have hD : va_D A [(h0, .inr (6, [.ref h1, .int ((f_X6_save states z hi).1), .ref h2, .int ln, .ref h3, .int s0_27, .ref h4, .int rd, .int num, .int due, .long hash])), (h1, .inl (cI, 163, .inl z)), (h2, .inl (cI, 978, .inl ((f_X6_save states z hi).2))), (h3, .inl (cI, 60, .inl tx)), (h4, .inl (cI, 42, .inl pa))] := hD
      obtain ⟨states_c43, estates_c43⟩ : ∃ zz9, zz9 = (f_X6_save states z hi).1 := ⟨_, rfl⟩
      rw [← estates_c43] at hP hD
      obtain ⟨hi_c43, ehi_c43⟩ : ∃ zz9, zz9 = (f_X6_save states z hi).2 := ⟨_, rfl⟩
      rw [← ehi_c43] at hP hD
      have eF : rr = f_X6_takeBack_c43 z p1 s0_27 states_c43 hi_c43 := eF.trans (by rw [f_X6_takeBack_j27, if_pos c_1, estates_c43, ehi_c43])
      have eO : o_X6_takeBack_c43 z p1 s0_27 states_c43 hi_c43 := by rw [estates_c43, ehi_c43]; exact eO
      rw [o_X6_takeBack_c43] at eO
      refine lv_aload_n hx hb dX6_takeBack_43 rfl (lv_at hl 0 rfl) ?_
      refine lv_iload_n hx hb dX6_takeBack_44 rfl (lv_at hl 1 rfl) ?_
      refine lv_iconst (v := 1) hx hb dX6_takeBack_45 (by decide) ?_
      obtain ⟨hv_3, eO⟩ := eO
      refine vm_roVx (v := (f_X6_ofRequest z p1 1)) (As := [.int p1, .int 1]) (rest := []) (T := TX6) (N := 11) (wc := [(h0, .inr (6, [.ref h1, .int states_c43, .ref h2, .int ln, .ref h3, .int s0_27, .ref h4, .int rd, .int num, .int due, .long hash])), (h1, .inl (cI, 163, .inl z)), (h2, .inl (cI, 978, .inl hi_c43)), (h3, .inl (cI, 60, .inl tx)), (h4, .inl (cI, 42, .inl pa))]) ⟨hx, hb, hml, hown, hts⟩ hK hN hP hl.1 ⟨Nat.le_of_ble_eq_true rfl, Nat.le_of_ble_eq_true rfl⟩ (c_X6_ofRequest l dC dI cI cB h0 h1 h2 h3 h4 states_c43 ln s0_27 rd num due hash z hi_c43 tx pa p1 1 hv_3) (cwV 2 hts gX6_takeBack_X6_ofRequest rfl rfl rfl yd_X6_ofRequest ⟨Nat.le_of_ble_eq_true rfl, Nat.le_of_ble_eq_true rfl⟩) [0, 1, 2, 3, 4] rfl 6 rfl rfl rfl rfl (Nat.le_of_ble_eq_true rfl) dX6_takeBack_46 ?_
      refine lv_istore_n (lv' := [(2, .int (f_X6_ofRequest z p1 1)), (0, .ref h0), (1, .int p1)]) hx hb dX6_takeBack_49 rfl hl (by decide) rfl (fun ls hl => ?_)
      refine lv_aload_n hx hb dX6_takeBack_50 rfl (lv_at hl 1 rfl) ?_
      refine lv_iload_n hx hb dX6_takeBack_51 rfl (lv_at hl 2 rfl) ?_
      obtain ⟨hv_4, eO⟩ := eO
      refine vm_rwVv (As := [.int p1]) (rest := []) (T := TX6) (N := 11) (wc := [(h0, .inr (6, [.ref h1, .int states_c43, .ref h2, .int ln, .ref h3, .int s0_27, .ref h4, .int rd, .int num, .int due, .long hash])), (h1, .inl (cI, 163, .inl z)), (h2, .inl (cI, 978, .inl hi_c43)), (h3, .inl (cI, 60, .inl tx)), (h4, .inl (cI, 42, .inl pa))]) (w1 := [(h0, .inr (6, [.ref h1, .int states_c43, .ref h2, .int ln, .ref h3, .int s0_27, .ref h4, .int rd, .int num, .int due, .long hash])), (h1, .inl (cI, 163, .inl (f_X6_removeRequest z p1))), (h2, .inl (cI, 978, .inl hi_c43)), (h3, .inl (cI, 60, .inl tx)), (h4, .inl (cI, 42, .inl pa))]) ⟨hx, hb, hml, hown, hts⟩ hK hN hP hD hS hA hl.1 ⟨Nat.le_of_ble_eq_true rfl, Nat.le_of_ble_eq_true rfl⟩ (c_X6_removeRequest l dC dI cI cB h0 h1 h2 h3 h4 _ states_c43 ln s0_27 rd num due hash z hi_c43 tx pa p1 hv_4) (cwV 1 hts gX6_takeBack_X6_removeRequest rfl rfl rfl yd_X6_removeRequest ⟨Nat.le_of_ble_eq_true rfl, Nat.le_of_ble_eq_true rfl⟩) [0, 1, 2, 3, 4] rfl rfl rfl 6 rfl rfl rfl rfl (Nat.le_of_ble_eq_true rfl) dX6_takeBack_52 (fun H locs hP hD hS => ?_)
      have hP : va_P (dC, dI) vwCl [(h0, .inr (6, [.ref h1, .int states_c43, .ref h2, .int ln, .ref h3, .int s0_27, .ref h4, .int rd, .int num, .int due, .long hash])), (h1, .inl (cI, 163, .inl (f_X6_removeRequest z p1))), (h2, .inl (cI, 978, .inl hi_c43)), (h3, .inl (cI, 60, .inl tx)), (h4, .inl (cI, 42, .inl pa))] H := hP
      have hD : va_D A [(h0, .inr (6, [.ref h1, .int states_c43, .ref h2, .int ln, .ref h3, .int s0_27, .ref h4, .int rd, .int num, .int due, .long hash])), (h1, .inl (cI, 163, .inl (f_X6_removeRequest z p1))), (h2, .inl (cI, 978, .inl hi_c43)), (h3, .inl (cI, 60, .inl tx)), (h4, .inl (cI, 42, .inl pa))] := hD
      obtain ⟨z_c55, ez_c55⟩ : ∃ zz9, zz9 = (f_X6_removeRequest z p1) := ⟨_, rfl⟩
      rw [← ez_c55] at hP hD
      have eF : rr = f_X6_takeBack_c55 z p1 s0_27 states_c43 hi_c43 z_c55 := eF.trans (by rw [f_X6_takeBack_c43, ez_c55])
      have eO : o_X6_takeBack_c55 z p1 s0_27 states_c43 hi_c43 z_c55 := by rw [ez_c55]; exact eO
      rw [o_X6_takeBack_c55] at eO
      refine lv_iload_n hx hb dX6_takeBack_55 rfl (lv_at hl 0 rfl) ?_
      have e9 : rr = (((f_X6_ofRequest z p1 1), states_c43, s0_27, z_c55, hi_c43) : Int32 × Int32 × Int32 × (Nat → Int32) × (Nat → Int32)) := eF.trans (by rw [f_X6_takeBack_c55])
      exact W.iret (v := (f_X6_ofRequest z p1 1)) hx hb hr (fun t ht hW => ⟨⟨_, (), rfl, by rw [e9], (by rw [e9]; show va_P _ _ _ t.heap; rw [ht]; exact hP)⟩, hS.F ht⟩) hS.2.2 dX6_takeBack_56
    · rw [if_neg c_1] at eO
      refine lv_iconst (v := 0) hx hb dX6_takeBack_37 (by decide) ?_
      have e9 : rr = ((0, states, s0_27, z, hi) : Int32 × Int32 × Int32 × (Nat → Int32) × (Nat → Int32)) := eF.trans (by rw [f_X6_takeBack_j27, if_neg c_1])
      exact W.iret (v := 0) hx hb hr (fun t ht hW => ⟨⟨_, (), rfl, by rw [e9], (by rw [e9]; show va_P _ _ _ t.heap; rw [ht]; exact hP)⟩, hS.F ht⟩) hS.2.2 dX6_takeBack_38
  rw [o_X6_takeBack] at eO
  refine lv_aload_n hx hb dX6_takeBack_0 rfl (lv_at hl 0 rfl) ?_
  refine lv_aload_n hx hb dX6_takeBack_1 rfl (lv_at hl 0 rfl) ?_
  refine lv_iload_n hx hb dX6_takeBack_2 rfl (lv_at hl 1 rfl) ?_
  refine vm_roVx (v := vm_bi (f_X6_isRequest z p1)) (As := [.int p1]) (rest := [.ref h0]) (T := TX6) (N := 11) (wc := [(h0, .inr (6, [.ref h1, .int states, .ref h2, .int ln, .ref h3, .int thr, .ref h4, .int rd, .int num, .int due, .long hash])), (h1, .inl (cI, 163, .inl z)), (h2, .inl (cI, 978, .inl hi)), (h3, .inl (cI, 60, .inl tx)), (h4, .inl (cI, 42, .inl pa))]) ⟨hx, hb, hml, hown, hts⟩ hK hN hP hl.1 ⟨Nat.le_of_ble_eq_true rfl, Nat.le_of_ble_eq_true rfl⟩ (c_X6_isRequest l dC dI cI cB h0 h1 h2 h3 h4 states ln thr rd num due hash z hi tx pa p1) (cwV 1 hts gX6_takeBack_X6_isRequest rfl rfl rfl yd_X6_isRequest ⟨Nat.le_of_ble_eq_true rfl, Nat.le_of_ble_eq_true rfl⟩) [0, 1, 2, 3, 4] rfl 6 rfl rfl rfl rfl (Nat.le_of_ble_eq_true rfl) dX6_takeBack_3 ?_
  refine lv_if_ne (tgt := 13) hx hb dX6_takeBack_6 (by decide) (fun c_5 => ?_) (fun c_5 => ?_)
  · rw [if_neg c_5] at eO
    refine lv_aload_n hx hb dX6_takeBack_13 rfl (lv_at hl 0 rfl) ?_
    refine lv_iload_n hx hb dX6_takeBack_14 rfl (lv_at hl 1 rfl) ?_
    refine lv_iconst (v := 3) hx hb dX6_takeBack_15 (by decide) ?_
    obtain ⟨hv_6, eO⟩ := eO
    refine vm_roVx (v := (f_X6_ofRequest z p1 3)) (As := [.int p1, .int 3]) (rest := [.ref h0]) (T := TX6) (N := 11) (wc := [(h0, .inr (6, [.ref h1, .int states, .ref h2, .int ln, .ref h3, .int thr, .ref h4, .int rd, .int num, .int due, .long hash])), (h1, .inl (cI, 163, .inl z)), (h2, .inl (cI, 978, .inl hi)), (h3, .inl (cI, 60, .inl tx)), (h4, .inl (cI, 42, .inl pa))]) ⟨hx, hb, hml, hown, hts⟩ hK hN hP hl.1 ⟨Nat.le_of_ble_eq_true rfl, Nat.le_of_ble_eq_true rfl⟩ (c_X6_ofRequest l dC dI cI cB h0 h1 h2 h3 h4 states ln thr rd num due hash z hi tx pa p1 3 hv_6) (cwV 2 hts gX6_takeBack_X6_ofRequest rfl rfl rfl yd_X6_ofRequest ⟨Nat.le_of_ble_eq_true rfl, Nat.le_of_ble_eq_true rfl⟩) [0, 1, 2, 3, 4] rfl 6 rfl rfl rfl rfl (Nat.le_of_ble_eq_true rfl) dX6_takeBack_16 ?_
    refine lv_if_ne (tgt := 26) hx hb dX6_takeBack_19 (by decide) (fun c_7 => ?_) (fun c_7 => ?_)
    · rw [if_neg c_7] at eO
      refine lv_iconst (v := 2) hx hb dX6_takeBack_26 (by decide) ?_
      exact hJ27 2 (eF.trans (by rw [f_X6_takeBack, if_neg c_5, if_neg c_7])) eO _ _ hP hD hS ls (lv_sub hl [0, 1] rfl)
    · rw [if_pos c_7] at eO
      refine lv_iconst (v := 0) hx hb dX6_takeBack_22 (by decide) ?_
      refine lv_goto (tgt := 27) hx hb dX6_takeBack_23 (by decide) ?_
      exact hJ27 0 (eF.trans (by rw [f_X6_takeBack, if_neg c_5, if_pos c_7])) eO _ _ hP hD hS ls (lv_sub hl [0, 1] rfl)
  · rw [if_pos c_5] at eO
    refine lv_iconst (v := 1) hx hb dX6_takeBack_9 (by decide) ?_
    refine lv_goto (tgt := 27) hx hb dX6_takeBack_10 (by decide) ?_
    exact hJ27 1 (eF.trans (by rw [f_X6_takeBack, if_pos c_5])) eO _ _ hP hD hS ls (lv_sub hl [0, 1] rfl)

def f_X6_tooLate_j46 (x1_2 : Int32) (kj2 : Int32 → Int32) : Int32 :=
  kj2 (x1_2 + 1)
def f_X6_tooLate_j2 (z : Nat → Int32) : Nat → Int32 → Int32
  | 0, _ => 0
  | n2 + 1, x1_2 => if (z (Int32.toNatClampNeg 4)) ≤ x1_2 then
      (-1)
    else
      if (f_X6_ofRequest z x1_2 3) = 1 then
        if (z (Int32.toNatClampNeg 2)) ≤ ((f_X6_ofRequest z x1_2 2) + (z (Int32.toNatClampNeg 0))) then
          f_X6_tooLate_j46 x1_2 (f_X6_tooLate_j2 z n2)
        else
          x1_2
      else
        f_X6_tooLate_j46 x1_2 (f_X6_tooLate_j2 z n2)
def f_X6_tooLate (z : Nat → Int32) : Int32 :=
  f_X6_tooLate_j2 z ((((z (Int32.toNatClampNeg 4))).toInt - ((0 : Int32)).toInt).toNat + 1) 0
def o_X6_tooLate_j46 (x1_2 : Int32) (koj2 : Int32 → Prop) : Prop :=
  koj2 (x1_2 + 1)
def o_X6_tooLate_j2 (z : Nat → Int32) : Nat → Int32 → Prop
  | 0, _ => True
  | n2 + 1, x1_2 => if (z (Int32.toNatClampNeg 4)) ≤ x1_2 then
      True
    else
      o_X6_ofRequest z x1_2 3 ∧
      (if (f_X6_ofRequest z x1_2 3) = 1 then
        o_X6_ofRequest z x1_2 2 ∧
        (if (z (Int32.toNatClampNeg 2)) ≤ ((f_X6_ofRequest z x1_2 2) + (z (Int32.toNatClampNeg 0))) then
          o_X6_tooLate_j46 x1_2 (o_X6_tooLate_j2 z n2)
        else
          True)
      else
        o_X6_tooLate_j46 x1_2 (o_X6_tooLate_j2 z n2))
def o_X6_tooLate (z : Nat → Int32) : Prop :=
  o_X6_tooLate_j2 z ((((z (Int32.toNatClampNeg 4))).toInt - ((0 : Int32)).toInt).toNat + 1) 0
theorem yd_X6_tooLate : yX6_tooLate.cls = RX6 ∧ yX6_tooLate.cls ≠ "java/lang/invoke/MethodHandle" ∧ yX6_tooLate.cls ≠ "java/lang/invoke/VarHandle" ∧ (parseMethodDescriptor yX6_tooLate.desc).map (fun d => d.parameters.length) = some 0 := by decide +kernel
set_option maxHeartbeats 4000000 in
set_option maxRecDepth 100000 in
theorem c_X6_tooLate (l : Launch) (dC : Nat → ClassId) (dI : Nat → Nat → Nat) (cI cB : ClassId) (h0 h1 h2 h3 h4 : Nat) (states : Int32) (ln : Int32) (thr : Int32) (rd : Int32) (num : Int32) (due : Int32) (hash : Int64) (z : Nat → Int32) (hi : Nat → Int32) (tx : Nat → Int32) (pa : Nat → Int32) (eO : o_X6_tooLate z) : Met l yX6_tooLate wsX6_tooLate ({ frames := 1, cells := 0, slots := 0, locals := 22 }) (vm_pre [.ref h0] (dC, dI) [(h0, .inr (6, [.ref h1, .int states, .ref h2, .int ln, .ref h3, .int thr, .ref h4, .int rd, .int num, .int due, .long hash])), (h1, .inl (cI, 163, .inl z)), (h2, .inl (cI, 978, .inl hi)), (h3, .inl (cI, 60, .inl tx)), (h4, .inl (cI, 42, .inl pa))] cI cB) (vp_Si (fun r9 : Int32 => r9 = (f_X6_tooLate z))) 0 0 (fun _ => False) := by
  refine Met.ofW (cc := cX6_tooLate) (maxL := 2) (ret := (some .int)) (by decide) rfl ?_
  intro p e s m args below meth c s₁ B hml hv
  obtain ⟨rfl, hP, hK, hN⟩ := hv
  have hx := B.exec
  have hb := B.bytes
  have hr := B.returns
  have hts := atoms_spec (ws := wsX6_tooLate) B.pre
  have hown : s.vm.findClass RX6 = some m.cls := findClass_of_methodNamed B.named
  have hlocks := B.notSynchronized
  have kw1 := hts (.fieldLink RX6 7 "LapseMandatesModel" "z" "[I") (List.mem_of_getElem? (i := 1) rfl)
  have iwsX60 : ∀ w ∈ wsX60, w ∈ wsX6_tooLate := fun w h => List.mem_cons_of_mem _ (List.mem_append_right _ h)
  generalize hrr : f_X6_tooLate z = rr
  have eF := hrr.symm
  have hl := lv_entry ([.ref h0]) (n := 2) (Nat.le_of_ble_eq_true rfl)
  rw [lg_entry_eq]
  generalize (lg_sl ([.ref h0]) ++ List.replicate (2 - (lg_sl ([.ref h0])).length) Slot.unset).toArray = ls at hl ⊢
  have hl : lv_has ls 2 [(0, .ref h0)] := hl
  have hJ2 : ∀ (n2 : Nat) (x1_2 : Int32), (((z (Int32.toNatClampNeg 4))).toInt - (x1_2).toInt).toNat < n2 → 0 ≤ x1_2 → rr = f_X6_tooLate_j2 z n2 x1_2 → o_X6_tooLate_j2 z n2 x1_2 → ∀ (ls : Array Slot), lv_has ls 2 [(0, .ref h0), (1, .int x1_2)] → W p l e (headSpec wsX6_tooLate ({ frames := 1, cells := 0, slots := 0, locals := 22 })).room s m ([.ref h0] : List Value).toArray below meth c s.heap [] 0 0 (MQ below (vp_Si (fun r9 : Int32 => r9 = rr)) ([.ref h0] : List Value).toArray s 0 0 (fun _ => False)) (F0 m 2 ls []) := by
    intro n2
    induction n2 with
    | zero =>
      intro x1_2 hm2
      exact absurd hm2 (Nat.not_lt_zero _)
    | succ n2 ih2 =>
      intro x1_2 hm2 hi2 eF eO ls hl
      rw [o_X6_tooLate_j2] at eO
      have hJ46 : ¬ (z (Int32.toNatClampNeg 4)) ≤ x1_2 → rr = f_X6_tooLate_j46 x1_2 (f_X6_tooLate_j2 z n2) → o_X6_tooLate_j46 x1_2 (o_X6_tooLate_j2 z n2) → ∀ (ls : Array Slot), lv_has ls 2 [(0, .ref h0), (1, .int x1_2)] → W p l e (headSpec wsX6_tooLate ({ frames := 1, cells := 0, slots := 0, locals := 22 })).room s m ([.ref h0] : List Value).toArray below meth c s.heap [] 0 0 (MQ below (vp_Si (fun r9 : Int32 => r9 = rr)) ([.ref h0] : List Value).toArray s 0 0 (fun _ => False)) (F0 m 46 ls []) := by
        intro cL2 eF eO ls hl
        rw [o_X6_tooLate_j46] at eO
        refine lv_iinc (v := (x1_2 + 1)) (lv' := [(1, .int (x1_2 + 1)), (0, .ref h0)]) hx hb dX6_tooLate_46 hl (k := 1) rfl rfl (by decide) rfl (fun ls hl => ?_)
        refine lv_goto (tgt := 2) hx hb dX6_tooLate_49 (by decide) ?_
        exact ih2 (x1_2 + 1) (vm_up (vm_nle cL2) hm2) (vm_nn hi2 (vm_nle cL2)) (eF.trans (by rw [f_X6_tooLate_j46])) eO ls (lv_sub hl [1, 0] rfl)
      refine lv_iload_n hx hb dX6_tooLate_2 rfl (lv_at hl 1 rfl) ?_
      refine lv_aload_n hx hb dX6_tooLate_3 rfl (lv_at hl 0 rfl) ?_
      refine va_get (D := (dC, dI)) (ci := 6) (v := .ref h1) (C := RX6) (T := TX6) (N := 11) hx hb hts iwsX60 hown hK hP 0 rfl rfl 0 (by decide) kw1 (fun _ h9 => h9) rfl dX6_tooLate_4 ?_
      refine lv_iconst (v := 4) hx hb dX6_tooLate_7 (by decide) ?_
      refine va_iald hx hb hK hP 1 0 rfl rfl (by unfold vp_in; decide) dX6_tooLate_8 ?_
      refine lv_icmp_ge (tgt := 52) hx hb dX6_tooLate_9 (by decide) (fun cL2 => ?_) (fun cL2 => ?_)
      · rw [if_pos cL2] at eO
        refine lv_iconst (v := (-1)) hx hb dX6_tooLate_52 (by decide) ?_
        have e9 : rr = (-1) := eF.trans (by rw [f_X6_tooLate_j2, if_pos cL2])
        exact W.iret (v := (-1)) hx hb hr (fun t ht hW => ⟨_, rfl, e9.symm, ht⟩) (fun _ hq => by cases hq) dX6_tooLate_53
      · rw [if_neg cL2] at eO
        refine lv_aload_n hx hb dX6_tooLate_12 rfl (lv_at hl 0 rfl) ?_
        refine lv_iload_n hx hb dX6_tooLate_13 rfl (lv_at hl 1 rfl) ?_
        refine lv_iconst (v := 3) hx hb dX6_tooLate_14 (by decide) ?_
        obtain ⟨hv_2, eO⟩ := eO
        refine vm_roVx (v := (f_X6_ofRequest z x1_2 3)) (As := [.int x1_2, .int 3]) (rest := []) (T := TX6) (N := 11) (wc := [(h0, .inr (6, [.ref h1, .int states, .ref h2, .int ln, .ref h3, .int thr, .ref h4, .int rd, .int num, .int due, .long hash])), (h1, .inl (cI, 163, .inl z)), (h2, .inl (cI, 978, .inl hi)), (h3, .inl (cI, 60, .inl tx)), (h4, .inl (cI, 42, .inl pa))]) ⟨hx, hb, hml, hown, hts⟩ hK hN hP hl.1 ⟨Nat.le_of_ble_eq_true rfl, Nat.le_of_ble_eq_true rfl⟩ (c_X6_ofRequest l dC dI cI cB h0 h1 h2 h3 h4 states ln thr rd num due hash z hi tx pa x1_2 3 hv_2) (cwV 2 hts gX6_tooLate_X6_ofRequest rfl rfl rfl yd_X6_ofRequest ⟨Nat.le_of_ble_eq_true rfl, Nat.le_of_ble_eq_true rfl⟩) [0, 1, 2, 3, 4] rfl 6 rfl rfl rfl rfl (Nat.le_of_ble_eq_true rfl) dX6_tooLate_15 ?_
        refine lv_iconst (v := 1) hx hb dX6_tooLate_18 (by decide) ?_
        refine lv_icmp_ne (tgt := 46) hx hb dX6_tooLate_19 (by decide) (fun c_3 => ?_) (fun c_3 => ?_)
        · rw [if_neg c_3] at eO
          exact hJ46 cL2 (eF.trans (by rw [f_X6_tooLate_j2, if_neg cL2, if_neg c_3])) eO ls (lv_sub hl [0, 1] rfl)
        · rw [if_pos c_3] at eO
          refine lv_aload_n hx hb dX6_tooLate_22 rfl (lv_at hl 0 rfl) ?_
          refine va_get (D := (dC, dI)) (ci := 6) (v := .ref h1) (C := RX6) (T := TX6) (N := 11) hx hb hts iwsX60 hown hK hP 0 rfl rfl 0 (by decide) kw1 (fun _ h9 => h9) rfl dX6_tooLate_23 ?_
          refine lv_iconst (v := 2) hx hb dX6_tooLate_26 (by decide) ?_
          refine va_iald hx hb hK hP 1 0 rfl rfl (by unfold vp_in; decide) dX6_tooLate_27 ?_
          refine lv_aload_n hx hb dX6_tooLate_28 rfl (lv_at hl 0 rfl) ?_
          refine lv_iload_n hx hb dX6_tooLate_29 rfl (lv_at hl 1 rfl) ?_
          refine lv_iconst (v := 2) hx hb dX6_tooLate_30 (by decide) ?_
          obtain ⟨hv_4, eO⟩ := eO
          refine vm_roVx (v := (f_X6_ofRequest z x1_2 2)) (As := [.int x1_2, .int 2]) (rest := [.int (z (Int32.toNatClampNeg 2))]) (T := TX6) (N := 11) (wc := [(h0, .inr (6, [.ref h1, .int states, .ref h2, .int ln, .ref h3, .int thr, .ref h4, .int rd, .int num, .int due, .long hash])), (h1, .inl (cI, 163, .inl z)), (h2, .inl (cI, 978, .inl hi)), (h3, .inl (cI, 60, .inl tx)), (h4, .inl (cI, 42, .inl pa))]) ⟨hx, hb, hml, hown, hts⟩ hK hN hP hl.1 ⟨Nat.le_of_ble_eq_true rfl, Nat.le_of_ble_eq_true rfl⟩ (c_X6_ofRequest l dC dI cI cB h0 h1 h2 h3 h4 states ln thr rd num due hash z hi tx pa x1_2 2 hv_4) (cwV 2 hts gX6_tooLate_X6_ofRequest rfl rfl rfl yd_X6_ofRequest ⟨Nat.le_of_ble_eq_true rfl, Nat.le_of_ble_eq_true rfl⟩) [0, 1, 2, 3, 4] rfl 6 rfl rfl rfl rfl (Nat.le_of_ble_eq_true rfl) dX6_tooLate_31 ?_
          refine lv_aload_n hx hb dX6_tooLate_34 rfl (lv_at hl 0 rfl) ?_
          refine va_get (D := (dC, dI)) (ci := 6) (v := .ref h1) (C := RX6) (T := TX6) (N := 11) hx hb hts iwsX60 hown hK hP 0 rfl rfl 0 (by decide) kw1 (fun _ h9 => h9) rfl dX6_tooLate_35 ?_
          refine lv_iconst (v := 0) hx hb dX6_tooLate_38 (by decide) ?_
          refine va_iald hx hb hK hP 1 0 rfl rfl (by unfold vp_in; decide) dX6_tooLate_39 ?_
          refine lv_iadd hx hb dX6_tooLate_40 ?_
          refine lv_icmp_le (tgt := 46) hx hb dX6_tooLate_41 (by decide) (fun c_5 => ?_) (fun c_5 => ?_)
          · rw [if_pos c_5] at eO
            exact hJ46 cL2 (eF.trans (by rw [f_X6_tooLate_j2, if_neg cL2, if_pos c_3, if_pos c_5])) eO ls (lv_sub hl [0, 1] rfl)
          · rw [if_neg c_5] at eO
            refine lv_iload_n hx hb dX6_tooLate_44 rfl (lv_at hl 1 rfl) ?_
            have e9 : rr = x1_2 := eF.trans (by rw [f_X6_tooLate_j2, if_neg cL2, if_pos c_3, if_neg c_5])
            exact W.iret (v := x1_2) hx hb hr (fun t ht hW => ⟨_, rfl, e9.symm, ht⟩) (fun _ hq => by cases hq) dX6_tooLate_45
  rw [o_X6_tooLate] at eO
  refine lv_iconst (v := 0) hx hb dX6_tooLate_0 (by decide) ?_
  refine lv_istore_n (lv' := [(1, .int 0), (0, .ref h0)]) hx hb dX6_tooLate_1 rfl hl (by decide) rfl (fun ls hl => ?_)
  exact hJ2 ((((z (Int32.toNatClampNeg 4))).toInt - ((0 : Int32)).toInt).toNat + 1) 0 (Nat.lt_succ_self _) (by decide) (eF.trans (by rw [f_X6_tooLate])) eO ls (lv_sub hl [1, 0] rfl)

def f_X6_dayPasses_c50 (x1_32 : Int32) (kj32 : Int32 → (Nat → Int32) → (Int32 × (Nat → Int32))) (z_c50 : Nat → Int32) : Int32 × (Nat → Int32) :=
  kj32 (x1_32 + 1) z_c50
def f_X6_dayPasses_j97 (x1_63 : Int32) (kj63 : Int32 → Int32 → (Nat → Int32) → (Int32 × (Nat → Int32))) (s0_97 : Int32) (z_97 : Nat → Int32) : Int32 × (Nat → Int32) :=
  kj63 (x1_63 + s0_97) (f_X6_tooLate z_97) z_97
def f_X6_dayPasses_c93 (x1_63 : Int32) (kj63 : Int32 → Int32 → (Nat → Int32) → (Int32 × (Nat → Int32))) (y93 : Int32) (z_c93 : Nat → Int32) : Int32 × (Nat → Int32) :=
  f_X6_dayPasses_j97 x1_63 kj63 y93 z_c93
def f_X6_dayPasses_c80 (x1_63 : Int32) (x2_63 : Int32) (z_63 : Nat → Int32) (kj63 : Int32 → Int32 → (Nat → Int32) → (Int32 × (Nat → Int32))) (z_c80 : Nat → Int32) : Int32 × (Nat → Int32) :=
  if (vm_bi (f_X6_stands z_c80 (f_X6_ofRequest z_63 x2_63 0))) = 0 then
    f_X6_dayPasses_j97 x1_63 kj63 0 z_c80
  else
    f_X6_dayPasses_c93 x1_63 kj63 ((f_X6_lapse z_c80 (f_X6_ofRequest z_63 x2_63 0)).1) ((f_X6_lapse z_c80 (f_X6_ofRequest z_63 x2_63 0)).2)
def f_X6_dayPasses_j63 : Nat → Int32 → Int32 → (Nat → Int32) → Int32 × (Nat → Int32)
  | 0, _, _, _ => (0, (fun _ => 0))
  | n63 + 1, x1_63, x2_63, z_63 => if x2_63 = (-1) then
      (x1_63, (upd z_63 (Int32.toNatClampNeg 10) ((z_63 (Int32.toNatClampNeg 10)) + x1_63)))
    else
      f_X6_dayPasses_c80 x1_63 x2_63 z_63 (f_X6_dayPasses_j63 n63) (f_X6_removeRequest z_63 x2_63)
def f_X6_dayPasses_j56 (z_56 : Nat → Int32) : Int32 × (Nat → Int32) :=
  f_X6_dayPasses_j63 1000 0 (f_X6_tooLate z_56) z_56
def f_X6_dayPasses_j32 : Nat → Int32 → (Nat → Int32) → Int32 × (Nat → Int32)
  | 0, _, _ => (0, (fun _ => 0))
  | n32 + 1, x1_32, z_32 => if (z_32 (Int32.toNatClampNeg 3)) ≤ x1_32 then
      f_X6_dayPasses_j56 z_32
    else
      f_X6_dayPasses_c50 x1_32 (f_X6_dayPasses_j32 n32) (f_X6_put z_32 x1_32 6 0)
def f_X6_dayPasses (z : Nat → Int32) : Int32 × (Nat → Int32) :=
  if (((upd z (Int32.toNatClampNeg 2) ((z (Int32.toNatClampNeg 2)) + 1)) (Int32.toNatClampNeg 2)) - ((upd z (Int32.toNatClampNeg 2) ((z (Int32.toNatClampNeg 2)) + 1)) (Int32.toNatClampNeg 2)) / 10 * 10) = 0 then
    f_X6_dayPasses_j32 1000 0 (upd (upd z (Int32.toNatClampNeg 2) ((z (Int32.toNatClampNeg 2)) + 1)) (Int32.toNatClampNeg 6) 0)
  else
    f_X6_dayPasses_j56 (upd z (Int32.toNatClampNeg 2) ((z (Int32.toNatClampNeg 2)) + 1))
def o_X6_dayPasses_c50 (x1_32 : Int32) (koj32 : Int32 → (Nat → Int32) → Prop) (z_c50 : Nat → Int32) : Prop :=
  koj32 (x1_32 + 1) z_c50
def o_X6_dayPasses_j97 (x1_63 : Int32) (koj63 : Int32 → Int32 → (Nat → Int32) → Prop) (s0_97 : Int32) (z_97 : Nat → Int32) : Prop :=
  o_X6_tooLate z_97 ∧
  (koj63 (x1_63 + s0_97) (f_X6_tooLate z_97) z_97)
def o_X6_dayPasses_c93 (x1_63 : Int32) (koj63 : Int32 → Int32 → (Nat → Int32) → Prop) (y93 : Int32) (z_c93 : Nat → Int32) : Prop :=
  o_X6_dayPasses_j97 x1_63 koj63 y93 z_c93
def o_X6_dayPasses_c80 (x1_63 : Int32) (x2_63 : Int32) (z_63 : Nat → Int32) (koj63 : Int32 → Int32 → (Nat → Int32) → Prop) (z_c80 : Nat → Int32) : Prop :=
  o_X6_stands z_c80 (f_X6_ofRequest z_63 x2_63 0) ∧
  (if (vm_bi (f_X6_stands z_c80 (f_X6_ofRequest z_63 x2_63 0))) = 0 then
    o_X6_dayPasses_j97 x1_63 koj63 0 z_c80
  else
    o_X6_lapse z_c80 (f_X6_ofRequest z_63 x2_63 0) ∧
    (o_X6_dayPasses_c93 x1_63 koj63 ((f_X6_lapse z_c80 (f_X6_ofRequest z_63 x2_63 0)).1) ((f_X6_lapse z_c80 (f_X6_ofRequest z_63 x2_63 0)).2)))
def o_X6_dayPasses_j63 : Nat → Int32 → Int32 → (Nat → Int32) → Prop
  | 0, _, _, _ => False
  | n63 + 1, x1_63, x2_63, z_63 => if x2_63 = (-1) then
      True
    else
      o_X6_ofRequest z_63 x2_63 0 ∧
      (o_X6_removeRequest z_63 x2_63 ∧
      (o_X6_dayPasses_c80 x1_63 x2_63 z_63 (o_X6_dayPasses_j63 n63) (f_X6_removeRequest z_63 x2_63)))
def o_X6_dayPasses_j56 (z_56 : Nat → Int32) : Prop :=
  o_X6_tooLate z_56 ∧
  (o_X6_dayPasses_j63 1000 0 (f_X6_tooLate z_56) z_56)
def o_X6_dayPasses_j32 : Nat → Int32 → (Nat → Int32) → Prop
  | 0, _, _ => False
  | n32 + 1, x1_32, z_32 => if (z_32 (Int32.toNatClampNeg 3)) ≤ x1_32 then
      o_X6_dayPasses_j56 z_32
    else
      o_X6_put z_32 x1_32 6 0 ∧
      (o_X6_dayPasses_c50 x1_32 (o_X6_dayPasses_j32 n32) (f_X6_put z_32 x1_32 6 0))
def o_X6_dayPasses (z : Nat → Int32) : Prop :=
  if (((upd z (Int32.toNatClampNeg 2) ((z (Int32.toNatClampNeg 2)) + 1)) (Int32.toNatClampNeg 2)) - ((upd z (Int32.toNatClampNeg 2) ((z (Int32.toNatClampNeg 2)) + 1)) (Int32.toNatClampNeg 2)) / 10 * 10) = 0 then
    o_X6_dayPasses_j32 1000 0 (upd (upd z (Int32.toNatClampNeg 2) ((z (Int32.toNatClampNeg 2)) + 1)) (Int32.toNatClampNeg 6) 0)
  else
    o_X6_dayPasses_j56 (upd z (Int32.toNatClampNeg 2) ((z (Int32.toNatClampNeg 2)) + 1))
theorem yd_X6_dayPasses : yX6_dayPasses.cls = RX6 ∧ yX6_dayPasses.cls ≠ "java/lang/invoke/MethodHandle" ∧ yX6_dayPasses.cls ≠ "java/lang/invoke/VarHandle" ∧ (parseMethodDescriptor yX6_dayPasses.desc).map (fun d => d.parameters.length) = some 0 := by decide +kernel
set_option maxHeartbeats 4000000 in
set_option maxRecDepth 100000 in
theorem c_X6_dayPasses (l : Launch) (dC : Nat → ClassId) (dI : Nat → Nat → Nat) (cI cB : ClassId) (h0 h1 h2 h3 h4 : Nat) (sz : Nat) (states : Int32) (ln : Int32) (thr : Int32) (rd : Int32) (num : Int32) (due : Int32) (hash : Int64) (z : Nat → Int32) (hi : Nat → Int32) (tx : Nat → Int32) (pa : Nat → Int32) (eO : o_X6_dayPasses z) : Met l yX6_dayPasses wsX6_dayPasses ({ frames := 4, cells := 0, slots := 0, locals := 92 }) (vm_prw [.ref h0] (dC, dI) [(h0, .inr (6, [.ref h1, .int states, .ref h2, .int ln, .ref h3, .int thr, .ref h4, .int rd, .int num, .int due, .long hash])), (h1, .inl (cI, 163, .inl z)), (h2, .inl (cI, 978, .inl hi)), (h3, .inl (cI, 60, .inl tx)), (h4, .inl (cI, 42, .inl pa))] cI cB sz) (va_Qi (fun (r9 : Int32) (_ : Unit) => r9 = (f_X6_dayPasses z).1) (fun _ t => va_P (dC, dI) vwCl [(h0, .inr (6, [.ref h1, .int states, .ref h2, .int ln, .ref h3, .int thr, .ref h4, .int rd, .int num, .int due, .long hash])), (h1, .inl (cI, 163, .inl ((f_X6_dayPasses z).2))), (h2, .inl (cI, 978, .inl hi)), (h3, .inl (cI, 60, .inl tx)), (h4, .inl (cI, 42, .inl pa))] t.heap) (va_A [(h0, .inr (6, [.ref h1, .int states, .ref h2, .int ln, .ref h3, .int thr, .ref h4, .int rd, .int num, .int due, .long hash])), (h1, .inl (cI, 163, .inl z)), (h2, .inl (cI, 978, .inl hi)), (h3, .inl (cI, 60, .inl tx)), (h4, .inl (cI, 42, .inl pa))] sz)) 0 0 (va_A [(h0, .inr (6, [.ref h1, .int states, .ref h2, .int ln, .ref h3, .int thr, .ref h4, .int rd, .int num, .int due, .long hash])), (h1, .inl (cI, 163, .inl z)), (h2, .inl (cI, 978, .inl hi)), (h3, .inl (cI, 60, .inl tx)), (h4, .inl (cI, 42, .inl pa))] sz) := by
  refine Met.ofW (cc := cX6_dayPasses) (maxL := 5) (ret := (some .int)) (by decide) rfl ?_
  intro p e s m args below meth c s₁ B hml hv
  obtain ⟨rfl, hsz, hP, hK, hN, hD0⟩ := hv
  have hx := B.exec
  have hb := B.bytes
  have hr := B.returns
  have hts := atoms_spec (ws := wsX6_dayPasses) B.pre
  have hown : s.vm.findClass RX6 = some m.cls := findClass_of_methodNamed B.named
  have hlocks := B.notSynchronized
  subst hsz
  have hD := hD0.self (sz := s.heap.size)
  generalize hAe : va_A [(h0, .inr (6, [.ref h1, .int states, .ref h2, .int ln, .ref h3, .int thr, .ref h4, .int rd, .int num, .int due, .long hash])), (h1, .inl (cI, 163, .inl z)), (h2, .inl (cI, 978, .inl hi)), (h3, .inl (cI, 60, .inl tx)), (h4, .inl (cI, 42, .inl pa))] s.heap.size = A at hD ⊢
  have hA : ∀ q : Nat, s.heap.size ≤ q → A q := fun q h => by rw [← hAe]; exact Or.inr h
  have hS : va_S A s.heap s.heap [] := va_S.rf
  have hP : va_P (dC, dI) vwCl [(h0, .inr (6, [.ref h1, .int states, .ref h2, .int ln, .ref h3, .int thr, .ref h4, .int rd, .int num, .int due, .long hash])), (h1, .inl (cI, 163, .inl z)), (h2, .inl (cI, 978, .inl hi)), (h3, .inl (cI, 60, .inl tx)), (h4, .inl (cI, 42, .inl pa))] s.heap := hP
  have kw1 := hts (.fieldLink RX6 7 "LapseMandatesModel" "z" "[I") (List.mem_of_getElem? (i := 1) rfl)
  have iwsX60 : ∀ w ∈ wsX60, w ∈ wsX6_dayPasses := fun w h => List.mem_cons_of_mem _ (List.mem_append_right _ h)
  generalize hrr : f_X6_dayPasses z = rr
  have eF := hrr.symm
  have hl := lv_entry ([.ref h0]) (n := 5) (Nat.le_of_ble_eq_true rfl)
  rw [lg_entry_eq]
  generalize (lg_sl ([.ref h0]) ++ List.replicate (5 - (lg_sl ([.ref h0])).length) Slot.unset).toArray = ls at hl ⊢
  have hl : lv_has ls 5 [(0, .ref h0)] := hl
  have hJ63 : ∀ (n63 : Nat) (x1_63 : Int32) (x2_63 : Int32) (z_63 : Nat → Int32), rr = f_X6_dayPasses_j63 n63 x1_63 x2_63 z_63 → o_X6_dayPasses_j63 n63 x1_63 x2_63 z_63 → ∀ (H : Heap) (locs : List Loc), va_P (dC, dI) vwCl [(h0, .inr (6, [.ref h1, .int states, .ref h2, .int ln, .ref h3, .int thr, .ref h4, .int rd, .int num, .int due, .long hash])), (h1, .inl (cI, 163, .inl z_63)), (h2, .inl (cI, 978, .inl hi)), (h3, .inl (cI, 60, .inl tx)), (h4, .inl (cI, 42, .inl pa))] H → va_D A [(h0, .inr (6, [.ref h1, .int states, .ref h2, .int ln, .ref h3, .int thr, .ref h4, .int rd, .int num, .int due, .long hash])), (h1, .inl (cI, 163, .inl z_63)), (h2, .inl (cI, 978, .inl hi)), (h3, .inl (cI, 60, .inl tx)), (h4, .inl (cI, 42, .inl pa))] → va_S A s.heap H locs → ∀ (ls : Array Slot), lv_has ls 5 [(0, .ref h0), (1, .int x1_63), (2, .int x2_63)] → W p l e (headSpec wsX6_dayPasses ({ frames := 4, cells := 0, slots := 0, locals := 92 })).room s m ([.ref h0] : List Value).toArray below meth c H locs 0 0 (MQ below (va_Qi (fun (r9 : Int32) (_ : Unit) => r9 = rr.1) (fun _ t => va_P (dC, dI) vwCl [(h0, .inr (6, [.ref h1, .int states, .ref h2, .int ln, .ref h3, .int thr, .ref h4, .int rd, .int num, .int due, .long hash])), (h1, .inl (cI, 163, .inl rr.2)), (h2, .inl (cI, 978, .inl hi)), (h3, .inl (cI, 60, .inl tx)), (h4, .inl (cI, 42, .inl pa))] t.heap) A) ([.ref h0] : List Value).toArray s 0 0 A) (F0 m 63 ls []) := by
    intro n63
    induction n63 with
    | zero =>
      intro x1_63 x2_63 z_63 eF eO
      exact False.elim eO
    | succ n63 ih63 =>
      intro x1_63 x2_63 z_63 eF eO H locs hP hD hS ls hl
      rw [o_X6_dayPasses_j63] at eO
      have hJ97 : ∀ (s0_97 : Int32) (z_97 : Nat → Int32), rr = f_X6_dayPasses_j97 x1_63 (f_X6_dayPasses_j63 n63) s0_97 z_97 → o_X6_dayPasses_j97 x1_63 (o_X6_dayPasses_j63 n63) s0_97 z_97 → ∀ (H : Heap) (locs : List Loc), va_P (dC, dI) vwCl [(h0, .inr (6, [.ref h1, .int states, .ref h2, .int ln, .ref h3, .int thr, .ref h4, .int rd, .int num, .int due, .long hash])), (h1, .inl (cI, 163, .inl z_97)), (h2, .inl (cI, 978, .inl hi)), (h3, .inl (cI, 60, .inl tx)), (h4, .inl (cI, 42, .inl pa))] H → va_D A [(h0, .inr (6, [.ref h1, .int states, .ref h2, .int ln, .ref h3, .int thr, .ref h4, .int rd, .int num, .int due, .long hash])), (h1, .inl (cI, 163, .inl z_97)), (h2, .inl (cI, 978, .inl hi)), (h3, .inl (cI, 60, .inl tx)), (h4, .inl (cI, 42, .inl pa))] → va_S A s.heap H locs → ∀ (ls : Array Slot), lv_has ls 5 [(0, .ref h0), (1, .int x1_63)] → W p l e (headSpec wsX6_dayPasses ({ frames := 4, cells := 0, slots := 0, locals := 92 })).room s m ([.ref h0] : List Value).toArray below meth c H locs 0 0 (MQ below (va_Qi (fun (r9 : Int32) (_ : Unit) => r9 = rr.1) (fun _ t => va_P (dC, dI) vwCl [(h0, .inr (6, [.ref h1, .int states, .ref h2, .int ln, .ref h3, .int thr, .ref h4, .int rd, .int num, .int due, .long hash])), (h1, .inl (cI, 163, .inl rr.2)), (h2, .inl (cI, 978, .inl hi)), (h3, .inl (cI, 60, .inl tx)), (h4, .inl (cI, 42, .inl pa))] t.heap) A) ([.ref h0] : List Value).toArray s 0 0 A) (F0 m 97 ls [.int s0_97]) := by
        intro s0_97 z_97 eF eO H locs hP hD hS ls hl
        rw [o_X6_dayPasses_j97] at eO
        refine lv_istore (lv' := [(4, .int s0_97), (0, .ref h0), (1, .int x1_63)]) hx hb dX6_dayPasses_97 hl (by decide) rfl (fun ls hl => ?_)
        refine lv_iload_n hx hb dX6_dayPasses_99 rfl (lv_at hl 2 rfl) ?_
        refine lv_iload hx hb dX6_dayPasses_100 (lv_at hl 0 rfl) ?_
        refine lv_iadd hx hb dX6_dayPasses_102 ?_
        refine lv_istore_n (lv' := [(1, .int (x1_63 + s0_97)), (4, .int s0_97), (0, .ref h0)]) hx hb dX6_dayPasses_103 rfl hl (by decide) rfl (fun ls hl => ?_)
        refine lv_aload_n hx hb dX6_dayPasses_104 rfl (lv_at hl 2 rfl) ?_
        obtain ⟨hv_1, eO⟩ := eO
        refine vm_roVx (v := (f_X6_tooLate z_97)) (As := []) (rest := []) (T := TX6) (N := 11) (wc := [(h0, .inr (6, [.ref h1, .int states, .ref h2, .int ln, .ref h3, .int thr, .ref h4, .int rd, .int num, .int due, .long hash])), (h1, .inl (cI, 163, .inl z_97)), (h2, .inl (cI, 978, .inl hi)), (h3, .inl (cI, 60, .inl tx)), (h4, .inl (cI, 42, .inl pa))]) ⟨hx, hb, hml, hown, hts⟩ hK hN hP hl.1 ⟨Nat.le_of_ble_eq_true rfl, Nat.le_of_ble_eq_true rfl⟩ (c_X6_tooLate l dC dI cI cB h0 h1 h2 h3 h4 states ln thr rd num due hash z_97 hi tx pa hv_1) (cwV 0 hts gX6_dayPasses_X6_tooLate rfl rfl rfl yd_X6_tooLate ⟨Nat.le_of_ble_eq_true rfl, Nat.le_of_ble_eq_true rfl⟩) [0, 1, 2, 3, 4] rfl 6 rfl rfl rfl rfl (Nat.le_of_ble_eq_true rfl) dX6_dayPasses_105 ?_
        refine lv_istore_n (lv' := [(2, .int (f_X6_tooLate z_97)), (1, .int (x1_63 + s0_97)), (4, .int s0_97), (0, .ref h0)]) hx hb dX6_dayPasses_108 rfl hl (by decide) rfl (fun ls hl => ?_)
        refine lv_goto (tgt := 63) hx hb dX6_dayPasses_109 (by decide) ?_
        exact ih63 (x1_63 + s0_97) (f_X6_tooLate z_97) z_97 (eF.trans (by rw [f_X6_dayPasses_j97])) eO _ _ hP hD hS ls (lv_sub hl [3, 1, 0] rfl)
      refine lv_iload_n hx hb dX6_dayPasses_63 rfl (lv_at hl 2 rfl) ?_
      refine lv_iconst (v := (-1)) hx hb dX6_dayPasses_64 (by decide) ?_
      refine lv_icmp_eq (tgt := 112) hx hb dX6_dayPasses_65 (by decide) (fun c_2 => ?_) (fun c_2 => ?_)
      · rw [if_pos c_2] at eO
        refine lv_aload_n hx hb dX6_dayPasses_112 rfl (lv_at hl 0 rfl) ?_
        refine va_get (D := (dC, dI)) (ci := 6) (v := .ref h1) (C := RX6) (T := TX6) (N := 11) hx hb hts iwsX60 hown hK hP 0 rfl rfl 0 (by decide) kw1 (fun _ h9 => h9) rfl dX6_dayPasses_113 ?_
        refine lv_bipush (v := 10) hx hb dX6_dayPasses_116 (by decide) ?_
        refine lv_dup2_11 hx hb dX6_dayPasses_118 rfl rfl ?_
        refine va_iald hx hb hK hP 1 0 rfl rfl (by unfold vp_in; decide) dX6_dayPasses_119 ?_
        refine lv_iload_n hx hb dX6_dayPasses_120 rfl (lv_at hl 1 rfl) ?_
        refine lv_iadd hx hb dX6_dayPasses_121 ?_
        refine va_iast hx hb hK hP hD hS 1 0 rfl rfl (by unfold vp_in; decide) dX6_dayPasses_122 (fun H locs hP hD hS => ?_)
        have hP : va_P (dC, dI) vwCl [(h0, .inr (6, [.ref h1, .int states, .ref h2, .int ln, .ref h3, .int thr, .ref h4, .int rd, .int num, .int due, .long hash])), (h1, .inl (cI, 163, .inl (upd z_63 (Int32.toNatClampNeg 10) ((z_63 (Int32.toNatClampNeg 10)) + x1_63)))), (h2, .inl (cI, 978, .inl hi)), (h3, .inl (cI, 60, .inl tx)), (h4, .inl (cI, 42, .inl pa))] H := hP
        have hD : va_D A [(h0, .inr (6, [.ref h1, .int states, .ref h2, .int ln, .ref h3, .int thr, .ref h4, .int rd, .int num, .int due, .long hash])), (h1, .inl (cI, 163, .inl (upd z_63 (Int32.toNatClampNeg 10) ((z_63 (Int32.toNatClampNeg 10)) + x1_63)))), (h2, .inl (cI, 978, .inl hi)), (h3, .inl (cI, 60, .inl tx)), (h4, .inl (cI, 42, .inl pa))] := hD
        refine lv_iload_n hx hb dX6_dayPasses_123 rfl (lv_at hl 1 rfl) ?_
        have e9 : rr = ((x1_63, (upd z_63 (Int32.toNatClampNeg 10) ((z_63 (Int32.toNatClampNeg 10)) + x1_63))) : Int32 × (Nat → Int32)) := eF.trans (by rw [f_X6_dayPasses_j63, if_pos c_2])
        exact W.iret (v := x1_63) hx hb hr (fun t ht hW => ⟨⟨_, (), rfl, by rw [e9], (by rw [e9]; show va_P _ _ _ t.heap; rw [ht]; exact hP)⟩, hS.F ht⟩) hS.2.2 dX6_dayPasses_124
      · rw [if_neg c_2] at eO
        refine lv_aload_n hx hb dX6_dayPasses_68 rfl (lv_at hl 0 rfl) ?_
        refine lv_iload_n hx hb dX6_dayPasses_69 rfl (lv_at hl 2 rfl) ?_
        refine lv_iconst (v := 0) hx hb dX6_dayPasses_70 (by decide) ?_
        obtain ⟨hv_3, eO⟩ := eO
        refine vm_roVx (v := (f_X6_ofRequest z_63 x2_63 0)) (As := [.int x2_63, .int 0]) (rest := []) (T := TX6) (N := 11) (wc := [(h0, .inr (6, [.ref h1, .int states, .ref h2, .int ln, .ref h3, .int thr, .ref h4, .int rd, .int num, .int due, .long hash])), (h1, .inl (cI, 163, .inl z_63)), (h2, .inl (cI, 978, .inl hi)), (h3, .inl (cI, 60, .inl tx)), (h4, .inl (cI, 42, .inl pa))]) ⟨hx, hb, hml, hown, hts⟩ hK hN hP hl.1 ⟨Nat.le_of_ble_eq_true rfl, Nat.le_of_ble_eq_true rfl⟩ (c_X6_ofRequest l dC dI cI cB h0 h1 h2 h3 h4 states ln thr rd num due hash z_63 hi tx pa x2_63 0 hv_3) (cwV 2 hts gX6_dayPasses_X6_ofRequest rfl rfl rfl yd_X6_ofRequest ⟨Nat.le_of_ble_eq_true rfl, Nat.le_of_ble_eq_true rfl⟩) [0, 1, 2, 3, 4] rfl 6 rfl rfl rfl rfl (Nat.le_of_ble_eq_true rfl) dX6_dayPasses_71 ?_
        refine lv_istore_n (lv' := [(3, .int (f_X6_ofRequest z_63 x2_63 0)), (0, .ref h0), (1, .int x1_63), (2, .int x2_63)]) hx hb dX6_dayPasses_74 rfl hl (by decide) rfl (fun ls hl => ?_)
        refine lv_aload_n hx hb dX6_dayPasses_75 rfl (lv_at hl 1 rfl) ?_
        refine lv_iload_n hx hb dX6_dayPasses_76 rfl (lv_at hl 3 rfl) ?_
        obtain ⟨hv_4, eO⟩ := eO
        refine vm_rwVv (As := [.int x2_63]) (rest := []) (T := TX6) (N := 11) (wc := [(h0, .inr (6, [.ref h1, .int states, .ref h2, .int ln, .ref h3, .int thr, .ref h4, .int rd, .int num, .int due, .long hash])), (h1, .inl (cI, 163, .inl z_63)), (h2, .inl (cI, 978, .inl hi)), (h3, .inl (cI, 60, .inl tx)), (h4, .inl (cI, 42, .inl pa))]) (w1 := [(h0, .inr (6, [.ref h1, .int states, .ref h2, .int ln, .ref h3, .int thr, .ref h4, .int rd, .int num, .int due, .long hash])), (h1, .inl (cI, 163, .inl (f_X6_removeRequest z_63 x2_63))), (h2, .inl (cI, 978, .inl hi)), (h3, .inl (cI, 60, .inl tx)), (h4, .inl (cI, 42, .inl pa))]) ⟨hx, hb, hml, hown, hts⟩ hK hN hP hD hS hA hl.1 ⟨Nat.le_of_ble_eq_true rfl, Nat.le_of_ble_eq_true rfl⟩ (c_X6_removeRequest l dC dI cI cB h0 h1 h2 h3 h4 _ states ln thr rd num due hash z_63 hi tx pa x2_63 hv_4) (cwV 1 hts gX6_dayPasses_X6_removeRequest rfl rfl rfl yd_X6_removeRequest ⟨Nat.le_of_ble_eq_true rfl, Nat.le_of_ble_eq_true rfl⟩) [0, 1, 2, 3, 4] rfl rfl rfl 6 rfl rfl rfl rfl (Nat.le_of_ble_eq_true rfl) dX6_dayPasses_77 (fun H locs hP hD hS => ?_)
        have hP : va_P (dC, dI) vwCl [(h0, .inr (6, [.ref h1, .int states, .ref h2, .int ln, .ref h3, .int thr, .ref h4, .int rd, .int num, .int due, .long hash])), (h1, .inl (cI, 163, .inl (f_X6_removeRequest z_63 x2_63))), (h2, .inl (cI, 978, .inl hi)), (h3, .inl (cI, 60, .inl tx)), (h4, .inl (cI, 42, .inl pa))] H := hP
        have hD : va_D A [(h0, .inr (6, [.ref h1, .int states, .ref h2, .int ln, .ref h3, .int thr, .ref h4, .int rd, .int num, .int due, .long hash])), (h1, .inl (cI, 163, .inl (f_X6_removeRequest z_63 x2_63))), (h2, .inl (cI, 978, .inl hi)), (h3, .inl (cI, 60, .inl tx)), (h4, .inl (cI, 42, .inl pa))] := hD
        obtain ⟨z_c80, ez_c80⟩ : ∃ zz9, zz9 = (f_X6_removeRequest z_63 x2_63) := ⟨_, rfl⟩
        rw [← ez_c80] at hP hD
        have eF : rr = f_X6_dayPasses_c80 x1_63 x2_63 z_63 (f_X6_dayPasses_j63 n63) z_c80 := eF.trans (by rw [f_X6_dayPasses_j63, if_neg c_2, ez_c80])
        have eO : o_X6_dayPasses_c80 x1_63 x2_63 z_63 (o_X6_dayPasses_j63 n63) z_c80 := by rw [ez_c80]; exact eO
        rw [o_X6_dayPasses_c80] at eO
        refine lv_aload_n hx hb dX6_dayPasses_80 rfl (lv_at hl 1 rfl) ?_
        refine lv_iload_n hx hb dX6_dayPasses_81 rfl (lv_at hl 0 rfl) ?_
        obtain ⟨hv_5, eO⟩ := eO
        refine vm_roVx (v := vm_bi (f_X6_stands z_c80 (f_X6_ofRequest z_63 x2_63 0))) (As := [.int (f_X6_ofRequest z_63 x2_63 0)]) (rest := []) (T := TX6) (N := 11) (wc := [(h0, .inr (6, [.ref h1, .int states, .ref h2, .int ln, .ref h3, .int thr, .ref h4, .int rd, .int num, .int due, .long hash])), (h1, .inl (cI, 163, .inl z_c80)), (h2, .inl (cI, 978, .inl hi)), (h3, .inl (cI, 60, .inl tx)), (h4, .inl (cI, 42, .inl pa))]) ⟨hx, hb, hml, hown, hts⟩ hK hN hP hl.1 ⟨Nat.le_of_ble_eq_true rfl, Nat.le_of_ble_eq_true rfl⟩ (c_X6_stands l dC dI cI cB h0 h1 h2 h3 h4 states ln thr rd num due hash z_c80 hi tx pa (f_X6_ofRequest z_63 x2_63 0) hv_5) (cwV 1 hts gX6_dayPasses_X6_stands rfl rfl rfl yd_X6_stands ⟨Nat.le_of_ble_eq_true rfl, Nat.le_of_ble_eq_true rfl⟩) [0, 1, 2, 3, 4] rfl 6 rfl rfl rfl rfl (Nat.le_of_ble_eq_true rfl) dX6_dayPasses_82 ?_
        refine lv_if_eq (tgt := 96) hx hb dX6_dayPasses_85 (by decide) (fun c_6 => ?_) (fun c_6 => ?_)
        · rw [if_pos c_6] at eO
          refine lv_iconst (v := 0) hx hb dX6_dayPasses_96 (by decide) ?_
          exact hJ97 0 z_c80 (eF.trans (by rw [f_X6_dayPasses_c80, if_pos c_6])) eO _ _ hP hD hS ls (lv_sub hl [1, 2] rfl)
        · rw [if_neg c_6] at eO
          refine lv_aload_n hx hb dX6_dayPasses_88 rfl (lv_at hl 1 rfl) ?_
          refine lv_iload_n hx hb dX6_dayPasses_89 rfl (lv_at hl 0 rfl) ?_
          obtain ⟨hv_7, eO⟩ := eO
          refine vm_rwV (As := [.int (f_X6_ofRequest z_63 x2_63 0)]) (rest := []) (T := TX6) (N := 11) (wc := [(h0, .inr (6, [.ref h1, .int states, .ref h2, .int ln, .ref h3, .int thr, .ref h4, .int rd, .int num, .int due, .long hash])), (h1, .inl (cI, 163, .inl z_c80)), (h2, .inl (cI, 978, .inl hi)), (h3, .inl (cI, 60, .inl tx)), (h4, .inl (cI, 42, .inl pa))]) (w1 := [(h0, .inr (6, [.ref h1, .int states, .ref h2, .int ln, .ref h3, .int thr, .ref h4, .int rd, .int num, .int due, .long hash])), (h1, .inl (cI, 163, .inl ((f_X6_lapse z_c80 (f_X6_ofRequest z_63 x2_63 0)).2))), (h2, .inl (cI, 978, .inl hi)), (h3, .inl (cI, 60, .inl tx)), (h4, .inl (cI, 42, .inl pa))]) ⟨hx, hb, hml, hown, hts⟩ hK hN hP hD hS hA hl.1 ⟨Nat.le_of_ble_eq_true rfl, Nat.le_of_ble_eq_true rfl⟩ (c_X6_lapse l dC dI cI cB h0 h1 h2 h3 h4 _ states ln thr rd num due hash z_c80 hi tx pa (f_X6_ofRequest z_63 x2_63 0) hv_7) (cwV 1 hts gX6_dayPasses_X6_lapse rfl rfl rfl yd_X6_lapse ⟨Nat.le_of_ble_eq_true rfl, Nat.le_of_ble_eq_true rfl⟩) [0, 1, 2, 3, 4] rfl rfl rfl 6 rfl rfl rfl rfl (Nat.le_of_ble_eq_true rfl) dX6_dayPasses_90 (fun r93 H locs hw hP hD hS => ?_)
          have hP : va_P (dC, dI) vwCl [(h0, .inr (6, [.ref h1, .int states, .ref h2, .int ln, .ref h3, .int thr, .ref h4, .int rd, .int num, .int due, .long hash])), (h1, .inl (cI, 163, .inl ((f_X6_lapse z_c80 (f_X6_ofRequest z_63 x2_63 0)).2))), (h2, .inl (cI, 978, .inl hi)), (h3, .inl (cI, 60, .inl tx)), (h4, .inl (cI, 42, .inl pa))] H := hP
          have hD : va_D A [(h0, .inr (6, [.ref h1, .int states, .ref h2, .int ln, .ref h3, .int thr, .ref h4, .int rd, .int num, .int due, .long hash])), (h1, .inl (cI, 163, .inl ((f_X6_lapse z_c80 (f_X6_ofRequest z_63 x2_63 0)).2))), (h2, .inl (cI, 978, .inl hi)), (h3, .inl (cI, 60, .inl tx)), (h4, .inl (cI, 42, .inl pa))] := hD
          obtain ⟨y93, ey93⟩ : ∃ zz9, zz9 = (f_X6_lapse z_c80 (f_X6_ofRequest z_63 x2_63 0)).1 := ⟨_, rfl⟩
          obtain rfl : y93 = r93 := (hw.trans ey93.symm).symm
          obtain ⟨z_c93, ez_c93⟩ : ∃ zz9, zz9 = (f_X6_lapse z_c80 (f_X6_ofRequest z_63 x2_63 0)).2 := ⟨_, rfl⟩
          rw [← ez_c93] at hP hD
          have eF : rr = f_X6_dayPasses_c93 x1_63 (f_X6_dayPasses_j63 n63) y93 z_c93 := eF.trans (by rw [f_X6_dayPasses_c80, if_neg c_6, ey93, ez_c93])
          have eO : o_X6_dayPasses_c93 x1_63 (o_X6_dayPasses_j63 n63) y93 z_c93 := by rw [ey93, ez_c93]; exact eO
          rw [o_X6_dayPasses_c93] at eO
          refine lv_goto (tgt := 97) hx hb dX6_dayPasses_93 (by decide) ?_
          exact hJ97 y93 z_c93 (eF.trans (by rw [f_X6_dayPasses_c93])) eO _ _ hP hD hS ls (lv_sub hl [1, 2] rfl)
  have hJ56 : ∀ (z_56 : Nat → Int32), rr = f_X6_dayPasses_j56 z_56 → o_X6_dayPasses_j56 z_56 → ∀ (H : Heap) (locs : List Loc), va_P (dC, dI) vwCl [(h0, .inr (6, [.ref h1, .int states, .ref h2, .int ln, .ref h3, .int thr, .ref h4, .int rd, .int num, .int due, .long hash])), (h1, .inl (cI, 163, .inl z_56)), (h2, .inl (cI, 978, .inl hi)), (h3, .inl (cI, 60, .inl tx)), (h4, .inl (cI, 42, .inl pa))] H → va_D A [(h0, .inr (6, [.ref h1, .int states, .ref h2, .int ln, .ref h3, .int thr, .ref h4, .int rd, .int num, .int due, .long hash])), (h1, .inl (cI, 163, .inl z_56)), (h2, .inl (cI, 978, .inl hi)), (h3, .inl (cI, 60, .inl tx)), (h4, .inl (cI, 42, .inl pa))] → va_S A s.heap H locs → ∀ (ls : Array Slot), lv_has ls 5 [(0, .ref h0)] → W p l e (headSpec wsX6_dayPasses ({ frames := 4, cells := 0, slots := 0, locals := 92 })).room s m ([.ref h0] : List Value).toArray below meth c H locs 0 0 (MQ below (va_Qi (fun (r9 : Int32) (_ : Unit) => r9 = rr.1) (fun _ t => va_P (dC, dI) vwCl [(h0, .inr (6, [.ref h1, .int states, .ref h2, .int ln, .ref h3, .int thr, .ref h4, .int rd, .int num, .int due, .long hash])), (h1, .inl (cI, 163, .inl rr.2)), (h2, .inl (cI, 978, .inl hi)), (h3, .inl (cI, 60, .inl tx)), (h4, .inl (cI, 42, .inl pa))] t.heap) A) ([.ref h0] : List Value).toArray s 0 0 A) (F0 m 56 ls []) := by
    intro z_56 eF eO H locs hP hD hS ls hl
    rw [o_X6_dayPasses_j56] at eO
    refine lv_iconst (v := 0) hx hb dX6_dayPasses_56 (by decide) ?_
    refine lv_istore_n (lv' := [(1, .int 0), (0, .ref h0)]) hx hb dX6_dayPasses_57 rfl hl (by decide) rfl (fun ls hl => ?_)
    refine lv_aload_n hx hb dX6_dayPasses_58 rfl (lv_at hl 1 rfl) ?_
    obtain ⟨hv_8, eO⟩ := eO
    refine vm_roVx (v := (f_X6_tooLate z_56)) (As := []) (rest := []) (T := TX6) (N := 11) (wc := [(h0, .inr (6, [.ref h1, .int states, .ref h2, .int ln, .ref h3, .int thr, .ref h4, .int rd, .int num, .int due, .long hash])), (h1, .inl (cI, 163, .inl z_56)), (h2, .inl (cI, 978, .inl hi)), (h3, .inl (cI, 60, .inl tx)), (h4, .inl (cI, 42, .inl pa))]) ⟨hx, hb, hml, hown, hts⟩ hK hN hP hl.1 ⟨Nat.le_of_ble_eq_true rfl, Nat.le_of_ble_eq_true rfl⟩ (c_X6_tooLate l dC dI cI cB h0 h1 h2 h3 h4 states ln thr rd num due hash z_56 hi tx pa hv_8) (cwV 0 hts gX6_dayPasses_X6_tooLate rfl rfl rfl yd_X6_tooLate ⟨Nat.le_of_ble_eq_true rfl, Nat.le_of_ble_eq_true rfl⟩) [0, 1, 2, 3, 4] rfl 6 rfl rfl rfl rfl (Nat.le_of_ble_eq_true rfl) dX6_dayPasses_59 ?_
    refine lv_istore_n (lv' := [(2, .int (f_X6_tooLate z_56)), (1, .int 0), (0, .ref h0)]) hx hb dX6_dayPasses_62 rfl hl (by decide) rfl (fun ls hl => ?_)
    exact hJ63 1000 0 (f_X6_tooLate z_56) z_56 (eF.trans (by rw [f_X6_dayPasses_j56])) eO _ _ hP hD hS ls (lv_sub hl [2, 1, 0] rfl)
  have hJ32 : ∀ (n32 : Nat) (x1_32 : Int32) (z_32 : Nat → Int32), rr = f_X6_dayPasses_j32 n32 x1_32 z_32 → o_X6_dayPasses_j32 n32 x1_32 z_32 → ∀ (H : Heap) (locs : List Loc), va_P (dC, dI) vwCl [(h0, .inr (6, [.ref h1, .int states, .ref h2, .int ln, .ref h3, .int thr, .ref h4, .int rd, .int num, .int due, .long hash])), (h1, .inl (cI, 163, .inl z_32)), (h2, .inl (cI, 978, .inl hi)), (h3, .inl (cI, 60, .inl tx)), (h4, .inl (cI, 42, .inl pa))] H → va_D A [(h0, .inr (6, [.ref h1, .int states, .ref h2, .int ln, .ref h3, .int thr, .ref h4, .int rd, .int num, .int due, .long hash])), (h1, .inl (cI, 163, .inl z_32)), (h2, .inl (cI, 978, .inl hi)), (h3, .inl (cI, 60, .inl tx)), (h4, .inl (cI, 42, .inl pa))] → va_S A s.heap H locs → ∀ (ls : Array Slot), lv_has ls 5 [(0, .ref h0), (1, .int x1_32)] → W p l e (headSpec wsX6_dayPasses ({ frames := 4, cells := 0, slots := 0, locals := 92 })).room s m ([.ref h0] : List Value).toArray below meth c H locs 0 0 (MQ below (va_Qi (fun (r9 : Int32) (_ : Unit) => r9 = rr.1) (fun _ t => va_P (dC, dI) vwCl [(h0, .inr (6, [.ref h1, .int states, .ref h2, .int ln, .ref h3, .int thr, .ref h4, .int rd, .int num, .int due, .long hash])), (h1, .inl (cI, 163, .inl rr.2)), (h2, .inl (cI, 978, .inl hi)), (h3, .inl (cI, 60, .inl tx)), (h4, .inl (cI, 42, .inl pa))] t.heap) A) ([.ref h0] : List Value).toArray s 0 0 A) (F0 m 32 ls []) := by
    intro n32
    induction n32 with
    | zero =>
      intro x1_32 z_32 eF eO
      exact False.elim eO
    | succ n32 ih32 =>
      intro x1_32 z_32 eF eO H locs hP hD hS ls hl
      rw [o_X6_dayPasses_j32] at eO
      refine lv_iload_n hx hb dX6_dayPasses_32 rfl (lv_at hl 1 rfl) ?_
      refine lv_aload_n hx hb dX6_dayPasses_33 rfl (lv_at hl 0 rfl) ?_
      refine va_get (D := (dC, dI)) (ci := 6) (v := .ref h1) (C := RX6) (T := TX6) (N := 11) hx hb hts iwsX60 hown hK hP 0 rfl rfl 0 (by decide) kw1 (fun _ h9 => h9) rfl dX6_dayPasses_34 ?_
      refine lv_iconst (v := 3) hx hb dX6_dayPasses_37 (by decide) ?_
      refine va_iald hx hb hK hP 1 0 rfl rfl (by unfold vp_in; decide) dX6_dayPasses_38 ?_
      refine lv_icmp_ge (tgt := 56) hx hb dX6_dayPasses_39 (by decide) (fun c_9 => ?_) (fun c_9 => ?_)
      · rw [if_pos c_9] at eO
        exact hJ56 z_32 (eF.trans (by rw [f_X6_dayPasses_j32, if_pos c_9])) eO _ _ hP hD hS ls (lv_sub hl [0] rfl)
      · rw [if_neg c_9] at eO
        refine lv_aload_n hx hb dX6_dayPasses_42 rfl (lv_at hl 0 rfl) ?_
        refine lv_iload_n hx hb dX6_dayPasses_43 rfl (lv_at hl 1 rfl) ?_
        refine lv_bipush (v := 6) hx hb dX6_dayPasses_44 (by decide) ?_
        refine lv_iconst (v := 0) hx hb dX6_dayPasses_46 (by decide) ?_
        obtain ⟨hv_10, eO⟩ := eO
        refine vm_rwVv (As := [.int x1_32, .int 6, .int 0]) (rest := []) (T := TX6) (N := 11) (wc := [(h0, .inr (6, [.ref h1, .int states, .ref h2, .int ln, .ref h3, .int thr, .ref h4, .int rd, .int num, .int due, .long hash])), (h1, .inl (cI, 163, .inl z_32)), (h2, .inl (cI, 978, .inl hi)), (h3, .inl (cI, 60, .inl tx)), (h4, .inl (cI, 42, .inl pa))]) (w1 := [(h0, .inr (6, [.ref h1, .int states, .ref h2, .int ln, .ref h3, .int thr, .ref h4, .int rd, .int num, .int due, .long hash])), (h1, .inl (cI, 163, .inl (f_X6_put z_32 x1_32 6 0))), (h2, .inl (cI, 978, .inl hi)), (h3, .inl (cI, 60, .inl tx)), (h4, .inl (cI, 42, .inl pa))]) ⟨hx, hb, hml, hown, hts⟩ hK hN hP hD hS hA hl.1 ⟨Nat.le_of_ble_eq_true rfl, Nat.le_of_ble_eq_true rfl⟩ (c_X6_put l dC dI cI cB h0 h1 h2 h3 h4 _ states ln thr rd num due hash z_32 hi tx pa x1_32 6 0 hv_10) (cwV 3 hts gX6_dayPasses_X6_put rfl rfl rfl yd_X6_put ⟨Nat.le_of_ble_eq_true rfl, Nat.le_of_ble_eq_true rfl⟩) [0, 1, 2, 3, 4] rfl rfl rfl 6 rfl rfl rfl rfl (Nat.le_of_ble_eq_true rfl) dX6_dayPasses_47 (fun H locs hP hD hS => ?_)
        have hP : va_P (dC, dI) vwCl [(h0, .inr (6, [.ref h1, .int states, .ref h2, .int ln, .ref h3, .int thr, .ref h4, .int rd, .int num, .int due, .long hash])), (h1, .inl (cI, 163, .inl (f_X6_put z_32 x1_32 6 0))), (h2, .inl (cI, 978, .inl hi)), (h3, .inl (cI, 60, .inl tx)), (h4, .inl (cI, 42, .inl pa))] H := hP
        have hD : va_D A [(h0, .inr (6, [.ref h1, .int states, .ref h2, .int ln, .ref h3, .int thr, .ref h4, .int rd, .int num, .int due, .long hash])), (h1, .inl (cI, 163, .inl (f_X6_put z_32 x1_32 6 0))), (h2, .inl (cI, 978, .inl hi)), (h3, .inl (cI, 60, .inl tx)), (h4, .inl (cI, 42, .inl pa))] := hD
        obtain ⟨z_c50, ez_c50⟩ : ∃ zz9, zz9 = (f_X6_put z_32 x1_32 6 0) := ⟨_, rfl⟩
        rw [← ez_c50] at hP hD
        have eF : rr = f_X6_dayPasses_c50 x1_32 (f_X6_dayPasses_j32 n32) z_c50 := eF.trans (by rw [f_X6_dayPasses_j32, if_neg c_9, ez_c50])
        have eO : o_X6_dayPasses_c50 x1_32 (o_X6_dayPasses_j32 n32) z_c50 := by rw [ez_c50]; exact eO
        rw [o_X6_dayPasses_c50] at eO
        refine lv_iinc (v := (x1_32 + 1)) (lv' := [(1, .int (x1_32 + 1)), (0, .ref h0)]) hx hb dX6_dayPasses_50 hl (k := 1) rfl rfl (by decide) rfl (fun ls hl => ?_)
        refine lv_goto (tgt := 32) hx hb dX6_dayPasses_53 (by decide) ?_
        exact ih32 (x1_32 + 1) z_c50 (eF.trans (by rw [f_X6_dayPasses_c50])) eO _ _ hP hD hS ls (lv_sub hl [1, 0] rfl)
  rw [o_X6_dayPasses] at eO
  refine lv_aload_n hx hb dX6_dayPasses_0 rfl (lv_at hl 0 rfl) ?_
  refine va_get (D := (dC, dI)) (ci := 6) (v := .ref h1) (C := RX6) (T := TX6) (N := 11) hx hb hts iwsX60 hown hK hP 0 rfl rfl 0 (by decide) kw1 (fun _ h9 => h9) rfl dX6_dayPasses_1 ?_
  refine lv_iconst (v := 2) hx hb dX6_dayPasses_4 (by decide) ?_
  refine lv_dup2_11 hx hb dX6_dayPasses_5 rfl rfl ?_
  refine va_iald hx hb hK hP 1 0 rfl rfl (by unfold vp_in; decide) dX6_dayPasses_6 ?_
  refine lv_iconst (v := 1) hx hb dX6_dayPasses_7 (by decide) ?_
  refine lv_iadd hx hb dX6_dayPasses_8 ?_
  refine va_iast hx hb hK hP hD hS 1 0 rfl rfl (by unfold vp_in; decide) dX6_dayPasses_9 (fun H locs hP hD hS => ?_)
  have hP : va_P (dC, dI) vwCl [(h0, .inr (6, [.ref h1, .int states, .ref h2, .int ln, .ref h3, .int thr, .ref h4, .int rd, .int num, .int due, .long hash])), (h1, .inl (cI, 163, .inl (upd z (Int32.toNatClampNeg 2) ((z (Int32.toNatClampNeg 2)) + 1)))), (h2, .inl (cI, 978, .inl hi)), (h3, .inl (cI, 60, .inl tx)), (h4, .inl (cI, 42, .inl pa))] H := hP
  have hD : va_D A [(h0, .inr (6, [.ref h1, .int states, .ref h2, .int ln, .ref h3, .int thr, .ref h4, .int rd, .int num, .int due, .long hash])), (h1, .inl (cI, 163, .inl (upd z (Int32.toNatClampNeg 2) ((z (Int32.toNatClampNeg 2)) + 1)))), (h2, .inl (cI, 978, .inl hi)), (h3, .inl (cI, 60, .inl tx)), (h4, .inl (cI, 42, .inl pa))] := hD
  refine lv_aload_n hx hb dX6_dayPasses_10 rfl (lv_at hl 0 rfl) ?_
  refine va_get (D := (dC, dI)) (ci := 6) (v := .ref h1) (C := RX6) (T := TX6) (N := 11) hx hb hts iwsX60 hown hK hP 0 rfl rfl 0 (by decide) kw1 (fun _ h9 => h9) rfl dX6_dayPasses_11 ?_
  refine lv_iconst (v := 2) hx hb dX6_dayPasses_14 (by decide) ?_
  refine va_iald hx hb hK hP 1 0 rfl rfl (by unfold vp_in; decide) dX6_dayPasses_15 ?_
  refine lv_bipush (v := 10) hx hb dX6_dayPasses_16 (by decide) ?_
  refine lv_irem hx hb dX6_dayPasses_18 (by decide) ?_
  refine lv_if_ne (tgt := 56) hx hb dX6_dayPasses_19 (by decide) (fun c_11 => ?_) (fun c_11 => ?_)
  · rw [if_neg c_11] at eO
    exact hJ56 (upd z (Int32.toNatClampNeg 2) ((z (Int32.toNatClampNeg 2)) + 1)) (eF.trans (by rw [f_X6_dayPasses, if_neg c_11])) eO _ _ hP hD hS ls (lv_sub hl [0] rfl)
  · rw [if_pos c_11] at eO
    refine lv_aload_n hx hb dX6_dayPasses_22 rfl (lv_at hl 0 rfl) ?_
    refine va_get (D := (dC, dI)) (ci := 6) (v := .ref h1) (C := RX6) (T := TX6) (N := 11) hx hb hts iwsX60 hown hK hP 0 rfl rfl 0 (by decide) kw1 (fun _ h9 => h9) rfl dX6_dayPasses_23 ?_
    refine lv_bipush (v := 6) hx hb dX6_dayPasses_26 (by decide) ?_
    refine lv_iconst (v := 0) hx hb dX6_dayPasses_28 (by decide) ?_
    refine va_iast hx hb hK hP hD hS 1 0 rfl rfl (by unfold vp_in; decide) dX6_dayPasses_29 (fun H locs hP hD hS => ?_)
    have hP : va_P (dC, dI) vwCl [(h0, .inr (6, [.ref h1, .int states, .ref h2, .int ln, .ref h3, .int thr, .ref h4, .int rd, .int num, .int due, .long hash])), (h1, .inl (cI, 163, .inl (upd (upd z (Int32.toNatClampNeg 2) ((z (Int32.toNatClampNeg 2)) + 1)) (Int32.toNatClampNeg 6) 0))), (h2, .inl (cI, 978, .inl hi)), (h3, .inl (cI, 60, .inl tx)), (h4, .inl (cI, 42, .inl pa))] H := hP
    have hD : va_D A [(h0, .inr (6, [.ref h1, .int states, .ref h2, .int ln, .ref h3, .int thr, .ref h4, .int rd, .int num, .int due, .long hash])), (h1, .inl (cI, 163, .inl (upd (upd z (Int32.toNatClampNeg 2) ((z (Int32.toNatClampNeg 2)) + 1)) (Int32.toNatClampNeg 6) 0))), (h2, .inl (cI, 978, .inl hi)), (h3, .inl (cI, 60, .inl tx)), (h4, .inl (cI, 42, .inl pa))] := hD
    refine lv_iconst (v := 0) hx hb dX6_dayPasses_30 (by decide) ?_
    refine lv_istore_n (lv' := [(1, .int 0), (0, .ref h0)]) hx hb dX6_dayPasses_31 rfl hl (by decide) rfl (fun ls hl => ?_)
    exact hJ32 1000 0 (upd (upd z (Int32.toNatClampNeg 2) ((z (Int32.toNatClampNeg 2)) + 1)) (Int32.toNatClampNeg 6) 0) (eF.trans (by rw [f_X6_dayPasses, if_pos c_11])) eO _ _ hP hD hS ls (lv_sub hl [1, 0] rfl)

def f_X6_pass_c63 (x2_54 : Int32) (x3_54 : Int32) (states_54 : Int32) (thr_54 : Int32) (hi_54 : Nat → Int32) (kj54 : Int32 → Int32 → Int32 → Int32 → (Nat → Int32) → (Nat → Int32) → (Int32 × Int32 × Int32 × (Nat → Int32) × (Nat → Int32))) (y63 : Int32) (z_c63 : Nat → Int32) : Int32 × Int32 × Int32 × (Nat → Int32) × (Nat → Int32) :=
  kj54 (x2_54 + y63) (x3_54 + 1) states_54 thr_54 z_c63 hi_54
def f_X6_pass_j54 (p1 : Int32) : Nat → Int32 → Int32 → Int32 → Int32 → (Nat → Int32) → (Nat → Int32) → Int32 × Int32 × Int32 × (Nat → Int32) × (Nat → Int32)
  | 0, _, _, _, _, _, _ => (0, 0, 0, (fun _ => 0), (fun _ => 0))
  | n54 + 1, x2_54, x3_54, states_54, thr_54, z_54, hi_54 => if p1 ≤ x3_54 then
      (x2_54, states_54, thr_54, z_54, hi_54)
    else
      f_X6_pass_c63 x2_54 x3_54 states_54 thr_54 hi_54 (f_X6_pass_j54 p1 n54) ((f_X6_dayPasses z_54).1) ((f_X6_dayPasses z_54).2)
def f_X6_pass_c50 (z : Nat → Int32) (p1 : Int32) (s0_34 : Int32) (states_c50 : Int32) (hi_c50 : Nat → Int32) : Int32 × Int32 × Int32 × (Nat → Int32) × (Nat → Int32) :=
  f_X6_pass_j54 p1 (((p1).toInt - ((0 : Int32)).toInt).toNat + 1) 0 0 states_c50 s0_34 z hi_c50
def f_X6_pass_j34 (states : Int32) (z : Nat → Int32) (hi : Nat → Int32) (p1 : Int32) (s0_34 : Int32) : Int32 × Int32 × Int32 × (Nat → Int32) × (Nat → Int32) :=
  if s0_34 ≤ 0 then
    f_X6_pass_c50 z p1 s0_34 ((f_X6_save states z hi).1) ((f_X6_save states z hi).2)
  else
    (0, states, s0_34, z, hi)
def f_X6_pass (states : Int32) (z : Nat → Int32) (hi : Nat → Int32) (p1 : Int32) : Int32 × Int32 × Int32 × (Nat → Int32) × (Nat → Int32) :=
  if (vm_bi (f_X6_within p1 1 60)) = 0 then
    f_X6_pass_j34 states z hi p1 1
  else
    if ((z (Int32.toNatClampNeg 2)) + p1) ≤ 5000 then
      f_X6_pass_j34 states z hi p1 0
    else
      f_X6_pass_j34 states z hi p1 2
def o_X6_pass_c63 (x2_54 : Int32) (x3_54 : Int32) (states_54 : Int32) (thr_54 : Int32) (hi_54 : Nat → Int32) (koj54 : Int32 → Int32 → Int32 → Int32 → (Nat → Int32) → (Nat → Int32) → Prop) (y63 : Int32) (z_c63 : Nat → Int32) : Prop :=
  koj54 (x2_54 + y63) (x3_54 + 1) states_54 thr_54 z_c63 hi_54
def o_X6_pass_j54 (p1 : Int32) : Nat → Int32 → Int32 → Int32 → Int32 → (Nat → Int32) → (Nat → Int32) → Prop
  | 0, _, _, _, _, _, _ => True
  | n54 + 1, x2_54, x3_54, states_54, thr_54, z_54, hi_54 => if p1 ≤ x3_54 then
      True
    else
      o_X6_dayPasses z_54 ∧
      (o_X6_pass_c63 x2_54 x3_54 states_54 thr_54 hi_54 (o_X6_pass_j54 p1 n54) ((f_X6_dayPasses z_54).1) ((f_X6_dayPasses z_54).2))
def o_X6_pass_c50 (z : Nat → Int32) (p1 : Int32) (s0_34 : Int32) (states_c50 : Int32) (hi_c50 : Nat → Int32) : Prop :=
  o_X6_pass_j54 p1 (((p1).toInt - ((0 : Int32)).toInt).toNat + 1) 0 0 states_c50 s0_34 z hi_c50
def o_X6_pass_j34 (states : Int32) (z : Nat → Int32) (hi : Nat → Int32) (p1 : Int32) (s0_34 : Int32) : Prop :=
  if s0_34 ≤ 0 then
    o_X6_save states z hi ∧
    (o_X6_pass_c50 z p1 s0_34 ((f_X6_save states z hi).1) ((f_X6_save states z hi).2))
  else
    True
def o_X6_pass (states : Int32) (z : Nat → Int32) (hi : Nat → Int32) (p1 : Int32) : Prop :=
  if (vm_bi (f_X6_within p1 1 60)) = 0 then
    o_X6_pass_j34 states z hi p1 1
  else
    if ((z (Int32.toNatClampNeg 2)) + p1) ≤ 5000 then
      o_X6_pass_j34 states z hi p1 0
    else
      o_X6_pass_j34 states z hi p1 2
theorem yd_X6_pass : yX6_pass.cls = RX6 ∧ yX6_pass.cls ≠ "java/lang/invoke/MethodHandle" ∧ yX6_pass.cls ≠ "java/lang/invoke/VarHandle" ∧ (parseMethodDescriptor yX6_pass.desc).map (fun d => d.parameters.length) = some 1 := by decide +kernel
set_option maxHeartbeats 4000000 in
set_option maxRecDepth 100000 in
theorem c_X6_pass (l : Launch) (dC : Nat → ClassId) (dI : Nat → Nat → Nat) (cI cB : ClassId) (h0 h1 h2 h3 h4 : Nat) (sz : Nat) (states : Int32) (ln : Int32) (thr : Int32) (rd : Int32) (num : Int32) (due : Int32) (hash : Int64) (z : Nat → Int32) (hi : Nat → Int32) (tx : Nat → Int32) (pa : Nat → Int32) (p1 : Int32) (eO : o_X6_pass states z hi p1) : Met l yX6_pass wsX6_pass ({ frames := 5, cells := 0, slots := 0, locals := 116 }) (vm_prw [.ref h0, .int p1] (dC, dI) [(h0, .inr (6, [.ref h1, .int states, .ref h2, .int ln, .ref h3, .int thr, .ref h4, .int rd, .int num, .int due, .long hash])), (h1, .inl (cI, 163, .inl z)), (h2, .inl (cI, 978, .inl hi)), (h3, .inl (cI, 60, .inl tx)), (h4, .inl (cI, 42, .inl pa))] cI cB sz) (va_Qi (fun (r9 : Int32) (_ : Unit) => r9 = (f_X6_pass states z hi p1).1) (fun _ t => va_P (dC, dI) vwCl [(h0, .inr (6, [.ref h1, .int ((f_X6_pass states z hi p1).2.1), .ref h2, .int ln, .ref h3, .int ((f_X6_pass states z hi p1).2.2.1), .ref h4, .int rd, .int num, .int due, .long hash])), (h1, .inl (cI, 163, .inl ((f_X6_pass states z hi p1).2.2.2.1))), (h2, .inl (cI, 978, .inl ((f_X6_pass states z hi p1).2.2.2.2))), (h3, .inl (cI, 60, .inl tx)), (h4, .inl (cI, 42, .inl pa))] t.heap) (va_A [(h0, .inr (6, [.ref h1, .int states, .ref h2, .int ln, .ref h3, .int thr, .ref h4, .int rd, .int num, .int due, .long hash])), (h1, .inl (cI, 163, .inl z)), (h2, .inl (cI, 978, .inl hi)), (h3, .inl (cI, 60, .inl tx)), (h4, .inl (cI, 42, .inl pa))] sz)) 0 0 (va_A [(h0, .inr (6, [.ref h1, .int states, .ref h2, .int ln, .ref h3, .int thr, .ref h4, .int rd, .int num, .int due, .long hash])), (h1, .inl (cI, 163, .inl z)), (h2, .inl (cI, 978, .inl hi)), (h3, .inl (cI, 60, .inl tx)), (h4, .inl (cI, 42, .inl pa))] sz) := by
  refine Met.ofW (cc := cX6_pass) (maxL := 5) (ret := (some .int)) (by decide) rfl ?_
  intro p e s m args below meth c s₁ B hml hv
  obtain ⟨rfl, hsz, hP, hK, hN, hD0⟩ := hv
  have hx := B.exec
  have hb := B.bytes
  have hr := B.returns
  have hts := atoms_spec (ws := wsX6_pass) B.pre
  have hown : s.vm.findClass RX6 = some m.cls := findClass_of_methodNamed B.named
  have hlocks := B.notSynchronized
  subst hsz
  have hD := hD0.self (sz := s.heap.size)
  generalize hAe : va_A [(h0, .inr (6, [.ref h1, .int states, .ref h2, .int ln, .ref h3, .int thr, .ref h4, .int rd, .int num, .int due, .long hash])), (h1, .inl (cI, 163, .inl z)), (h2, .inl (cI, 978, .inl hi)), (h3, .inl (cI, 60, .inl tx)), (h4, .inl (cI, 42, .inl pa))] s.heap.size = A at hD ⊢
  have hA : ∀ q : Nat, s.heap.size ≤ q → A q := fun q h => by rw [← hAe]; exact Or.inr h
  have hS : va_S A s.heap s.heap [] := va_S.rf
  have hP : va_P (dC, dI) vwCl [(h0, .inr (6, [.ref h1, .int states, .ref h2, .int ln, .ref h3, .int thr, .ref h4, .int rd, .int num, .int due, .long hash])), (h1, .inl (cI, 163, .inl z)), (h2, .inl (cI, 978, .inl hi)), (h3, .inl (cI, 60, .inl tx)), (h4, .inl (cI, 42, .inl pa))] s.heap := hP
  have kw1 := hts (.fieldLink RX6 7 "LapseMandatesModel" "z" "[I") (List.mem_of_getElem? (i := 1) rfl)
  have kw2 := hts (.fieldLink RX6 22 "LapseMandatesModel" "thrown" "I") (List.mem_of_getElem? (i := 2) rfl)
  have iwsX60 : ∀ w ∈ wsX60, w ∈ wsX6_pass := fun w h => List.mem_cons_of_mem _ (List.mem_append_right _ h)
  generalize hrr : f_X6_pass states z hi p1 = rr
  have eF := hrr.symm
  have hl := lv_entry ([.ref h0, .int p1]) (n := 5) (Nat.le_of_ble_eq_true rfl)
  rw [lg_entry_eq]
  generalize (lg_sl ([.ref h0, .int p1]) ++ List.replicate (5 - (lg_sl ([.ref h0, .int p1])).length) Slot.unset).toArray = ls at hl ⊢
  have hl : lv_has ls 5 [(0, .ref h0), (1, .int p1)] := hl
  have hJ54 : ∀ (n54 : Nat) (x2_54 : Int32) (x3_54 : Int32) (states_54 : Int32) (thr_54 : Int32) (z_54 : Nat → Int32) (hi_54 : Nat → Int32), ((p1).toInt - (x3_54).toInt).toNat < n54 → 0 ≤ x3_54 → rr = f_X6_pass_j54 p1 n54 x2_54 x3_54 states_54 thr_54 z_54 hi_54 → o_X6_pass_j54 p1 n54 x2_54 x3_54 states_54 thr_54 z_54 hi_54 → ∀ (H : Heap) (locs : List Loc), va_P (dC, dI) vwCl [(h0, .inr (6, [.ref h1, .int states_54, .ref h2, .int ln, .ref h3, .int thr_54, .ref h4, .int rd, .int num, .int due, .long hash])), (h1, .inl (cI, 163, .inl z_54)), (h2, .inl (cI, 978, .inl hi_54)), (h3, .inl (cI, 60, .inl tx)), (h4, .inl (cI, 42, .inl pa))] H → va_D A [(h0, .inr (6, [.ref h1, .int states_54, .ref h2, .int ln, .ref h3, .int thr_54, .ref h4, .int rd, .int num, .int due, .long hash])), (h1, .inl (cI, 163, .inl z_54)), (h2, .inl (cI, 978, .inl hi_54)), (h3, .inl (cI, 60, .inl tx)), (h4, .inl (cI, 42, .inl pa))] → va_S A s.heap H locs → ∀ (ls : Array Slot), lv_has ls 5 [(0, .ref h0), (1, .int p1), (2, .int x2_54), (3, .int x3_54)] → W p l e (headSpec wsX6_pass ({ frames := 5, cells := 0, slots := 0, locals := 116 })).room s m ([.ref h0, .int p1] : List Value).toArray below meth c H locs 0 0 (MQ below (va_Qi (fun (r9 : Int32) (_ : Unit) => r9 = rr.1) (fun _ t => va_P (dC, dI) vwCl [(h0, .inr (6, [.ref h1, .int rr.2.1, .ref h2, .int ln, .ref h3, .int rr.2.2.1, .ref h4, .int rd, .int num, .int due, .long hash])), (h1, .inl (cI, 163, .inl rr.2.2.2.1)), (h2, .inl (cI, 978, .inl rr.2.2.2.2)), (h3, .inl (cI, 60, .inl tx)), (h4, .inl (cI, 42, .inl pa))] t.heap) A) ([.ref h0, .int p1] : List Value).toArray s 0 0 A) (F0 m 54 ls []) := by
    intro n54
    induction n54 with
    | zero =>
      intro x2_54 x3_54 states_54 thr_54 z_54 hi_54 hm54
      exact absurd hm54 (Nat.not_lt_zero _)
    | succ n54 ih54 =>
      intro x2_54 x3_54 states_54 thr_54 z_54 hi_54 hm54 hi54 eF eO H locs hP hD hS ls hl
      rw [o_X6_pass_j54] at eO
      refine lv_iload_n hx hb dX6_pass_54 rfl (lv_at hl 3 rfl) ?_
      refine lv_iload_n hx hb dX6_pass_55 rfl (lv_at hl 1 rfl) ?_
      refine lv_icmp_ge (tgt := 76) hx hb dX6_pass_56 (by decide) (fun cL54 => ?_) (fun cL54 => ?_)
      · rw [if_pos cL54] at eO
        refine lv_iload_n hx hb dX6_pass_76 rfl (lv_at hl 2 rfl) ?_
        have e9 : rr = ((x2_54, states_54, thr_54, z_54, hi_54) : Int32 × Int32 × Int32 × (Nat → Int32) × (Nat → Int32)) := eF.trans (by rw [f_X6_pass_j54, if_pos cL54])
        exact W.iret (v := x2_54) hx hb hr (fun t ht hW => ⟨⟨_, (), rfl, by rw [e9], (by rw [e9]; show va_P _ _ _ t.heap; rw [ht]; exact hP)⟩, hS.F ht⟩) hS.2.2 dX6_pass_77
      · rw [if_neg cL54] at eO
        refine lv_aload_n hx hb dX6_pass_59 rfl (lv_at hl 0 rfl) ?_
        obtain ⟨hv_2, eO⟩ := eO
        refine vm_rwV (As := []) (rest := []) (T := TX6) (N := 11) (wc := [(h0, .inr (6, [.ref h1, .int states_54, .ref h2, .int ln, .ref h3, .int thr_54, .ref h4, .int rd, .int num, .int due, .long hash])), (h1, .inl (cI, 163, .inl z_54)), (h2, .inl (cI, 978, .inl hi_54)), (h3, .inl (cI, 60, .inl tx)), (h4, .inl (cI, 42, .inl pa))]) (w1 := [(h0, .inr (6, [.ref h1, .int states_54, .ref h2, .int ln, .ref h3, .int thr_54, .ref h4, .int rd, .int num, .int due, .long hash])), (h1, .inl (cI, 163, .inl ((f_X6_dayPasses z_54).2))), (h2, .inl (cI, 978, .inl hi_54)), (h3, .inl (cI, 60, .inl tx)), (h4, .inl (cI, 42, .inl pa))]) ⟨hx, hb, hml, hown, hts⟩ hK hN hP hD hS hA hl.1 ⟨Nat.le_of_ble_eq_true rfl, Nat.le_of_ble_eq_true rfl⟩ (c_X6_dayPasses l dC dI cI cB h0 h1 h2 h3 h4 _ states_54 ln thr_54 rd num due hash z_54 hi_54 tx pa hv_2) (cwV 0 hts gX6_pass_X6_dayPasses rfl rfl rfl yd_X6_dayPasses ⟨Nat.le_of_ble_eq_true rfl, Nat.le_of_ble_eq_true rfl⟩) [0, 1, 2, 3, 4] rfl rfl rfl 6 rfl rfl rfl rfl (Nat.le_of_ble_eq_true rfl) dX6_pass_60 (fun r63 H locs hw hP hD hS => ?_)
        have hP : va_P (dC, dI) vwCl [(h0, .inr (6, [.ref h1, .int states_54, .ref h2, .int ln, .ref h3, .int thr_54, .ref h4, .int rd, .int num, .int due, .long hash])), (h1, .inl (cI, 163, .inl ((f_X6_dayPasses z_54).2))), (h2, .inl (cI, 978, .inl hi_54)), (h3, .inl (cI, 60, .inl tx)), (h4, .inl (cI, 42, .inl pa))] H := hP
        have hD : va_D A [(h0, .inr (6, [.ref h1, .int states_54, .ref h2, .int ln, .ref h3, .int thr_54, .ref h4, .int rd, .int num, .int due, .long hash])), (h1, .inl (cI, 163, .inl ((f_X6_dayPasses z_54).2))), (h2, .inl (cI, 978, .inl hi_54)), (h3, .inl (cI, 60, .inl tx)), (h4, .inl (cI, 42, .inl pa))] := hD
        obtain ⟨y63, ey63⟩ : ∃ zz9, zz9 = (f_X6_dayPasses z_54).1 := ⟨_, rfl⟩
        obtain rfl : y63 = r63 := (hw.trans ey63.symm).symm
        obtain ⟨z_c63, ez_c63⟩ : ∃ zz9, zz9 = (f_X6_dayPasses z_54).2 := ⟨_, rfl⟩
        rw [← ez_c63] at hP hD
        have eF : rr = f_X6_pass_c63 x2_54 x3_54 states_54 thr_54 hi_54 (f_X6_pass_j54 p1 n54) y63 z_c63 := eF.trans (by rw [f_X6_pass_j54, if_neg cL54, ey63, ez_c63])
        have eO : o_X6_pass_c63 x2_54 x3_54 states_54 thr_54 hi_54 (o_X6_pass_j54 p1 n54) y63 z_c63 := by rw [ey63, ez_c63]; exact eO
        rw [o_X6_pass_c63] at eO
        refine lv_istore (lv' := [(4, .int y63), (0, .ref h0), (1, .int p1), (2, .int x2_54), (3, .int x3_54)]) hx hb dX6_pass_63 hl (by decide) rfl (fun ls hl => ?_)
        refine lv_iload_n hx hb dX6_pass_65 rfl (lv_at hl 3 rfl) ?_
        refine lv_iload hx hb dX6_pass_66 (lv_at hl 0 rfl) ?_
        refine lv_iadd hx hb dX6_pass_68 ?_
        refine lv_istore_n (lv' := [(2, .int (x2_54 + y63)), (4, .int y63), (0, .ref h0), (1, .int p1), (3, .int x3_54)]) hx hb dX6_pass_69 rfl hl (by decide) rfl (fun ls hl => ?_)
        refine lv_iinc (v := (x3_54 + 1)) (lv' := [(3, .int (x3_54 + 1)), (2, .int (x2_54 + y63)), (4, .int y63), (0, .ref h0), (1, .int p1)]) hx hb dX6_pass_70 hl (k := 4) rfl rfl (by decide) rfl (fun ls hl => ?_)
        refine lv_goto (tgt := 54) hx hb dX6_pass_73 (by decide) ?_
        exact ih54 (x2_54 + y63) (x3_54 + 1) states_54 thr_54 z_c63 hi_54 (vm_up (vm_nle cL54) hm54) (vm_nn hi54 (vm_nle cL54)) (eF.trans (by rw [f_X6_pass_c63])) eO _ _ hP hD hS ls (lv_sub hl [3, 4, 1, 0] rfl)
  have hJ34 : ∀ (s0_34 : Int32), rr = f_X6_pass_j34 states z hi p1 s0_34 → o_X6_pass_j34 states z hi p1 s0_34 → ∀ (H : Heap) (locs : List Loc), va_P (dC, dI) vwCl [(h0, .inr (6, [.ref h1, .int states, .ref h2, .int ln, .ref h3, .int thr, .ref h4, .int rd, .int num, .int due, .long hash])), (h1, .inl (cI, 163, .inl z)), (h2, .inl (cI, 978, .inl hi)), (h3, .inl (cI, 60, .inl tx)), (h4, .inl (cI, 42, .inl pa))] H → va_D A [(h0, .inr (6, [.ref h1, .int states, .ref h2, .int ln, .ref h3, .int thr, .ref h4, .int rd, .int num, .int due, .long hash])), (h1, .inl (cI, 163, .inl z)), (h2, .inl (cI, 978, .inl hi)), (h3, .inl (cI, 60, .inl tx)), (h4, .inl (cI, 42, .inl pa))] → va_S A s.heap H locs → ∀ (ls : Array Slot), lv_has ls 5 [(0, .ref h0), (1, .int p1)] → W p l e (headSpec wsX6_pass ({ frames := 5, cells := 0, slots := 0, locals := 116 })).room s m ([.ref h0, .int p1] : List Value).toArray below meth c H locs 0 0 (MQ below (va_Qi (fun (r9 : Int32) (_ : Unit) => r9 = rr.1) (fun _ t => va_P (dC, dI) vwCl [(h0, .inr (6, [.ref h1, .int rr.2.1, .ref h2, .int ln, .ref h3, .int rr.2.2.1, .ref h4, .int rd, .int num, .int due, .long hash])), (h1, .inl (cI, 163, .inl rr.2.2.2.1)), (h2, .inl (cI, 978, .inl rr.2.2.2.2)), (h3, .inl (cI, 60, .inl tx)), (h4, .inl (cI, 42, .inl pa))] t.heap) A) ([.ref h0, .int p1] : List Value).toArray s 0 0 A) (F0 m 34 ls [.int s0_34, .ref h0]) := by
    intro s0_34 eF eO H locs hP hD hS ls hl
    rw [o_X6_pass_j34] at eO
    refine va_put (D := (dC, dI)) (ci := 6) (v := .int s0_34) (ty := .int) (C := RX6) (T := TX6) (N := 11) hx hb hts iwsX60 tyX6 tyX6_ok nmX6 hown hK hP hD hS 0 rfl rfl 5 (by decide) kw2 (fun _ h9 => h9) rfl (by decide +kernel) rfl rfl (Nat.le_of_ble_eq_true rfl) dX6_pass_34 (fun H locs hP hD hS => ?_)
    have hP : va_P (dC, dI) vwCl [(h0, .inr (6, [.ref h1, .int states, .ref h2, .int ln, .ref h3, .int s0_34, .ref h4, .int rd, .int num, .int due, .long hash])), (h1, .inl (cI, 163, .inl z)), (h2, .inl (cI, 978, .inl hi)), (h3, .inl (cI, 60, .inl tx)), (h4, .inl (cI, 42, .inl pa))] H := hP
    have hD : va_D A [(h0, .inr (6, [.ref h1, .int states, .ref h2, .int ln, .ref h3, .int s0_34, .ref h4, .int rd, .int num, .int due, .long hash])), (h1, .inl (cI, 163, .inl z)), (h2, .inl (cI, 978, .inl hi)), (h3, .inl (cI, 60, .inl tx)), (h4, .inl (cI, 42, .inl pa))] := hD
    refine lv_aload_n hx hb dX6_pass_37 rfl (lv_at hl 0 rfl) ?_
    refine va_get (D := (dC, dI)) (ci := 6) (v := .int s0_34) (C := RX6) (T := TX6) (N := 11) hx hb hts iwsX60 hown hK hP 0 rfl rfl 5 (by decide) kw2 (fun _ h9 => h9) rfl dX6_pass_38 ?_
    refine lv_if_le (tgt := 46) hx hb dX6_pass_41 (by decide) (fun c_3 => ?_) (fun c_3 => ?_)
    · rw [if_pos c_3] at eO
      refine lv_aload_n hx hb dX6_pass_46 rfl (lv_at hl 0 rfl) ?_
      obtain ⟨hv_4, eO⟩ := eO
      refine vm_rwVv (As := []) (rest := []) (T := TX6) (N := 11) (wc := [(h0, .inr (6, [.ref h1, .int states, .ref h2, .int ln, .ref h3, .int s0_34, .ref h4, .int rd, .int num, .int due, .long hash])), (h1, .inl (cI, 163, .inl z)), (h2, .inl (cI, 978, .inl hi)), (h3, .inl (cI, 60, .inl tx)), (h4, .inl (cI, 42, .inl pa))]) (w1 := [(h0, .inr (6, [.ref h1, .int ((f_X6_save states z hi).1), .ref h2, .int ln, .ref h3, .int s0_34, .ref h4, .int rd, .int num, .int due, .long hash])), (h1, .inl (cI, 163, .inl z)), (h2, .inl (cI, 978, .inl ((f_X6_save states z hi).2))), (h3, .inl (cI, 60, .inl tx)), (h4, .inl (cI, 42, .inl pa))]) ⟨hx, hb, hml, hown, hts⟩ hK hN hP hD hS hA hl.1 ⟨Nat.le_of_ble_eq_true rfl, Nat.le_of_ble_eq_true rfl⟩ (c_X6_save l dC dI cI cB h0 h1 h2 h3 h4 _ states ln s0_34 rd num due hash z hi tx pa hv_4) (cwV 0 hts gX6_pass_X6_save rfl rfl rfl yd_X6_save ⟨Nat.le_of_ble_eq_true rfl, Nat.le_of_ble_eq_true rfl⟩) [0, 1, 2, 3, 4] rfl rfl rfl 6 rfl rfl rfl rfl (Nat.le_of_ble_eq_true rfl) dX6_pass_47 (fun H locs hP hD hS => ?_)
      have hP : va_P (dC, dI) vwCl [(h0, .inr (6, [.ref h1, .int ((f_X6_save states z hi).1), .ref h2, .int ln, .ref h3, .int s0_34, .ref h4, .int rd, .int num, .int due, .long hash])), (h1, .inl (cI, 163, .inl z)), (h2, .inl (cI, 978, .inl ((f_X6_save states z hi).2))), (h3, .inl (cI, 60, .inl tx)), (h4, .inl (cI, 42, .inl pa))] H := hP
      have hD : va_D A [(h0, .inr (6, [.ref h1, .int ((f_X6_save states z hi).1), .ref h2, .int ln, .ref h3, .int s0_34, .ref h4, .int rd, .int num, .int due, .long hash])), (h1, .inl (cI, 163, .inl z)), (h2, .inl (cI, 978, .inl ((f_X6_save states z hi).2))), (h3, .inl (cI, 60, .inl tx)), (h4, .inl (cI, 42, .inl pa))] := hD
      obtain ⟨states_c50, estates_c50⟩ : ∃ zz9, zz9 = (f_X6_save states z hi).1 := ⟨_, rfl⟩
      rw [← estates_c50] at hP hD
      obtain ⟨hi_c50, ehi_c50⟩ : ∃ zz9, zz9 = (f_X6_save states z hi).2 := ⟨_, rfl⟩
      rw [← ehi_c50] at hP hD
      have eF : rr = f_X6_pass_c50 z p1 s0_34 states_c50 hi_c50 := eF.trans (by rw [f_X6_pass_j34, if_pos c_3, estates_c50, ehi_c50])
      have eO : o_X6_pass_c50 z p1 s0_34 states_c50 hi_c50 := by rw [estates_c50, ehi_c50]; exact eO
      rw [o_X6_pass_c50] at eO
      refine lv_iconst (v := 0) hx hb dX6_pass_50 (by decide) ?_
      refine lv_istore_n (lv' := [(2, .int 0), (0, .ref h0), (1, .int p1)]) hx hb dX6_pass_51 rfl hl (by decide) rfl (fun ls hl => ?_)
      refine lv_iconst (v := 0) hx hb dX6_pass_52 (by decide) ?_
      refine lv_istore_n (lv' := [(3, .int 0), (2, .int 0), (0, .ref h0), (1, .int p1)]) hx hb dX6_pass_53 rfl hl (by decide) rfl (fun ls hl => ?_)
      exact hJ54 (((p1).toInt - ((0 : Int32)).toInt).toNat + 1) 0 0 states_c50 s0_34 z hi_c50 (Nat.lt_succ_self _) (by decide) (eF.trans (by rw [f_X6_pass_c50])) eO _ _ hP hD hS ls (lv_sub hl [2, 3, 1, 0] rfl)
    · rw [if_neg c_3] at eO
      refine lv_iconst (v := 0) hx hb dX6_pass_44 (by decide) ?_
      have e9 : rr = ((0, states, s0_34, z, hi) : Int32 × Int32 × Int32 × (Nat → Int32) × (Nat → Int32)) := eF.trans (by rw [f_X6_pass_j34, if_neg c_3])
      exact W.iret (v := 0) hx hb hr (fun t ht hW => ⟨⟨_, (), rfl, by rw [e9], (by rw [e9]; show va_P _ _ _ t.heap; rw [ht]; exact hP)⟩, hS.F ht⟩) hS.2.2 dX6_pass_45
  rw [o_X6_pass] at eO
  refine lv_aload_n hx hb dX6_pass_0 rfl (lv_at hl 0 rfl) ?_
  refine lv_iload_n hx hb dX6_pass_1 rfl (lv_at hl 1 rfl) ?_
  refine lv_iconst (v := 1) hx hb dX6_pass_2 (by decide) ?_
  refine lv_bipush (v := 60) hx hb dX6_pass_3 (by decide) ?_
  refine vm_roSx (v := vm_bi (f_X6_within p1 1 60)) (As := [.int p1, .int 1, .int 60]) (rest := [.ref h0]) ⟨hx, hb, hml, hown, hts⟩ hK hN hP hl.1 ⟨Nat.le_of_ble_eq_true rfl, Nat.le_of_ble_eq_true rfl⟩ (c_X6_within l dC dI cI cB p1 1 60) (va_cwS 3 hts gX6_pass_X6_within rfl rfl rfl yd_X6_within ⟨Nat.le_of_ble_eq_true rfl, Nat.le_of_ble_eq_true rfl⟩) rfl rfl (Nat.le_of_ble_eq_true rfl) dX6_pass_5 ?_
  refine lv_if_ne (tgt := 15) hx hb dX6_pass_8 (by decide) (fun c_5 => ?_) (fun c_5 => ?_)
  · rw [if_neg c_5] at eO
    refine lv_aload_n hx hb dX6_pass_15 rfl (lv_at hl 0 rfl) ?_
    refine va_get (D := (dC, dI)) (ci := 6) (v := .ref h1) (C := RX6) (T := TX6) (N := 11) hx hb hts iwsX60 hown hK hP 0 rfl rfl 0 (by decide) kw1 (fun _ h9 => h9) rfl dX6_pass_16 ?_
    refine lv_iconst (v := 2) hx hb dX6_pass_19 (by decide) ?_
    refine va_iald hx hb hK hP 1 0 rfl rfl (by unfold vp_in; decide) dX6_pass_20 ?_
    refine lv_iload_n hx hb dX6_pass_21 rfl (lv_at hl 1 rfl) ?_
    refine lv_iadd hx hb dX6_pass_22 ?_
    refine lv_sipush (v := 5000) hx hb dX6_pass_23 (by decide) ?_
    refine lv_icmp_le (tgt := 33) hx hb dX6_pass_26 (by decide) (fun c_6 => ?_) (fun c_6 => ?_)
    · rw [if_pos c_6] at eO
      refine lv_iconst (v := 0) hx hb dX6_pass_33 (by decide) ?_
      exact hJ34 0 (eF.trans (by rw [f_X6_pass, if_neg c_5, if_pos c_6])) eO _ _ hP hD hS ls (lv_sub hl [0, 1] rfl)
    · rw [if_neg c_6] at eO
      refine lv_iconst (v := 2) hx hb dX6_pass_29 (by decide) ?_
      refine lv_goto (tgt := 34) hx hb dX6_pass_30 (by decide) ?_
      exact hJ34 2 (eF.trans (by rw [f_X6_pass, if_neg c_5, if_neg c_6])) eO _ _ hP hD hS ls (lv_sub hl [0, 1] rfl)
  · rw [if_pos c_5] at eO
    refine lv_iconst (v := 1) hx hb dX6_pass_11 (by decide) ?_
    refine lv_goto (tgt := 34) hx hb dX6_pass_12 (by decide) ?_
    exact hJ34 1 (eF.trans (by rw [f_X6_pass, if_pos c_5])) eO _ _ hP hD hS ls (lv_sub hl [0, 1] rfl)

def f_X6_isSetting (p1 : Int32) : Bool :=
  (f_X6_within p1 0 1)
theorem yd_X6_isSetting : yX6_isSetting.cls ≠ "java/lang/invoke/MethodHandle" ∧ yX6_isSetting.cls ≠ "java/lang/invoke/VarHandle" ∧ (parseMethodDescriptor yX6_isSetting.desc).map (fun d => d.parameters.length) = some 1 := by decide +kernel
set_option maxHeartbeats 4000000 in
set_option maxRecDepth 100000 in
theorem c_X6_isSetting (l : Launch) (dC : Nat → ClassId) (dI : Nat → Nat → Nat) (cI cB : ClassId) (p1 : Int32) : Met l yX6_isSetting wsX6_isSetting ({ frames := 1, cells := 0, slots := 0, locals := 22 }) (vm_pre [.int p1] (dC, dI) [] cI cB) (vp_Si (fun r9 : Int32 => r9 = vm_bi (f_X6_isSetting p1))) 0 0 (fun _ => False) := by
  refine Met.ofW (cc := cX6_isSetting) (maxL := 1) (ret := (some .boolean)) (by decide) rfl ?_
  intro p e s m args below meth c s₁ B hml hv
  obtain ⟨rfl, hP, hK, hN⟩ := hv
  have hx := B.exec
  have hb := B.bytes
  have hr := B.returns
  have hts := atoms_spec (ws := wsX6_isSetting) B.pre
  have hown : s.vm.findClass RX6 = some m.cls := findClass_of_methodNamed B.named
  have hlocks := B.notSynchronized
  generalize hrr : f_X6_isSetting p1 = rr
  have eF := hrr.symm
  have hl := lv_entry ([.int p1]) (n := 1) (Nat.le_of_ble_eq_true rfl)
  rw [lg_entry_eq]
  generalize (lg_sl ([.int p1]) ++ List.replicate (1 - (lg_sl ([.int p1])).length) Slot.unset).toArray = ls at hl ⊢
  have hl : lv_has ls 1 [(0, .int p1)] := hl
  refine lv_iload_n hx hb dX6_isSetting_0 rfl (lv_at hl 0 rfl) ?_
  refine lv_iconst (v := 0) hx hb dX6_isSetting_1 (by decide) ?_
  refine lv_iconst (v := 1) hx hb dX6_isSetting_2 (by decide) ?_
  refine vm_roSx (v := vm_bi (f_X6_within p1 0 1)) (As := [.int p1, .int 0, .int 1]) (rest := []) ⟨hx, hb, hml, hown, hts⟩ hK hN hP hl.1 ⟨Nat.le_of_ble_eq_true rfl, Nat.le_of_ble_eq_true rfl⟩ (c_X6_within l dC dI cI cB p1 0 1) (va_cwS 3 hts gX6_isSetting_X6_within rfl rfl rfl yd_X6_within ⟨Nat.le_of_ble_eq_true rfl, Nat.le_of_ble_eq_true rfl⟩) rfl rfl (Nat.le_of_ble_eq_true rfl) dX6_isSetting_3 ?_
  have e9 : rr = (f_X6_within p1 0 1) := eF.trans (by rw [f_X6_isSetting])
  exact W.zret (v := vm_bi (f_X6_within p1 0 1)) hx hb hr (vm_bi_nw _) (fun t ht hW => ⟨_, rfl, by rw [e9] <;> rfl, ht⟩) (fun _ hq => by cases hq) dX6_isSetting_6

def f_X6_set_c62 (z : Nat → Int32) (p1 : Int32) (p2 : Int32) (s0_46 : Int32) (states_c62 : Int32) (hi_c62 : Nat → Int32) : Int32 × Int32 × Int32 × (Nat → Int32) × (Nat → Int32) :=
  ((z (Int32.toNatClampNeg p1)), states_c62, s0_46, (upd z (Int32.toNatClampNeg p1) p2), hi_c62)
def f_X6_set_j46 (states : Int32) (z : Nat → Int32) (hi : Nat → Int32) (p1 : Int32) (p2 : Int32) (s0_46 : Int32) : Int32 × Int32 × Int32 × (Nat → Int32) × (Nat → Int32) :=
  if s0_46 ≤ 0 then
    f_X6_set_c62 z p1 p2 s0_46 ((f_X6_save states z hi).1) ((f_X6_save states z hi).2)
  else
    (0, states, s0_46, z, hi)
def f_X6_set_j41 (states : Int32) (z : Nat → Int32) (hi : Nat → Int32) (p1 : Int32) (p2 : Int32) : Int32 × Int32 × Int32 × (Nat → Int32) × (Nat → Int32) :=
  f_X6_set_j46 states z hi p1 p2 0
def f_X6_set_j45 (states : Int32) (z : Nat → Int32) (hi : Nat → Int32) (p1 : Int32) (p2 : Int32) : Int32 × Int32 × Int32 × (Nat → Int32) × (Nat → Int32) :=
  f_X6_set_j46 states z hi p1 p2 2
def f_X6_set_j26 (states : Int32) (z : Nat → Int32) (hi : Nat → Int32) (p1 : Int32) (p2 : Int32) : Int32 × Int32 × Int32 × (Nat → Int32) × (Nat → Int32) :=
  if p1 = 1 then
    if (vm_bi (f_X6_within p2 1 12)) = 0 then
      f_X6_set_j45 states z hi p1 p2
    else
      f_X6_set_j41 states z hi p1 p2
  else
    f_X6_set_j45 states z hi p1 p2
def f_X6_set (states : Int32) (z : Nat → Int32) (hi : Nat → Int32) (p1 : Int32) (p2 : Int32) : Int32 × Int32 × Int32 × (Nat → Int32) × (Nat → Int32) :=
  if (vm_bi (f_X6_isSetting p1)) = 0 then
    f_X6_set_j46 states z hi p1 p2 1
  else
    if p1 = 0 then
      if (vm_bi (f_X6_within p2 0 30)) = 0 then
        f_X6_set_j26 states z hi p1 p2
      else
        f_X6_set_j41 states z hi p1 p2
    else
      f_X6_set_j26 states z hi p1 p2
def o_X6_set_c62 (z : Nat → Int32) (p1 : Int32) (p2 : Int32) (s0_46 : Int32) (states_c62 : Int32) (hi_c62 : Nat → Int32) : Prop :=
  vp_in p1 163 ∧
  (vp_in p1 163 ∧
  (True))
def o_X6_set_j46 (states : Int32) (z : Nat → Int32) (hi : Nat → Int32) (p1 : Int32) (p2 : Int32) (s0_46 : Int32) : Prop :=
  if s0_46 ≤ 0 then
    o_X6_save states z hi ∧
    (o_X6_set_c62 z p1 p2 s0_46 ((f_X6_save states z hi).1) ((f_X6_save states z hi).2))
  else
    True
def o_X6_set_j41 (states : Int32) (z : Nat → Int32) (hi : Nat → Int32) (p1 : Int32) (p2 : Int32) : Prop :=
  o_X6_set_j46 states z hi p1 p2 0
def o_X6_set_j45 (states : Int32) (z : Nat → Int32) (hi : Nat → Int32) (p1 : Int32) (p2 : Int32) : Prop :=
  o_X6_set_j46 states z hi p1 p2 2
def o_X6_set_j26 (states : Int32) (z : Nat → Int32) (hi : Nat → Int32) (p1 : Int32) (p2 : Int32) : Prop :=
  if p1 = 1 then
    if (vm_bi (f_X6_within p2 1 12)) = 0 then
      o_X6_set_j45 states z hi p1 p2
    else
      o_X6_set_j41 states z hi p1 p2
  else
    o_X6_set_j45 states z hi p1 p2
def o_X6_set (states : Int32) (z : Nat → Int32) (hi : Nat → Int32) (p1 : Int32) (p2 : Int32) : Prop :=
  if (vm_bi (f_X6_isSetting p1)) = 0 then
    o_X6_set_j46 states z hi p1 p2 1
  else
    if p1 = 0 then
      if (vm_bi (f_X6_within p2 0 30)) = 0 then
        o_X6_set_j26 states z hi p1 p2
      else
        o_X6_set_j41 states z hi p1 p2
    else
      o_X6_set_j26 states z hi p1 p2
theorem yd_X6_set : yX6_set.cls = RX6 ∧ yX6_set.cls ≠ "java/lang/invoke/MethodHandle" ∧ yX6_set.cls ≠ "java/lang/invoke/VarHandle" ∧ (parseMethodDescriptor yX6_set.desc).map (fun d => d.parameters.length) = some 2 := by decide +kernel
set_option maxHeartbeats 4000000 in
set_option maxRecDepth 100000 in
theorem c_X6_set (l : Launch) (dC : Nat → ClassId) (dI : Nat → Nat → Nat) (cI cB : ClassId) (h0 h1 h2 h3 h4 : Nat) (sz : Nat) (states : Int32) (ln : Int32) (thr : Int32) (rd : Int32) (num : Int32) (due : Int32) (hash : Int64) (z : Nat → Int32) (hi : Nat → Int32) (tx : Nat → Int32) (pa : Nat → Int32) (p1 : Int32) (p2 : Int32) (eO : o_X6_set states z hi p1 p2) : Met l yX6_set wsX6_set ({ frames := 2, cells := 0, slots := 0, locals := 42 }) (vm_prw [.ref h0, .int p1, .int p2] (dC, dI) [(h0, .inr (6, [.ref h1, .int states, .ref h2, .int ln, .ref h3, .int thr, .ref h4, .int rd, .int num, .int due, .long hash])), (h1, .inl (cI, 163, .inl z)), (h2, .inl (cI, 978, .inl hi)), (h3, .inl (cI, 60, .inl tx)), (h4, .inl (cI, 42, .inl pa))] cI cB sz) (va_Qi (fun (r9 : Int32) (_ : Unit) => r9 = (f_X6_set states z hi p1 p2).1) (fun _ t => va_P (dC, dI) vwCl [(h0, .inr (6, [.ref h1, .int ((f_X6_set states z hi p1 p2).2.1), .ref h2, .int ln, .ref h3, .int ((f_X6_set states z hi p1 p2).2.2.1), .ref h4, .int rd, .int num, .int due, .long hash])), (h1, .inl (cI, 163, .inl ((f_X6_set states z hi p1 p2).2.2.2.1))), (h2, .inl (cI, 978, .inl ((f_X6_set states z hi p1 p2).2.2.2.2))), (h3, .inl (cI, 60, .inl tx)), (h4, .inl (cI, 42, .inl pa))] t.heap) (va_A [(h0, .inr (6, [.ref h1, .int states, .ref h2, .int ln, .ref h3, .int thr, .ref h4, .int rd, .int num, .int due, .long hash])), (h1, .inl (cI, 163, .inl z)), (h2, .inl (cI, 978, .inl hi)), (h3, .inl (cI, 60, .inl tx)), (h4, .inl (cI, 42, .inl pa))] sz)) 0 0 (va_A [(h0, .inr (6, [.ref h1, .int states, .ref h2, .int ln, .ref h3, .int thr, .ref h4, .int rd, .int num, .int due, .long hash])), (h1, .inl (cI, 163, .inl z)), (h2, .inl (cI, 978, .inl hi)), (h3, .inl (cI, 60, .inl tx)), (h4, .inl (cI, 42, .inl pa))] sz) := by
  refine Met.ofW (cc := cX6_set) (maxL := 4) (ret := (some .int)) (by decide) rfl ?_
  intro p e s m args below meth c s₁ B hml hv
  obtain ⟨rfl, hsz, hP, hK, hN, hD0⟩ := hv
  have hx := B.exec
  have hb := B.bytes
  have hr := B.returns
  have hts := atoms_spec (ws := wsX6_set) B.pre
  have hown : s.vm.findClass RX6 = some m.cls := findClass_of_methodNamed B.named
  have hlocks := B.notSynchronized
  subst hsz
  have hD := hD0.self (sz := s.heap.size)
  generalize hAe : va_A [(h0, .inr (6, [.ref h1, .int states, .ref h2, .int ln, .ref h3, .int thr, .ref h4, .int rd, .int num, .int due, .long hash])), (h1, .inl (cI, 163, .inl z)), (h2, .inl (cI, 978, .inl hi)), (h3, .inl (cI, 60, .inl tx)), (h4, .inl (cI, 42, .inl pa))] s.heap.size = A at hD ⊢
  have hA : ∀ q : Nat, s.heap.size ≤ q → A q := fun q h => by rw [← hAe]; exact Or.inr h
  have hS : va_S A s.heap s.heap [] := va_S.rf
  have hP : va_P (dC, dI) vwCl [(h0, .inr (6, [.ref h1, .int states, .ref h2, .int ln, .ref h3, .int thr, .ref h4, .int rd, .int num, .int due, .long hash])), (h1, .inl (cI, 163, .inl z)), (h2, .inl (cI, 978, .inl hi)), (h3, .inl (cI, 60, .inl tx)), (h4, .inl (cI, 42, .inl pa))] s.heap := hP
  have kw1 := hts (.fieldLink RX6 22 "LapseMandatesModel" "thrown" "I") (List.mem_of_getElem? (i := 1) rfl)
  have kw2 := hts (.fieldLink RX6 7 "LapseMandatesModel" "z" "[I") (List.mem_of_getElem? (i := 2) rfl)
  have iwsX60 : ∀ w ∈ wsX60, w ∈ wsX6_set := fun w h => List.mem_cons_of_mem _ (List.mem_append_right _ h)
  generalize hrr : f_X6_set states z hi p1 p2 = rr
  have eF := hrr.symm
  have hl := lv_entry ([.ref h0, .int p1, .int p2]) (n := 4) (Nat.le_of_ble_eq_true rfl)
  rw [lg_entry_eq]
  generalize (lg_sl ([.ref h0, .int p1, .int p2]) ++ List.replicate (4 - (lg_sl ([.ref h0, .int p1, .int p2])).length) Slot.unset).toArray = ls at hl ⊢
  have hl : lv_has ls 4 [(0, .ref h0), (1, .int p1), (2, .int p2)] := hl
  have hJ46 : ∀ (s0_46 : Int32), rr = f_X6_set_j46 states z hi p1 p2 s0_46 → o_X6_set_j46 states z hi p1 p2 s0_46 → ∀ (H : Heap) (locs : List Loc), va_P (dC, dI) vwCl [(h0, .inr (6, [.ref h1, .int states, .ref h2, .int ln, .ref h3, .int thr, .ref h4, .int rd, .int num, .int due, .long hash])), (h1, .inl (cI, 163, .inl z)), (h2, .inl (cI, 978, .inl hi)), (h3, .inl (cI, 60, .inl tx)), (h4, .inl (cI, 42, .inl pa))] H → va_D A [(h0, .inr (6, [.ref h1, .int states, .ref h2, .int ln, .ref h3, .int thr, .ref h4, .int rd, .int num, .int due, .long hash])), (h1, .inl (cI, 163, .inl z)), (h2, .inl (cI, 978, .inl hi)), (h3, .inl (cI, 60, .inl tx)), (h4, .inl (cI, 42, .inl pa))] → va_S A s.heap H locs → ∀ (ls : Array Slot), lv_has ls 4 [(0, .ref h0), (1, .int p1), (2, .int p2)] → W p l e (headSpec wsX6_set ({ frames := 2, cells := 0, slots := 0, locals := 42 })).room s m ([.ref h0, .int p1, .int p2] : List Value).toArray below meth c H locs 0 0 (MQ below (va_Qi (fun (r9 : Int32) (_ : Unit) => r9 = rr.1) (fun _ t => va_P (dC, dI) vwCl [(h0, .inr (6, [.ref h1, .int rr.2.1, .ref h2, .int ln, .ref h3, .int rr.2.2.1, .ref h4, .int rd, .int num, .int due, .long hash])), (h1, .inl (cI, 163, .inl rr.2.2.2.1)), (h2, .inl (cI, 978, .inl rr.2.2.2.2)), (h3, .inl (cI, 60, .inl tx)), (h4, .inl (cI, 42, .inl pa))] t.heap) A) ([.ref h0, .int p1, .int p2] : List Value).toArray s 0 0 A) (F0 m 46 ls [.int s0_46, .ref h0]) := by
    intro s0_46 eF eO H locs hP hD hS ls hl
    rw [o_X6_set_j46] at eO
    refine va_put (D := (dC, dI)) (ci := 6) (v := .int s0_46) (ty := .int) (C := RX6) (T := TX6) (N := 11) hx hb hts iwsX60 tyX6 tyX6_ok nmX6 hown hK hP hD hS 0 rfl rfl 5 (by decide) kw1 (fun _ h9 => h9) rfl (by decide +kernel) rfl rfl (Nat.le_of_ble_eq_true rfl) dX6_set_46 (fun H locs hP hD hS => ?_)
    have hP : va_P (dC, dI) vwCl [(h0, .inr (6, [.ref h1, .int states, .ref h2, .int ln, .ref h3, .int s0_46, .ref h4, .int rd, .int num, .int due, .long hash])), (h1, .inl (cI, 163, .inl z)), (h2, .inl (cI, 978, .inl hi)), (h3, .inl (cI, 60, .inl tx)), (h4, .inl (cI, 42, .inl pa))] H := hP
    have hD : va_D A [(h0, .inr (6, [.ref h1, .int states, .ref h2, .int ln, .ref h3, .int s0_46, .ref h4, .int rd, .int num, .int due, .long hash])), (h1, .inl (cI, 163, .inl z)), (h2, .inl (cI, 978, .inl hi)), (h3, .inl (cI, 60, .inl tx)), (h4, .inl (cI, 42, .inl pa))] := hD
    refine lv_aload_n hx hb dX6_set_49 rfl (lv_at hl 0 rfl) ?_
    refine va_get (D := (dC, dI)) (ci := 6) (v := .int s0_46) (C := RX6) (T := TX6) (N := 11) hx hb hts iwsX60 hown hK hP 0 rfl rfl 5 (by decide) kw1 (fun _ h9 => h9) rfl dX6_set_50 ?_
    refine lv_if_le (tgt := 58) hx hb dX6_set_53 (by decide) (fun c_1 => ?_) (fun c_1 => ?_)
    · rw [if_pos c_1] at eO
      refine lv_aload_n hx hb dX6_set_58 rfl (lv_at hl 0 rfl) ?_
      obtain ⟨hv_2, eO⟩ := eO
      refine vm_rwVv (As := []) (rest := []) (T := TX6) (N := 11) (wc := [(h0, .inr (6, [.ref h1, .int states, .ref h2, .int ln, .ref h3, .int s0_46, .ref h4, .int rd, .int num, .int due, .long hash])), (h1, .inl (cI, 163, .inl z)), (h2, .inl (cI, 978, .inl hi)), (h3, .inl (cI, 60, .inl tx)), (h4, .inl (cI, 42, .inl pa))]) (w1 := [(h0, .inr (6, [.ref h1, .int ((f_X6_save states z hi).1), .ref h2, .int ln, .ref h3, .int s0_46, .ref h4, .int rd, .int num, .int due, .long hash])), (h1, .inl (cI, 163, .inl z)), (h2, .inl (cI, 978, .inl ((f_X6_save states z hi).2))), (h3, .inl (cI, 60, .inl tx)), (h4, .inl (cI, 42, .inl pa))]) ⟨hx, hb, hml, hown, hts⟩ hK hN hP hD hS hA hl.1 ⟨Nat.le_of_ble_eq_true rfl, Nat.le_of_ble_eq_true rfl⟩ (c_X6_save l dC dI cI cB h0 h1 h2 h3 h4 _ states ln s0_46 rd num due hash z hi tx pa hv_2) (cwV 0 hts gX6_set_X6_save rfl rfl rfl yd_X6_save ⟨Nat.le_of_ble_eq_true rfl, Nat.le_of_ble_eq_true rfl⟩) [0, 1, 2, 3, 4] rfl rfl rfl 6 rfl rfl rfl rfl (Nat.le_of_ble_eq_true rfl) dX6_set_59 (fun H locs hP hD hS => ?_)
      have hP : va_P (dC, dI) vwCl [(h0, .inr (6, [.ref h1, .int ((f_X6_save states z hi).1), .ref h2, .int ln, .ref h3, .int s0_46, .ref h4, .int rd, .int num, .int due, .long hash])), (h1, .inl (cI, 163, .inl z)), (h2, .inl (cI, 978, .inl ((f_X6_save states z hi).2))), (h3, .inl (cI, 60, .inl tx)), (h4, .inl (cI, 42, .inl pa))] H := hP
      have hD : va_D A [(h0, .inr (6, [.ref h1, .int ((f_X6_save states z hi).1), .ref h2, .int ln, .ref h3, .int s0_46, .ref h4, .int rd, .int num, .int due, .long hash])), (h1, .inl (cI, 163, .inl z)), (h2, .inl (cI, 978, .inl ((f_X6_save states z hi).2))), (h3, .inl (cI, 60, .inl tx)), (h4, .inl (cI, 42, .inl pa))] := hD
      obtain ⟨states_c62, estates_c62⟩ : ∃ zz9, zz9 = (f_X6_save states z hi).1 := ⟨_, rfl⟩
      rw [← estates_c62] at hP hD
      obtain ⟨hi_c62, ehi_c62⟩ : ∃ zz9, zz9 = (f_X6_save states z hi).2 := ⟨_, rfl⟩
      rw [← ehi_c62] at hP hD
      have eF : rr = f_X6_set_c62 z p1 p2 s0_46 states_c62 hi_c62 := eF.trans (by rw [f_X6_set_j46, if_pos c_1, estates_c62, ehi_c62])
      have eO : o_X6_set_c62 z p1 p2 s0_46 states_c62 hi_c62 := by rw [estates_c62, ehi_c62]; exact eO
      rw [o_X6_set_c62] at eO
      refine lv_aload_n hx hb dX6_set_62 rfl (lv_at hl 0 rfl) ?_
      refine va_get (D := (dC, dI)) (ci := 6) (v := .ref h1) (C := RX6) (T := TX6) (N := 11) hx hb hts iwsX60 hown hK hP 0 rfl rfl 0 (by decide) kw2 (fun _ h9 => h9) rfl dX6_set_63 ?_
      refine lv_iload_n hx hb dX6_set_66 rfl (lv_at hl 1 rfl) ?_
      obtain ⟨hv_3, eO⟩ := eO
      refine va_iald hx hb hK hP 1 0 rfl rfl hv_3 dX6_set_67 ?_
      refine lv_istore_n (lv' := [(3, .int (z (Int32.toNatClampNeg p1))), (0, .ref h0), (1, .int p1), (2, .int p2)]) hx hb dX6_set_68 rfl hl (by decide) rfl (fun ls hl => ?_)
      refine lv_aload_n hx hb dX6_set_69 rfl (lv_at hl 1 rfl) ?_
      refine va_get (D := (dC, dI)) (ci := 6) (v := .ref h1) (C := RX6) (T := TX6) (N := 11) hx hb hts iwsX60 hown hK hP 0 rfl rfl 0 (by decide) kw2 (fun _ h9 => h9) rfl dX6_set_70 ?_
      refine lv_iload_n hx hb dX6_set_73 rfl (lv_at hl 2 rfl) ?_
      refine lv_iload_n hx hb dX6_set_74 rfl (lv_at hl 3 rfl) ?_
      obtain ⟨hv_4, eO⟩ := eO
      refine va_iast hx hb hK hP hD hS 1 0 rfl rfl hv_4 dX6_set_75 (fun H locs hP hD hS => ?_)
      have hP : va_P (dC, dI) vwCl [(h0, .inr (6, [.ref h1, .int states_c62, .ref h2, .int ln, .ref h3, .int s0_46, .ref h4, .int rd, .int num, .int due, .long hash])), (h1, .inl (cI, 163, .inl (upd z (Int32.toNatClampNeg p1) p2))), (h2, .inl (cI, 978, .inl hi_c62)), (h3, .inl (cI, 60, .inl tx)), (h4, .inl (cI, 42, .inl pa))] H := hP
      have hD : va_D A [(h0, .inr (6, [.ref h1, .int states_c62, .ref h2, .int ln, .ref h3, .int s0_46, .ref h4, .int rd, .int num, .int due, .long hash])), (h1, .inl (cI, 163, .inl (upd z (Int32.toNatClampNeg p1) p2))), (h2, .inl (cI, 978, .inl hi_c62)), (h3, .inl (cI, 60, .inl tx)), (h4, .inl (cI, 42, .inl pa))] := hD
      refine lv_iload_n hx hb dX6_set_76 rfl (lv_at hl 0 rfl) ?_
      have e9 : rr = (((z (Int32.toNatClampNeg p1)), states_c62, s0_46, (upd z (Int32.toNatClampNeg p1) p2), hi_c62) : Int32 × Int32 × Int32 × (Nat → Int32) × (Nat → Int32)) := eF.trans (by rw [f_X6_set_c62])
      exact W.iret (v := (z (Int32.toNatClampNeg p1))) hx hb hr (fun t ht hW => ⟨⟨_, (), rfl, by rw [e9], (by rw [e9]; show va_P _ _ _ t.heap; rw [ht]; exact hP)⟩, hS.F ht⟩) hS.2.2 dX6_set_77
    · rw [if_neg c_1] at eO
      refine lv_iconst (v := 0) hx hb dX6_set_56 (by decide) ?_
      have e9 : rr = ((0, states, s0_46, z, hi) : Int32 × Int32 × Int32 × (Nat → Int32) × (Nat → Int32)) := eF.trans (by rw [f_X6_set_j46, if_neg c_1])
      exact W.iret (v := 0) hx hb hr (fun t ht hW => ⟨⟨_, (), rfl, by rw [e9], (by rw [e9]; show va_P _ _ _ t.heap; rw [ht]; exact hP)⟩, hS.F ht⟩) hS.2.2 dX6_set_57
  have hJ45 : rr = f_X6_set_j45 states z hi p1 p2 → o_X6_set_j45 states z hi p1 p2 → ∀ (H : Heap) (locs : List Loc), va_P (dC, dI) vwCl [(h0, .inr (6, [.ref h1, .int states, .ref h2, .int ln, .ref h3, .int thr, .ref h4, .int rd, .int num, .int due, .long hash])), (h1, .inl (cI, 163, .inl z)), (h2, .inl (cI, 978, .inl hi)), (h3, .inl (cI, 60, .inl tx)), (h4, .inl (cI, 42, .inl pa))] H → va_D A [(h0, .inr (6, [.ref h1, .int states, .ref h2, .int ln, .ref h3, .int thr, .ref h4, .int rd, .int num, .int due, .long hash])), (h1, .inl (cI, 163, .inl z)), (h2, .inl (cI, 978, .inl hi)), (h3, .inl (cI, 60, .inl tx)), (h4, .inl (cI, 42, .inl pa))] → va_S A s.heap H locs → ∀ (ls : Array Slot), lv_has ls 4 [(0, .ref h0), (1, .int p1), (2, .int p2)] → W p l e (headSpec wsX6_set ({ frames := 2, cells := 0, slots := 0, locals := 42 })).room s m ([.ref h0, .int p1, .int p2] : List Value).toArray below meth c H locs 0 0 (MQ below (va_Qi (fun (r9 : Int32) (_ : Unit) => r9 = rr.1) (fun _ t => va_P (dC, dI) vwCl [(h0, .inr (6, [.ref h1, .int rr.2.1, .ref h2, .int ln, .ref h3, .int rr.2.2.1, .ref h4, .int rd, .int num, .int due, .long hash])), (h1, .inl (cI, 163, .inl rr.2.2.2.1)), (h2, .inl (cI, 978, .inl rr.2.2.2.2)), (h3, .inl (cI, 60, .inl tx)), (h4, .inl (cI, 42, .inl pa))] t.heap) A) ([.ref h0, .int p1, .int p2] : List Value).toArray s 0 0 A) (F0 m 45 ls [.ref h0]) := by
    intro eF eO H locs hP hD hS ls hl
    rw [o_X6_set_j45] at eO
    refine lv_iconst (v := 2) hx hb dX6_set_45 (by decide) ?_
    exact hJ46 2 (eF.trans (by rw [f_X6_set_j45])) eO _ _ hP hD hS ls (lv_sub hl [0, 1, 2] rfl)
  have hJ41 : rr = f_X6_set_j41 states z hi p1 p2 → o_X6_set_j41 states z hi p1 p2 → ∀ (H : Heap) (locs : List Loc), va_P (dC, dI) vwCl [(h0, .inr (6, [.ref h1, .int states, .ref h2, .int ln, .ref h3, .int thr, .ref h4, .int rd, .int num, .int due, .long hash])), (h1, .inl (cI, 163, .inl z)), (h2, .inl (cI, 978, .inl hi)), (h3, .inl (cI, 60, .inl tx)), (h4, .inl (cI, 42, .inl pa))] H → va_D A [(h0, .inr (6, [.ref h1, .int states, .ref h2, .int ln, .ref h3, .int thr, .ref h4, .int rd, .int num, .int due, .long hash])), (h1, .inl (cI, 163, .inl z)), (h2, .inl (cI, 978, .inl hi)), (h3, .inl (cI, 60, .inl tx)), (h4, .inl (cI, 42, .inl pa))] → va_S A s.heap H locs → ∀ (ls : Array Slot), lv_has ls 4 [(0, .ref h0), (1, .int p1), (2, .int p2)] → W p l e (headSpec wsX6_set ({ frames := 2, cells := 0, slots := 0, locals := 42 })).room s m ([.ref h0, .int p1, .int p2] : List Value).toArray below meth c H locs 0 0 (MQ below (va_Qi (fun (r9 : Int32) (_ : Unit) => r9 = rr.1) (fun _ t => va_P (dC, dI) vwCl [(h0, .inr (6, [.ref h1, .int rr.2.1, .ref h2, .int ln, .ref h3, .int rr.2.2.1, .ref h4, .int rd, .int num, .int due, .long hash])), (h1, .inl (cI, 163, .inl rr.2.2.2.1)), (h2, .inl (cI, 978, .inl rr.2.2.2.2)), (h3, .inl (cI, 60, .inl tx)), (h4, .inl (cI, 42, .inl pa))] t.heap) A) ([.ref h0, .int p1, .int p2] : List Value).toArray s 0 0 A) (F0 m 41 ls [.ref h0]) := by
    intro eF eO H locs hP hD hS ls hl
    rw [o_X6_set_j41] at eO
    refine lv_iconst (v := 0) hx hb dX6_set_41 (by decide) ?_
    refine lv_goto (tgt := 46) hx hb dX6_set_42 (by decide) ?_
    exact hJ46 0 (eF.trans (by rw [f_X6_set_j41])) eO _ _ hP hD hS ls (lv_sub hl [0, 1, 2] rfl)
  have hJ26 : rr = f_X6_set_j26 states z hi p1 p2 → o_X6_set_j26 states z hi p1 p2 → ∀ (H : Heap) (locs : List Loc), va_P (dC, dI) vwCl [(h0, .inr (6, [.ref h1, .int states, .ref h2, .int ln, .ref h3, .int thr, .ref h4, .int rd, .int num, .int due, .long hash])), (h1, .inl (cI, 163, .inl z)), (h2, .inl (cI, 978, .inl hi)), (h3, .inl (cI, 60, .inl tx)), (h4, .inl (cI, 42, .inl pa))] H → va_D A [(h0, .inr (6, [.ref h1, .int states, .ref h2, .int ln, .ref h3, .int thr, .ref h4, .int rd, .int num, .int due, .long hash])), (h1, .inl (cI, 163, .inl z)), (h2, .inl (cI, 978, .inl hi)), (h3, .inl (cI, 60, .inl tx)), (h4, .inl (cI, 42, .inl pa))] → va_S A s.heap H locs → ∀ (ls : Array Slot), lv_has ls 4 [(0, .ref h0), (1, .int p1), (2, .int p2)] → W p l e (headSpec wsX6_set ({ frames := 2, cells := 0, slots := 0, locals := 42 })).room s m ([.ref h0, .int p1, .int p2] : List Value).toArray below meth c H locs 0 0 (MQ below (va_Qi (fun (r9 : Int32) (_ : Unit) => r9 = rr.1) (fun _ t => va_P (dC, dI) vwCl [(h0, .inr (6, [.ref h1, .int rr.2.1, .ref h2, .int ln, .ref h3, .int rr.2.2.1, .ref h4, .int rd, .int num, .int due, .long hash])), (h1, .inl (cI, 163, .inl rr.2.2.2.1)), (h2, .inl (cI, 978, .inl rr.2.2.2.2)), (h3, .inl (cI, 60, .inl tx)), (h4, .inl (cI, 42, .inl pa))] t.heap) A) ([.ref h0, .int p1, .int p2] : List Value).toArray s 0 0 A) (F0 m 26 ls [.ref h0]) := by
    intro eF eO H locs hP hD hS ls hl
    rw [o_X6_set_j26] at eO
    refine lv_iload_n hx hb dX6_set_26 rfl (lv_at hl 1 rfl) ?_
    refine lv_iconst (v := 1) hx hb dX6_set_27 (by decide) ?_
    refine lv_icmp_ne (tgt := 45) hx hb dX6_set_28 (by decide) (fun c_5 => ?_) (fun c_5 => ?_)
    · rw [if_neg c_5] at eO
      exact hJ45 (eF.trans (by rw [f_X6_set_j26, if_neg c_5])) eO _ _ hP hD hS ls (lv_sub hl [0, 1, 2] rfl)
    · rw [if_pos c_5] at eO
      refine lv_iload_n hx hb dX6_set_31 rfl (lv_at hl 2 rfl) ?_
      refine lv_iconst (v := 1) hx hb dX6_set_32 (by decide) ?_
      refine lv_bipush (v := 12) hx hb dX6_set_33 (by decide) ?_
      refine vm_roSx (v := vm_bi (f_X6_within p2 1 12)) (As := [.int p2, .int 1, .int 12]) (rest := [.ref h0]) ⟨hx, hb, hml, hown, hts⟩ hK hN hP hl.1 ⟨Nat.le_of_ble_eq_true rfl, Nat.le_of_ble_eq_true rfl⟩ (c_X6_within l dC dI cI cB p2 1 12) (va_cwS 3 hts gX6_set_X6_within rfl rfl rfl yd_X6_within ⟨Nat.le_of_ble_eq_true rfl, Nat.le_of_ble_eq_true rfl⟩) rfl rfl (Nat.le_of_ble_eq_true rfl) dX6_set_35 ?_
      refine lv_if_eq (tgt := 45) hx hb dX6_set_38 (by decide) (fun c_6 => ?_) (fun c_6 => ?_)
      · rw [if_pos c_6] at eO
        exact hJ45 (eF.trans (by rw [f_X6_set_j26, if_pos c_5, if_pos c_6])) eO _ _ hP hD hS ls (lv_sub hl [0, 1, 2] rfl)
      · rw [if_neg c_6] at eO
        exact hJ41 (eF.trans (by rw [f_X6_set_j26, if_pos c_5, if_neg c_6])) eO _ _ hP hD hS ls (lv_sub hl [0, 1, 2] rfl)
  rw [o_X6_set] at eO
  refine lv_aload_n hx hb dX6_set_0 rfl (lv_at hl 0 rfl) ?_
  refine lv_iload_n hx hb dX6_set_1 rfl (lv_at hl 1 rfl) ?_
  refine vm_roSx (v := vm_bi (f_X6_isSetting p1)) (As := [.int p1]) (rest := [.ref h0]) ⟨hx, hb, hml, hown, hts⟩ hK hN hP hl.1 ⟨Nat.le_of_ble_eq_true rfl, Nat.le_of_ble_eq_true rfl⟩ (c_X6_isSetting l dC dI cI cB p1) (va_cwS 1 hts gX6_set_X6_isSetting rfl rfl rfl yd_X6_isSetting ⟨Nat.le_of_ble_eq_true rfl, Nat.le_of_ble_eq_true rfl⟩) rfl rfl (Nat.le_of_ble_eq_true rfl) dX6_set_2 ?_
  refine lv_if_ne (tgt := 12) hx hb dX6_set_5 (by decide) (fun c_7 => ?_) (fun c_7 => ?_)
  · rw [if_neg c_7] at eO
    refine lv_iload_n hx hb dX6_set_12 rfl (lv_at hl 1 rfl) ?_
    refine lv_if_ne (tgt := 26) hx hb dX6_set_13 (by decide) (fun c_8 => ?_) (fun c_8 => ?_)
    · rw [if_neg c_8] at eO
      exact hJ26 (eF.trans (by rw [f_X6_set, if_neg c_7, if_neg c_8])) eO _ _ hP hD hS ls (lv_sub hl [0, 1, 2] rfl)
    · rw [if_pos c_8] at eO
      refine lv_iload_n hx hb dX6_set_16 rfl (lv_at hl 2 rfl) ?_
      refine lv_iconst (v := 0) hx hb dX6_set_17 (by decide) ?_
      refine lv_bipush (v := 30) hx hb dX6_set_18 (by decide) ?_
      refine vm_roSx (v := vm_bi (f_X6_within p2 0 30)) (As := [.int p2, .int 0, .int 30]) (rest := [.ref h0]) ⟨hx, hb, hml, hown, hts⟩ hK hN hP hl.1 ⟨Nat.le_of_ble_eq_true rfl, Nat.le_of_ble_eq_true rfl⟩ (c_X6_within l dC dI cI cB p2 0 30) (va_cwS 3 hts gX6_set_X6_within rfl rfl rfl yd_X6_within ⟨Nat.le_of_ble_eq_true rfl, Nat.le_of_ble_eq_true rfl⟩) rfl rfl (Nat.le_of_ble_eq_true rfl) dX6_set_20 ?_
      refine lv_if_ne (tgt := 41) hx hb dX6_set_23 (by decide) (fun c_9 => ?_) (fun c_9 => ?_)
      · rw [if_neg c_9] at eO
        exact hJ41 (eF.trans (by rw [f_X6_set, if_neg c_7, if_pos c_8, if_neg c_9])) eO _ _ hP hD hS ls (lv_sub hl [0, 1, 2] rfl)
      · rw [if_pos c_9] at eO
        exact hJ26 (eF.trans (by rw [f_X6_set, if_neg c_7, if_pos c_8, if_pos c_9])) eO _ _ hP hD hS ls (lv_sub hl [0, 1, 2] rfl)
  · rw [if_pos c_7] at eO
    refine lv_iconst (v := 1) hx hb dX6_set_8 (by decide) ?_
    refine lv_goto (tgt := 46) hx hb dX6_set_9 (by decide) ?_
    exact hJ46 1 (eF.trans (by rw [f_X6_set, if_pos c_7])) eO _ _ hP hD hS ls (lv_sub hl [0, 1, 2] rfl)

def f_X6_append_j30 (ln : Int32) (tx : Nat → Int32) (p1 : Int32) (s0_30 : Int32) : Int32 × Int32 × Int32 × (Nat → Int32) :=
  if s0_30 ≤ 0 then
    ((ln + 1), (ln + 1), s0_30, (upd tx (Int32.toNatClampNeg ln) p1))
  else
    (0, ln, s0_30, tx)
def f_X6_append (ln : Int32) (tx : Nat → Int32) (p1 : Int32) : Int32 × Int32 × Int32 × (Nat → Int32) :=
  if (vm_bi (f_X6_within p1 33 126)) = 0 then
    f_X6_append_j30 ln tx p1 1
  else
    if ln = 60 then
      f_X6_append_j30 ln tx p1 2
    else
      f_X6_append_j30 ln tx p1 0
def o_X6_append_j30 (ln : Int32) (tx : Nat → Int32) (p1 : Int32) (s0_30 : Int32) : Prop :=
  if s0_30 ≤ 0 then
    vp_in ln 60 ∧
    (True)
  else
    True
def o_X6_append (ln : Int32) (tx : Nat → Int32) (p1 : Int32) : Prop :=
  if (vm_bi (f_X6_within p1 33 126)) = 0 then
    o_X6_append_j30 ln tx p1 1
  else
    if ln = 60 then
      o_X6_append_j30 ln tx p1 2
    else
      o_X6_append_j30 ln tx p1 0
theorem yd_X6_append : yX6_append.cls = RX6 ∧ yX6_append.cls ≠ "java/lang/invoke/MethodHandle" ∧ yX6_append.cls ≠ "java/lang/invoke/VarHandle" ∧ (parseMethodDescriptor yX6_append.desc).map (fun d => d.parameters.length) = some 1 := by decide +kernel
set_option maxHeartbeats 4000000 in
set_option maxRecDepth 100000 in
theorem c_X6_append (l : Launch) (dC : Nat → ClassId) (dI : Nat → Nat → Nat) (cI cB : ClassId) (h0 h1 h2 h3 h4 : Nat) (sz : Nat) (states : Int32) (ln : Int32) (thr : Int32) (rd : Int32) (num : Int32) (due : Int32) (hash : Int64) (z : Nat → Int32) (hi : Nat → Int32) (tx : Nat → Int32) (pa : Nat → Int32) (p1 : Int32) (eO : o_X6_append ln tx p1) : Met l yX6_append wsX6_append ({ frames := 1, cells := 0, slots := 0, locals := 22 }) (vm_prw [.ref h0, .int p1] (dC, dI) [(h0, .inr (6, [.ref h1, .int states, .ref h2, .int ln, .ref h3, .int thr, .ref h4, .int rd, .int num, .int due, .long hash])), (h1, .inl (cI, 163, .inl z)), (h2, .inl (cI, 978, .inl hi)), (h3, .inl (cI, 60, .inl tx)), (h4, .inl (cI, 42, .inl pa))] cI cB sz) (va_Qi (fun (r9 : Int32) (_ : Unit) => r9 = (f_X6_append ln tx p1).1) (fun _ t => va_P (dC, dI) vwCl [(h0, .inr (6, [.ref h1, .int states, .ref h2, .int ((f_X6_append ln tx p1).2.1), .ref h3, .int ((f_X6_append ln tx p1).2.2.1), .ref h4, .int rd, .int num, .int due, .long hash])), (h1, .inl (cI, 163, .inl z)), (h2, .inl (cI, 978, .inl hi)), (h3, .inl (cI, 60, .inl ((f_X6_append ln tx p1).2.2.2))), (h4, .inl (cI, 42, .inl pa))] t.heap) (va_A [(h0, .inr (6, [.ref h1, .int states, .ref h2, .int ln, .ref h3, .int thr, .ref h4, .int rd, .int num, .int due, .long hash])), (h1, .inl (cI, 163, .inl z)), (h2, .inl (cI, 978, .inl hi)), (h3, .inl (cI, 60, .inl tx)), (h4, .inl (cI, 42, .inl pa))] sz)) 0 0 (va_A [(h0, .inr (6, [.ref h1, .int states, .ref h2, .int ln, .ref h3, .int thr, .ref h4, .int rd, .int num, .int due, .long hash])), (h1, .inl (cI, 163, .inl z)), (h2, .inl (cI, 978, .inl hi)), (h3, .inl (cI, 60, .inl tx)), (h4, .inl (cI, 42, .inl pa))] sz) := by
  refine Met.ofW (cc := cX6_append) (maxL := 2) (ret := (some .int)) (by decide) rfl ?_
  intro p e s m args below meth c s₁ B hml hv
  obtain ⟨rfl, hsz, hP, hK, hN, hD0⟩ := hv
  have hx := B.exec
  have hb := B.bytes
  have hr := B.returns
  have hts := atoms_spec (ws := wsX6_append) B.pre
  have hown : s.vm.findClass RX6 = some m.cls := findClass_of_methodNamed B.named
  have hlocks := B.notSynchronized
  subst hsz
  have hD := hD0.self (sz := s.heap.size)
  generalize hAe : va_A [(h0, .inr (6, [.ref h1, .int states, .ref h2, .int ln, .ref h3, .int thr, .ref h4, .int rd, .int num, .int due, .long hash])), (h1, .inl (cI, 163, .inl z)), (h2, .inl (cI, 978, .inl hi)), (h3, .inl (cI, 60, .inl tx)), (h4, .inl (cI, 42, .inl pa))] s.heap.size = A at hD ⊢
  have hA : ∀ q : Nat, s.heap.size ≤ q → A q := fun q h => by rw [← hAe]; exact Or.inr h
  have hS : va_S A s.heap s.heap [] := va_S.rf
  have hP : va_P (dC, dI) vwCl [(h0, .inr (6, [.ref h1, .int states, .ref h2, .int ln, .ref h3, .int thr, .ref h4, .int rd, .int num, .int due, .long hash])), (h1, .inl (cI, 163, .inl z)), (h2, .inl (cI, 978, .inl hi)), (h3, .inl (cI, 60, .inl tx)), (h4, .inl (cI, 42, .inl pa))] s.heap := hP
  have kw1 := hts (.fieldLink RX6 139 "LapseMandatesModel" "length" "I") (List.mem_of_getElem? (i := 1) rfl)
  have kw2 := hts (.fieldLink RX6 22 "LapseMandatesModel" "thrown" "I") (List.mem_of_getElem? (i := 2) rfl)
  have kw3 := hts (.fieldLink RX6 16 "LapseMandatesModel" "text" "[I") (List.mem_of_getElem? (i := 3) rfl)
  have iwsX60 : ∀ w ∈ wsX60, w ∈ wsX6_append := fun w h => List.mem_cons_of_mem _ (List.mem_append_right _ h)
  generalize hrr : f_X6_append ln tx p1 = rr
  have eF := hrr.symm
  have hl := lv_entry ([.ref h0, .int p1]) (n := 2) (Nat.le_of_ble_eq_true rfl)
  rw [lg_entry_eq]
  generalize (lg_sl ([.ref h0, .int p1]) ++ List.replicate (2 - (lg_sl ([.ref h0, .int p1])).length) Slot.unset).toArray = ls at hl ⊢
  have hl : lv_has ls 2 [(0, .ref h0), (1, .int p1)] := hl
  have hJ30 : ∀ (s0_30 : Int32), rr = f_X6_append_j30 ln tx p1 s0_30 → o_X6_append_j30 ln tx p1 s0_30 → ∀ (H : Heap) (locs : List Loc), va_P (dC, dI) vwCl [(h0, .inr (6, [.ref h1, .int states, .ref h2, .int ln, .ref h3, .int thr, .ref h4, .int rd, .int num, .int due, .long hash])), (h1, .inl (cI, 163, .inl z)), (h2, .inl (cI, 978, .inl hi)), (h3, .inl (cI, 60, .inl tx)), (h4, .inl (cI, 42, .inl pa))] H → va_D A [(h0, .inr (6, [.ref h1, .int states, .ref h2, .int ln, .ref h3, .int thr, .ref h4, .int rd, .int num, .int due, .long hash])), (h1, .inl (cI, 163, .inl z)), (h2, .inl (cI, 978, .inl hi)), (h3, .inl (cI, 60, .inl tx)), (h4, .inl (cI, 42, .inl pa))] → va_S A s.heap H locs → ∀ (ls : Array Slot), lv_has ls 2 [(0, .ref h0), (1, .int p1)] → W p l e (headSpec wsX6_append ({ frames := 1, cells := 0, slots := 0, locals := 22 })).room s m ([.ref h0, .int p1] : List Value).toArray below meth c H locs 0 0 (MQ below (va_Qi (fun (r9 : Int32) (_ : Unit) => r9 = rr.1) (fun _ t => va_P (dC, dI) vwCl [(h0, .inr (6, [.ref h1, .int states, .ref h2, .int rr.2.1, .ref h3, .int rr.2.2.1, .ref h4, .int rd, .int num, .int due, .long hash])), (h1, .inl (cI, 163, .inl z)), (h2, .inl (cI, 978, .inl hi)), (h3, .inl (cI, 60, .inl rr.2.2.2)), (h4, .inl (cI, 42, .inl pa))] t.heap) A) ([.ref h0, .int p1] : List Value).toArray s 0 0 A) (F0 m 30 ls [.int s0_30, .ref h0]) := by
    intro s0_30 eF eO H locs hP hD hS ls hl
    rw [o_X6_append_j30] at eO
    refine va_put (D := (dC, dI)) (ci := 6) (v := .int s0_30) (ty := .int) (C := RX6) (T := TX6) (N := 11) hx hb hts iwsX60 tyX6 tyX6_ok nmX6 hown hK hP hD hS 0 rfl rfl 5 (by decide) kw2 (fun _ h9 => h9) rfl (by decide +kernel) rfl rfl (Nat.le_of_ble_eq_true rfl) dX6_append_30 (fun H locs hP hD hS => ?_)
    have hP : va_P (dC, dI) vwCl [(h0, .inr (6, [.ref h1, .int states, .ref h2, .int ln, .ref h3, .int s0_30, .ref h4, .int rd, .int num, .int due, .long hash])), (h1, .inl (cI, 163, .inl z)), (h2, .inl (cI, 978, .inl hi)), (h3, .inl (cI, 60, .inl tx)), (h4, .inl (cI, 42, .inl pa))] H := hP
    have hD : va_D A [(h0, .inr (6, [.ref h1, .int states, .ref h2, .int ln, .ref h3, .int s0_30, .ref h4, .int rd, .int num, .int due, .long hash])), (h1, .inl (cI, 163, .inl z)), (h2, .inl (cI, 978, .inl hi)), (h3, .inl (cI, 60, .inl tx)), (h4, .inl (cI, 42, .inl pa))] := hD
    refine lv_aload_n hx hb dX6_append_33 rfl (lv_at hl 0 rfl) ?_
    refine va_get (D := (dC, dI)) (ci := 6) (v := .int s0_30) (C := RX6) (T := TX6) (N := 11) hx hb hts iwsX60 hown hK hP 0 rfl rfl 5 (by decide) kw2 (fun _ h9 => h9) rfl dX6_append_34 ?_
    refine lv_if_le (tgt := 42) hx hb dX6_append_37 (by decide) (fun c_1 => ?_) (fun c_1 => ?_)
    · rw [if_pos c_1] at eO
      refine lv_aload_n hx hb dX6_append_42 rfl (lv_at hl 0 rfl) ?_
      refine va_get (D := (dC, dI)) (ci := 6) (v := .ref h3) (C := RX6) (T := TX6) (N := 11) hx hb hts iwsX60 hown hK hP 0 rfl rfl 4 (by decide) kw3 (fun _ h9 => h9) rfl dX6_append_43 ?_
      refine lv_aload_n hx hb dX6_append_46 rfl (lv_at hl 0 rfl) ?_
      refine va_get (D := (dC, dI)) (ci := 6) (v := .int ln) (C := RX6) (T := TX6) (N := 11) hx hb hts iwsX60 hown hK hP 0 rfl rfl 3 (by decide) kw1 (fun _ h9 => h9) rfl dX6_append_47 ?_
      refine lv_iload_n hx hb dX6_append_50 rfl (lv_at hl 1 rfl) ?_
      obtain ⟨hv_2, eO⟩ := eO
      refine va_iast hx hb hK hP hD hS 3 0 rfl rfl hv_2 dX6_append_51 (fun H locs hP hD hS => ?_)
      have hP : va_P (dC, dI) vwCl [(h0, .inr (6, [.ref h1, .int states, .ref h2, .int ln, .ref h3, .int s0_30, .ref h4, .int rd, .int num, .int due, .long hash])), (h1, .inl (cI, 163, .inl z)), (h2, .inl (cI, 978, .inl hi)), (h3, .inl (cI, 60, .inl (upd tx (Int32.toNatClampNeg ln) p1))), (h4, .inl (cI, 42, .inl pa))] H := hP
      have hD : va_D A [(h0, .inr (6, [.ref h1, .int states, .ref h2, .int ln, .ref h3, .int s0_30, .ref h4, .int rd, .int num, .int due, .long hash])), (h1, .inl (cI, 163, .inl z)), (h2, .inl (cI, 978, .inl hi)), (h3, .inl (cI, 60, .inl (upd tx (Int32.toNatClampNeg ln) p1))), (h4, .inl (cI, 42, .inl pa))] := hD
      refine lv_aload_n hx hb dX6_append_52 rfl (lv_at hl 0 rfl) ?_
      refine lv_dup hx hb dX6_append_53 rfl ?_
      refine va_get (D := (dC, dI)) (ci := 6) (v := .int ln) (C := RX6) (T := TX6) (N := 11) hx hb hts iwsX60 hown hK hP 0 rfl rfl 3 (by decide) kw1 (fun _ h9 => h9) rfl dX6_append_54 ?_
      refine lv_iconst (v := 1) hx hb dX6_append_57 (by decide) ?_
      refine lv_iadd hx hb dX6_append_58 ?_
      refine va_put (D := (dC, dI)) (ci := 6) (v := .int (ln + 1)) (ty := .int) (C := RX6) (T := TX6) (N := 11) hx hb hts iwsX60 tyX6 tyX6_ok nmX6 hown hK hP hD hS 0 rfl rfl 3 (by decide) kw1 (fun _ h9 => h9) rfl (by decide +kernel) rfl rfl (Nat.le_of_ble_eq_true rfl) dX6_append_59 (fun H locs hP hD hS => ?_)
      have hP : va_P (dC, dI) vwCl [(h0, .inr (6, [.ref h1, .int states, .ref h2, .int (ln + 1), .ref h3, .int s0_30, .ref h4, .int rd, .int num, .int due, .long hash])), (h1, .inl (cI, 163, .inl z)), (h2, .inl (cI, 978, .inl hi)), (h3, .inl (cI, 60, .inl (upd tx (Int32.toNatClampNeg ln) p1))), (h4, .inl (cI, 42, .inl pa))] H := hP
      have hD : va_D A [(h0, .inr (6, [.ref h1, .int states, .ref h2, .int (ln + 1), .ref h3, .int s0_30, .ref h4, .int rd, .int num, .int due, .long hash])), (h1, .inl (cI, 163, .inl z)), (h2, .inl (cI, 978, .inl hi)), (h3, .inl (cI, 60, .inl (upd tx (Int32.toNatClampNeg ln) p1))), (h4, .inl (cI, 42, .inl pa))] := hD
      refine lv_aload_n hx hb dX6_append_62 rfl (lv_at hl 0 rfl) ?_
      refine va_get (D := (dC, dI)) (ci := 6) (v := .int (ln + 1)) (C := RX6) (T := TX6) (N := 11) hx hb hts iwsX60 hown hK hP 0 rfl rfl 3 (by decide) kw1 (fun _ h9 => h9) rfl dX6_append_63 ?_
      have e9 : rr = (((ln + 1), (ln + 1), s0_30, (upd tx (Int32.toNatClampNeg ln) p1)) : Int32 × Int32 × Int32 × (Nat → Int32)) := eF.trans (by rw [f_X6_append_j30, if_pos c_1])
      exact W.iret (v := (ln + 1)) hx hb hr (fun t ht hW => ⟨⟨_, (), rfl, by rw [e9], (by rw [e9]; show va_P _ _ _ t.heap; rw [ht]; exact hP)⟩, hS.F ht⟩) hS.2.2 dX6_append_66
    · rw [if_neg c_1] at eO
      refine lv_iconst (v := 0) hx hb dX6_append_40 (by decide) ?_
      have e9 : rr = ((0, ln, s0_30, tx) : Int32 × Int32 × Int32 × (Nat → Int32)) := eF.trans (by rw [f_X6_append_j30, if_neg c_1])
      exact W.iret (v := 0) hx hb hr (fun t ht hW => ⟨⟨_, (), rfl, by rw [e9], (by rw [e9]; show va_P _ _ _ t.heap; rw [ht]; exact hP)⟩, hS.F ht⟩) hS.2.2 dX6_append_41
  rw [o_X6_append] at eO
  refine lv_aload_n hx hb dX6_append_0 rfl (lv_at hl 0 rfl) ?_
  refine lv_iload_n hx hb dX6_append_1 rfl (lv_at hl 1 rfl) ?_
  refine lv_bipush (v := 33) hx hb dX6_append_2 (by decide) ?_
  refine lv_bipush (v := 126) hx hb dX6_append_4 (by decide) ?_
  refine vm_roSx (v := vm_bi (f_X6_within p1 33 126)) (As := [.int p1, .int 33, .int 126]) (rest := [.ref h0]) ⟨hx, hb, hml, hown, hts⟩ hK hN hP hl.1 ⟨Nat.le_of_ble_eq_true rfl, Nat.le_of_ble_eq_true rfl⟩ (c_X6_within l dC dI cI cB p1 33 126) (va_cwS 3 hts gX6_append_X6_within rfl rfl rfl yd_X6_within ⟨Nat.le_of_ble_eq_true rfl, Nat.le_of_ble_eq_true rfl⟩) rfl rfl (Nat.le_of_ble_eq_true rfl) dX6_append_6 ?_
  refine lv_if_ne (tgt := 16) hx hb dX6_append_9 (by decide) (fun c_3 => ?_) (fun c_3 => ?_)
  · rw [if_neg c_3] at eO
    refine lv_aload_n hx hb dX6_append_16 rfl (lv_at hl 0 rfl) ?_
    refine va_get (D := (dC, dI)) (ci := 6) (v := .int ln) (C := RX6) (T := TX6) (N := 11) hx hb hts iwsX60 hown hK hP 0 rfl rfl 3 (by decide) kw1 (fun _ h9 => h9) rfl dX6_append_17 ?_
    refine lv_bipush (v := 60) hx hb dX6_append_20 (by decide) ?_
    refine lv_icmp_ne (tgt := 29) hx hb dX6_append_22 (by decide) (fun c_4 => ?_) (fun c_4 => ?_)
    · rw [if_neg c_4] at eO
      refine lv_iconst (v := 0) hx hb dX6_append_29 (by decide) ?_
      exact hJ30 0 (eF.trans (by rw [f_X6_append, if_neg c_3, if_neg c_4])) eO _ _ hP hD hS ls (lv_sub hl [0, 1] rfl)
    · rw [if_pos c_4] at eO
      refine lv_iconst (v := 2) hx hb dX6_append_25 (by decide) ?_
      refine lv_goto (tgt := 30) hx hb dX6_append_26 (by decide) ?_
      exact hJ30 2 (eF.trans (by rw [f_X6_append, if_neg c_3, if_pos c_4])) eO _ _ hP hD hS ls (lv_sub hl [0, 1] rfl)
  · rw [if_pos c_3] at eO
    refine lv_iconst (v := 1) hx hb dX6_append_12 (by decide) ?_
    refine lv_goto (tgt := 30) hx hb dX6_append_13 (by decide) ?_
    exact hJ30 1 (eF.trans (by rw [f_X6_append, if_pos c_3])) eO _ _ hP hD hS ls (lv_sub hl [0, 1] rfl)

def f_X6_clearBuffer (ln : Int32) : Int32 × Int32 × Int32 :=
  (ln, 0, 0)
theorem yd_X6_clearBuffer : yX6_clearBuffer.cls = RX6 ∧ yX6_clearBuffer.cls ≠ "java/lang/invoke/MethodHandle" ∧ yX6_clearBuffer.cls ≠ "java/lang/invoke/VarHandle" ∧ (parseMethodDescriptor yX6_clearBuffer.desc).map (fun d => d.parameters.length) = some 0 := by decide +kernel
set_option maxHeartbeats 4000000 in
set_option maxRecDepth 100000 in
theorem c_X6_clearBuffer (l : Launch) (dC : Nat → ClassId) (dI : Nat → Nat → Nat) (cI cB : ClassId) (h0 h1 h2 h3 h4 : Nat) (sz : Nat) (states : Int32) (ln : Int32) (thr : Int32) (rd : Int32) (num : Int32) (due : Int32) (hash : Int64) (z : Nat → Int32) (hi : Nat → Int32) (tx : Nat → Int32) (pa : Nat → Int32) : Met l yX6_clearBuffer wsX6_clearBuffer ({ frames := 0, cells := 0, slots := 0, locals := 0 }) (vm_prw [.ref h0] (dC, dI) [(h0, .inr (6, [.ref h1, .int states, .ref h2, .int ln, .ref h3, .int thr, .ref h4, .int rd, .int num, .int due, .long hash])), (h1, .inl (cI, 163, .inl z)), (h2, .inl (cI, 978, .inl hi)), (h3, .inl (cI, 60, .inl tx)), (h4, .inl (cI, 42, .inl pa))] cI cB sz) (va_Qi (fun (r9 : Int32) (_ : Unit) => r9 = (f_X6_clearBuffer ln).1) (fun _ t => va_P (dC, dI) vwCl [(h0, .inr (6, [.ref h1, .int states, .ref h2, .int ((f_X6_clearBuffer ln).2.1), .ref h3, .int ((f_X6_clearBuffer ln).2.2), .ref h4, .int rd, .int num, .int due, .long hash])), (h1, .inl (cI, 163, .inl z)), (h2, .inl (cI, 978, .inl hi)), (h3, .inl (cI, 60, .inl tx)), (h4, .inl (cI, 42, .inl pa))] t.heap) (va_A [(h0, .inr (6, [.ref h1, .int states, .ref h2, .int ln, .ref h3, .int thr, .ref h4, .int rd, .int num, .int due, .long hash])), (h1, .inl (cI, 163, .inl z)), (h2, .inl (cI, 978, .inl hi)), (h3, .inl (cI, 60, .inl tx)), (h4, .inl (cI, 42, .inl pa))] sz)) 0 0 (va_A [(h0, .inr (6, [.ref h1, .int states, .ref h2, .int ln, .ref h3, .int thr, .ref h4, .int rd, .int num, .int due, .long hash])), (h1, .inl (cI, 163, .inl z)), (h2, .inl (cI, 978, .inl hi)), (h3, .inl (cI, 60, .inl tx)), (h4, .inl (cI, 42, .inl pa))] sz) := by
  refine Met.ofW (cc := cX6_clearBuffer) (maxL := 2) (ret := (some .int)) (by decide) rfl ?_
  intro p e s m args below meth c s₁ B hml hv
  obtain ⟨rfl, hsz, hP, hK, hN, hD0⟩ := hv
  have hx := B.exec
  have hb := B.bytes
  have hr := B.returns
  have hts := atoms_spec (ws := wsX6_clearBuffer) B.pre
  have hown : s.vm.findClass RX6 = some m.cls := findClass_of_methodNamed B.named
  have hlocks := B.notSynchronized
  subst hsz
  have hD := hD0.self (sz := s.heap.size)
  generalize hAe : va_A [(h0, .inr (6, [.ref h1, .int states, .ref h2, .int ln, .ref h3, .int thr, .ref h4, .int rd, .int num, .int due, .long hash])), (h1, .inl (cI, 163, .inl z)), (h2, .inl (cI, 978, .inl hi)), (h3, .inl (cI, 60, .inl tx)), (h4, .inl (cI, 42, .inl pa))] s.heap.size = A at hD ⊢
  have hA : ∀ q : Nat, s.heap.size ≤ q → A q := fun q h => by rw [← hAe]; exact Or.inr h
  have hS : va_S A s.heap s.heap [] := va_S.rf
  have hP : va_P (dC, dI) vwCl [(h0, .inr (6, [.ref h1, .int states, .ref h2, .int ln, .ref h3, .int thr, .ref h4, .int rd, .int num, .int due, .long hash])), (h1, .inl (cI, 163, .inl z)), (h2, .inl (cI, 978, .inl hi)), (h3, .inl (cI, 60, .inl tx)), (h4, .inl (cI, 42, .inl pa))] s.heap := hP
  have kw1 := hts (.fieldLink RX6 22 "LapseMandatesModel" "thrown" "I") (List.mem_of_getElem? (i := 1) rfl)
  have kw2 := hts (.fieldLink RX6 139 "LapseMandatesModel" "length" "I") (List.mem_of_getElem? (i := 2) rfl)
  have iwsX60 : ∀ w ∈ wsX60, w ∈ wsX6_clearBuffer := fun w h => List.mem_cons_of_mem _ (List.mem_append_right _ h)
  generalize hrr : f_X6_clearBuffer ln = rr
  have eF := hrr.symm
  have hl := lv_entry ([.ref h0]) (n := 2) (Nat.le_of_ble_eq_true rfl)
  rw [lg_entry_eq]
  generalize (lg_sl ([.ref h0]) ++ List.replicate (2 - (lg_sl ([.ref h0])).length) Slot.unset).toArray = ls at hl ⊢
  have hl : lv_has ls 2 [(0, .ref h0)] := hl
  refine lv_aload_n hx hb dX6_clearBuffer_0 rfl (lv_at hl 0 rfl) ?_
  refine lv_iconst (v := 0) hx hb dX6_clearBuffer_1 (by decide) ?_
  refine va_put (D := (dC, dI)) (ci := 6) (v := .int 0) (ty := .int) (C := RX6) (T := TX6) (N := 11) hx hb hts iwsX60 tyX6 tyX6_ok nmX6 hown hK hP hD hS 0 rfl rfl 5 (by decide) kw1 (fun _ h9 => h9) rfl (by decide +kernel) rfl rfl (Nat.le_of_ble_eq_true rfl) dX6_clearBuffer_2 (fun H locs hP hD hS => ?_)
  have hP : va_P (dC, dI) vwCl [(h0, .inr (6, [.ref h1, .int states, .ref h2, .int ln, .ref h3, .int 0, .ref h4, .int rd, .int num, .int due, .long hash])), (h1, .inl (cI, 163, .inl z)), (h2, .inl (cI, 978, .inl hi)), (h3, .inl (cI, 60, .inl tx)), (h4, .inl (cI, 42, .inl pa))] H := hP
  have hD : va_D A [(h0, .inr (6, [.ref h1, .int states, .ref h2, .int ln, .ref h3, .int 0, .ref h4, .int rd, .int num, .int due, .long hash])), (h1, .inl (cI, 163, .inl z)), (h2, .inl (cI, 978, .inl hi)), (h3, .inl (cI, 60, .inl tx)), (h4, .inl (cI, 42, .inl pa))] := hD
  refine lv_aload_n hx hb dX6_clearBuffer_5 rfl (lv_at hl 0 rfl) ?_
  refine va_get (D := (dC, dI)) (ci := 6) (v := .int ln) (C := RX6) (T := TX6) (N := 11) hx hb hts iwsX60 hown hK hP 0 rfl rfl 3 (by decide) kw2 (fun _ h9 => h9) rfl dX6_clearBuffer_6 ?_
  refine lv_istore_n (lv' := [(1, .int ln), (0, .ref h0)]) hx hb dX6_clearBuffer_9 rfl hl (by decide) rfl (fun ls hl => ?_)
  refine lv_aload_n hx hb dX6_clearBuffer_10 rfl (lv_at hl 1 rfl) ?_
  refine lv_iconst (v := 0) hx hb dX6_clearBuffer_11 (by decide) ?_
  refine va_put (D := (dC, dI)) (ci := 6) (v := .int 0) (ty := .int) (C := RX6) (T := TX6) (N := 11) hx hb hts iwsX60 tyX6 tyX6_ok nmX6 hown hK hP hD hS 0 rfl rfl 3 (by decide) kw2 (fun _ h9 => h9) rfl (by decide +kernel) rfl rfl (Nat.le_of_ble_eq_true rfl) dX6_clearBuffer_12 (fun H locs hP hD hS => ?_)
  have hP : va_P (dC, dI) vwCl [(h0, .inr (6, [.ref h1, .int states, .ref h2, .int 0, .ref h3, .int 0, .ref h4, .int rd, .int num, .int due, .long hash])), (h1, .inl (cI, 163, .inl z)), (h2, .inl (cI, 978, .inl hi)), (h3, .inl (cI, 60, .inl tx)), (h4, .inl (cI, 42, .inl pa))] H := hP
  have hD : va_D A [(h0, .inr (6, [.ref h1, .int states, .ref h2, .int 0, .ref h3, .int 0, .ref h4, .int rd, .int num, .int due, .long hash])), (h1, .inl (cI, 163, .inl z)), (h2, .inl (cI, 978, .inl hi)), (h3, .inl (cI, 60, .inl tx)), (h4, .inl (cI, 42, .inl pa))] := hD
  refine lv_iload_n hx hb dX6_clearBuffer_15 rfl (lv_at hl 0 rfl) ?_
  have e9 : rr = ((ln, 0, 0) : Int32 × Int32 × Int32) := eF.trans (by rw [f_X6_clearBuffer])
  exact W.iret (v := ln) hx hb hr (fun t ht hW => ⟨⟨_, (), rfl, by rw [e9], (by rw [e9]; show va_P _ _ _ t.heap; rw [ht]; exact hP)⟩, hS.F ht⟩) hS.2.2 dX6_clearBuffer_16

def f_X6_takesDigit_j82 (rd : Int32) (due : Int32) (pa : Nat → Int32) (x3_82 : Bool) (s0_82 : Int32) : Bool × Int32 × (Nat → Int32) :=
  (x3_82, s0_82, (upd pa (Int32.toNatClampNeg ((3 * rd) + due)) s0_82))
def f_X6_takesDigit_j68 (rd : Int32) (num : Int32) (due : Int32) (pa : Nat → Int32) (x2_68 : Int32) (s0_68 : Bool) : Bool × Int32 × (Nat → Int32) :=
  if (vm_bi s0_68) = 0 then
    f_X6_takesDigit_j82 rd due pa s0_68 num
  else
    f_X6_takesDigit_j82 rd due pa s0_68 x2_68
def f_X6_takesDigit_j63 (rd : Int32) (num : Int32) (due : Int32) (pa : Nat → Int32) (x2_63 : Int32) : Bool × Int32 × (Nat → Int32) :=
  f_X6_takesDigit_j68 rd num due pa x2_63 true
def f_X6_takesDigit_j67 (rd : Int32) (num : Int32) (due : Int32) (pa : Nat → Int32) (x2_67 : Int32) : Bool × Int32 × (Nat → Int32) :=
  f_X6_takesDigit_j68 rd num due pa x2_67 false
def f_X6_takesDigit_j21 (rd : Int32) (num : Int32) (due : Int32) (pa : Nat → Int32) (p1 : Int32) (s0_21 : Int32) : Bool × Int32 × (Nat → Int32) :=
  if (vm_bi (f_X6_within p1 0 9)) = 0 then
    f_X6_takesDigit_j67 rd num due pa s0_21
  else
    if num = 0 then
      f_X6_takesDigit_j67 rd num due pa s0_21
    else
      if due = 1 then
        if 12 ≤ s0_21 then
          f_X6_takesDigit_j67 rd num due pa s0_21
        else
          f_X6_takesDigit_j63 rd num due pa s0_21
      else
        if (vm_bi (f_X6_isMoney s0_21)) = 0 then
          f_X6_takesDigit_j67 rd num due pa s0_21
        else
          f_X6_takesDigit_j63 rd num due pa s0_21
def f_X6_takesDigit (rd : Int32) (num : Int32) (due : Int32) (pa : Nat → Int32) (p1 : Int32) : Bool × Int32 × (Nat → Int32) :=
  if num = (-1) then
    f_X6_takesDigit_j21 rd num due pa p1 p1
  else
    f_X6_takesDigit_j21 rd num due pa p1 ((10 * num) + p1)
def o_X6_takesDigit_j82 (rd : Int32) (due : Int32) (pa : Nat → Int32) (x3_82 : Bool) (s0_82 : Int32) : Prop :=
  vp_in ((3 * rd) + due) 42 ∧
  (True)
def o_X6_takesDigit_j68 (rd : Int32) (num : Int32) (due : Int32) (pa : Nat → Int32) (x2_68 : Int32) (s0_68 : Bool) : Prop :=
  if (vm_bi s0_68) = 0 then
    o_X6_takesDigit_j82 rd due pa s0_68 num
  else
    o_X6_takesDigit_j82 rd due pa s0_68 x2_68
def o_X6_takesDigit_j63 (rd : Int32) (num : Int32) (due : Int32) (pa : Nat → Int32) (x2_63 : Int32) : Prop :=
  o_X6_takesDigit_j68 rd num due pa x2_63 true
def o_X6_takesDigit_j67 (rd : Int32) (num : Int32) (due : Int32) (pa : Nat → Int32) (x2_67 : Int32) : Prop :=
  o_X6_takesDigit_j68 rd num due pa x2_67 false
def o_X6_takesDigit_j21 (rd : Int32) (num : Int32) (due : Int32) (pa : Nat → Int32) (p1 : Int32) (s0_21 : Int32) : Prop :=
  if (vm_bi (f_X6_within p1 0 9)) = 0 then
    o_X6_takesDigit_j67 rd num due pa s0_21
  else
    if num = 0 then
      o_X6_takesDigit_j67 rd num due pa s0_21
    else
      if due = 1 then
        if 12 ≤ s0_21 then
          o_X6_takesDigit_j67 rd num due pa s0_21
        else
          o_X6_takesDigit_j63 rd num due pa s0_21
      else
        if (vm_bi (f_X6_isMoney s0_21)) = 0 then
          o_X6_takesDigit_j67 rd num due pa s0_21
        else
          o_X6_takesDigit_j63 rd num due pa s0_21
def o_X6_takesDigit (rd : Int32) (num : Int32) (due : Int32) (pa : Nat → Int32) (p1 : Int32) : Prop :=
  if num = (-1) then
    o_X6_takesDigit_j21 rd num due pa p1 p1
  else
    o_X6_takesDigit_j21 rd num due pa p1 ((10 * num) + p1)
theorem yd_X6_takesDigit : yX6_takesDigit.cls = RX6 ∧ yX6_takesDigit.cls ≠ "java/lang/invoke/MethodHandle" ∧ yX6_takesDigit.cls ≠ "java/lang/invoke/VarHandle" ∧ (parseMethodDescriptor yX6_takesDigit.desc).map (fun d => d.parameters.length) = some 1 := by decide +kernel
set_option maxHeartbeats 4000000 in
set_option maxRecDepth 100000 in
theorem c_X6_takesDigit (l : Launch) (dC : Nat → ClassId) (dI : Nat → Nat → Nat) (cI cB : ClassId) (h0 h1 h2 h3 h4 : Nat) (sz : Nat) (states : Int32) (ln : Int32) (thr : Int32) (rd : Int32) (num : Int32) (due : Int32) (hash : Int64) (z : Nat → Int32) (hi : Nat → Int32) (tx : Nat → Int32) (pa : Nat → Int32) (p1 : Int32) (eO : o_X6_takesDigit rd num due pa p1) : Met l yX6_takesDigit wsX6_takesDigit ({ frames := 2, cells := 0, slots := 0, locals := 42 }) (vm_prw [.ref h0, .int p1] (dC, dI) [(h0, .inr (6, [.ref h1, .int states, .ref h2, .int ln, .ref h3, .int thr, .ref h4, .int rd, .int num, .int due, .long hash])), (h1, .inl (cI, 163, .inl z)), (h2, .inl (cI, 978, .inl hi)), (h3, .inl (cI, 60, .inl tx)), (h4, .inl (cI, 42, .inl pa))] cI cB sz) (va_Qi (fun (r9 : Int32) (_ : Unit) => r9 = vm_bi ((f_X6_takesDigit rd num due pa p1).1)) (fun _ t => va_P (dC, dI) vwCl [(h0, .inr (6, [.ref h1, .int states, .ref h2, .int ln, .ref h3, .int thr, .ref h4, .int rd, .int ((f_X6_takesDigit rd num due pa p1).2.1), .int due, .long hash])), (h1, .inl (cI, 163, .inl z)), (h2, .inl (cI, 978, .inl hi)), (h3, .inl (cI, 60, .inl tx)), (h4, .inl (cI, 42, .inl ((f_X6_takesDigit rd num due pa p1).2.2)))] t.heap) (va_A [(h0, .inr (6, [.ref h1, .int states, .ref h2, .int ln, .ref h3, .int thr, .ref h4, .int rd, .int num, .int due, .long hash])), (h1, .inl (cI, 163, .inl z)), (h2, .inl (cI, 978, .inl hi)), (h3, .inl (cI, 60, .inl tx)), (h4, .inl (cI, 42, .inl pa))] sz)) 0 0 (va_A [(h0, .inr (6, [.ref h1, .int states, .ref h2, .int ln, .ref h3, .int thr, .ref h4, .int rd, .int num, .int due, .long hash])), (h1, .inl (cI, 163, .inl z)), (h2, .inl (cI, 978, .inl hi)), (h3, .inl (cI, 60, .inl tx)), (h4, .inl (cI, 42, .inl pa))] sz) := by
  refine Met.ofW (cc := cX6_takesDigit) (maxL := 4) (ret := (some .boolean)) (by decide) rfl ?_
  intro p e s m args below meth c s₁ B hml hv
  obtain ⟨rfl, hsz, hP, hK, hN, hD0⟩ := hv
  have hx := B.exec
  have hb := B.bytes
  have hr := B.returns
  have hts := atoms_spec (ws := wsX6_takesDigit) B.pre
  have hown : s.vm.findClass RX6 = some m.cls := findClass_of_methodNamed B.named
  have hlocks := B.notSynchronized
  subst hsz
  have hD := hD0.self (sz := s.heap.size)
  generalize hAe : va_A [(h0, .inr (6, [.ref h1, .int states, .ref h2, .int ln, .ref h3, .int thr, .ref h4, .int rd, .int num, .int due, .long hash])), (h1, .inl (cI, 163, .inl z)), (h2, .inl (cI, 978, .inl hi)), (h3, .inl (cI, 60, .inl tx)), (h4, .inl (cI, 42, .inl pa))] s.heap.size = A at hD ⊢
  have hA : ∀ q : Nat, s.heap.size ≤ q → A q := fun q h => by rw [← hAe]; exact Or.inr h
  have hS : va_S A s.heap s.heap [] := va_S.rf
  have hP : va_P (dC, dI) vwCl [(h0, .inr (6, [.ref h1, .int states, .ref h2, .int ln, .ref h3, .int thr, .ref h4, .int rd, .int num, .int due, .long hash])), (h1, .inl (cI, 163, .inl z)), (h2, .inl (cI, 978, .inl hi)), (h3, .inl (cI, 60, .inl tx)), (h4, .inl (cI, 42, .inl pa))] s.heap := hP
  have kw1 := hts (.fieldLink RX6 142 "LapseMandatesModel" "number" "I") (List.mem_of_getElem? (i := 1) rfl)
  have kw2 := hts (.fieldLink RX6 145 "LapseMandatesModel" "due" "I") (List.mem_of_getElem? (i := 2) rfl)
  have kw3 := hts (.fieldLink RX6 19 "LapseMandatesModel" "parts" "[I") (List.mem_of_getElem? (i := 3) rfl)
  have kw4 := hts (.fieldLink RX6 148 "LapseMandatesModel" "read" "I") (List.mem_of_getElem? (i := 4) rfl)
  have iwsX60 : ∀ w ∈ wsX60, w ∈ wsX6_takesDigit := fun w h => List.mem_cons_of_mem _ (List.mem_append_right _ h)
  generalize hrr : f_X6_takesDigit rd num due pa p1 = rr
  have eF := hrr.symm
  have hl := lv_entry ([.ref h0, .int p1]) (n := 4) (Nat.le_of_ble_eq_true rfl)
  rw [lg_entry_eq]
  generalize (lg_sl ([.ref h0, .int p1]) ++ List.replicate (4 - (lg_sl ([.ref h0, .int p1])).length) Slot.unset).toArray = ls at hl ⊢
  have hl : lv_has ls 4 [(0, .ref h0), (1, .int p1)] := hl
  have hJ82 : ∀ (x3_82 : Bool) (s0_82 : Int32), rr = f_X6_takesDigit_j82 rd due pa x3_82 s0_82 → o_X6_takesDigit_j82 rd due pa x3_82 s0_82 → ∀ (H : Heap) (locs : List Loc), va_P (dC, dI) vwCl [(h0, .inr (6, [.ref h1, .int states, .ref h2, .int ln, .ref h3, .int thr, .ref h4, .int rd, .int num, .int due, .long hash])), (h1, .inl (cI, 163, .inl z)), (h2, .inl (cI, 978, .inl hi)), (h3, .inl (cI, 60, .inl tx)), (h4, .inl (cI, 42, .inl pa))] H → va_D A [(h0, .inr (6, [.ref h1, .int states, .ref h2, .int ln, .ref h3, .int thr, .ref h4, .int rd, .int num, .int due, .long hash])), (h1, .inl (cI, 163, .inl z)), (h2, .inl (cI, 978, .inl hi)), (h3, .inl (cI, 60, .inl tx)), (h4, .inl (cI, 42, .inl pa))] → va_S A s.heap H locs → ∀ (ls : Array Slot), lv_has ls 4 [(0, .ref h0), (3, .int (vm_bi x3_82))] → W p l e (headSpec wsX6_takesDigit ({ frames := 2, cells := 0, slots := 0, locals := 42 })).room s m ([.ref h0, .int p1] : List Value).toArray below meth c H locs 0 0 (MQ below (va_Qi (fun (r9 : Int32) (_ : Unit) => r9 = vm_bi rr.1) (fun _ t => va_P (dC, dI) vwCl [(h0, .inr (6, [.ref h1, .int states, .ref h2, .int ln, .ref h3, .int thr, .ref h4, .int rd, .int rr.2.1, .int due, .long hash])), (h1, .inl (cI, 163, .inl z)), (h2, .inl (cI, 978, .inl hi)), (h3, .inl (cI, 60, .inl tx)), (h4, .inl (cI, 42, .inl rr.2.2))] t.heap) A) ([.ref h0, .int p1] : List Value).toArray s 0 0 A) (F0 m 82 ls [.int s0_82, .ref h0]) := by
    intro x3_82 s0_82 eF eO H locs hP hD hS ls hl
    rw [o_X6_takesDigit_j82] at eO
    refine va_put (D := (dC, dI)) (ci := 6) (v := .int s0_82) (ty := .int) (C := RX6) (T := TX6) (N := 11) hx hb hts iwsX60 tyX6 tyX6_ok nmX6 hown hK hP hD hS 0 rfl rfl 8 (by decide) kw1 (fun _ h9 => h9) rfl (by decide +kernel) rfl rfl (Nat.le_of_ble_eq_true rfl) dX6_takesDigit_82 (fun H locs hP hD hS => ?_)
    have hP : va_P (dC, dI) vwCl [(h0, .inr (6, [.ref h1, .int states, .ref h2, .int ln, .ref h3, .int thr, .ref h4, .int rd, .int s0_82, .int due, .long hash])), (h1, .inl (cI, 163, .inl z)), (h2, .inl (cI, 978, .inl hi)), (h3, .inl (cI, 60, .inl tx)), (h4, .inl (cI, 42, .inl pa))] H := hP
    have hD : va_D A [(h0, .inr (6, [.ref h1, .int states, .ref h2, .int ln, .ref h3, .int thr, .ref h4, .int rd, .int s0_82, .int due, .long hash])), (h1, .inl (cI, 163, .inl z)), (h2, .inl (cI, 978, .inl hi)), (h3, .inl (cI, 60, .inl tx)), (h4, .inl (cI, 42, .inl pa))] := hD
    refine lv_aload_n hx hb dX6_takesDigit_85 rfl (lv_at hl 0 rfl) ?_
    refine va_get (D := (dC, dI)) (ci := 6) (v := .ref h4) (C := RX6) (T := TX6) (N := 11) hx hb hts iwsX60 hown hK hP 0 rfl rfl 6 (by decide) kw3 (fun _ h9 => h9) rfl dX6_takesDigit_86 ?_
    refine lv_iconst (v := 3) hx hb dX6_takesDigit_89 (by decide) ?_
    refine lv_aload_n hx hb dX6_takesDigit_90 rfl (lv_at hl 0 rfl) ?_
    refine va_get (D := (dC, dI)) (ci := 6) (v := .int rd) (C := RX6) (T := TX6) (N := 11) hx hb hts iwsX60 hown hK hP 0 rfl rfl 7 (by decide) kw4 (fun _ h9 => h9) rfl dX6_takesDigit_91 ?_
    refine lv_imul hx hb dX6_takesDigit_94 ?_
    refine lv_aload_n hx hb dX6_takesDigit_95 rfl (lv_at hl 0 rfl) ?_
    refine va_get (D := (dC, dI)) (ci := 6) (v := .int due) (C := RX6) (T := TX6) (N := 11) hx hb hts iwsX60 hown hK hP 0 rfl rfl 9 (by decide) kw2 (fun _ h9 => h9) rfl dX6_takesDigit_96 ?_
    refine lv_iadd hx hb dX6_takesDigit_99 ?_
    refine lv_aload_n hx hb dX6_takesDigit_100 rfl (lv_at hl 0 rfl) ?_
    refine va_get (D := (dC, dI)) (ci := 6) (v := .int s0_82) (C := RX6) (T := TX6) (N := 11) hx hb hts iwsX60 hown hK hP 0 rfl rfl 8 (by decide) kw1 (fun _ h9 => h9) rfl dX6_takesDigit_101 ?_
    obtain ⟨hv_1, eO⟩ := eO
    refine va_iast hx hb hK hP hD hS 4 0 rfl rfl hv_1 dX6_takesDigit_104 (fun H locs hP hD hS => ?_)
    have hP : va_P (dC, dI) vwCl [(h0, .inr (6, [.ref h1, .int states, .ref h2, .int ln, .ref h3, .int thr, .ref h4, .int rd, .int s0_82, .int due, .long hash])), (h1, .inl (cI, 163, .inl z)), (h2, .inl (cI, 978, .inl hi)), (h3, .inl (cI, 60, .inl tx)), (h4, .inl (cI, 42, .inl (upd pa (Int32.toNatClampNeg ((3 * rd) + due)) s0_82)))] H := hP
    have hD : va_D A [(h0, .inr (6, [.ref h1, .int states, .ref h2, .int ln, .ref h3, .int thr, .ref h4, .int rd, .int s0_82, .int due, .long hash])), (h1, .inl (cI, 163, .inl z)), (h2, .inl (cI, 978, .inl hi)), (h3, .inl (cI, 60, .inl tx)), (h4, .inl (cI, 42, .inl (upd pa (Int32.toNatClampNeg ((3 * rd) + due)) s0_82)))] := hD
    refine lv_iload_n hx hb dX6_takesDigit_105 rfl (lv_at hl 1 rfl) ?_
    have e9 : rr = ((x3_82, s0_82, (upd pa (Int32.toNatClampNeg ((3 * rd) + due)) s0_82)) : Bool × Int32 × (Nat → Int32)) := eF.trans (by rw [f_X6_takesDigit_j82])
    exact W.zret (v := vm_bi x3_82) hx hb hr (vm_bi_nw _) (fun t ht hW => ⟨⟨_, (), rfl, by rw [e9] <;> rfl, (by rw [e9]; show va_P _ _ _ t.heap; rw [ht]; exact hP)⟩, hS.F ht⟩) hS.2.2 dX6_takesDigit_106
  have hJ68 : ∀ (x2_68 : Int32) (s0_68 : Bool), rr = f_X6_takesDigit_j68 rd num due pa x2_68 s0_68 → o_X6_takesDigit_j68 rd num due pa x2_68 s0_68 → ∀ (H : Heap) (locs : List Loc), va_P (dC, dI) vwCl [(h0, .inr (6, [.ref h1, .int states, .ref h2, .int ln, .ref h3, .int thr, .ref h4, .int rd, .int num, .int due, .long hash])), (h1, .inl (cI, 163, .inl z)), (h2, .inl (cI, 978, .inl hi)), (h3, .inl (cI, 60, .inl tx)), (h4, .inl (cI, 42, .inl pa))] H → va_D A [(h0, .inr (6, [.ref h1, .int states, .ref h2, .int ln, .ref h3, .int thr, .ref h4, .int rd, .int num, .int due, .long hash])), (h1, .inl (cI, 163, .inl z)), (h2, .inl (cI, 978, .inl hi)), (h3, .inl (cI, 60, .inl tx)), (h4, .inl (cI, 42, .inl pa))] → va_S A s.heap H locs → ∀ (ls : Array Slot), lv_has ls 4 [(0, .ref h0), (2, .int x2_68)] → W p l e (headSpec wsX6_takesDigit ({ frames := 2, cells := 0, slots := 0, locals := 42 })).room s m ([.ref h0, .int p1] : List Value).toArray below meth c H locs 0 0 (MQ below (va_Qi (fun (r9 : Int32) (_ : Unit) => r9 = vm_bi rr.1) (fun _ t => va_P (dC, dI) vwCl [(h0, .inr (6, [.ref h1, .int states, .ref h2, .int ln, .ref h3, .int thr, .ref h4, .int rd, .int rr.2.1, .int due, .long hash])), (h1, .inl (cI, 163, .inl z)), (h2, .inl (cI, 978, .inl hi)), (h3, .inl (cI, 60, .inl tx)), (h4, .inl (cI, 42, .inl rr.2.2))] t.heap) A) ([.ref h0, .int p1] : List Value).toArray s 0 0 A) (F0 m 68 ls [.int (vm_bi s0_68)]) := by
    intro x2_68 s0_68 eF eO H locs hP hD hS ls hl
    rw [o_X6_takesDigit_j68] at eO
    refine lv_istore_n (lv' := [(3, .int (vm_bi s0_68)), (0, .ref h0), (2, .int x2_68)]) hx hb dX6_takesDigit_68 rfl hl (by decide) rfl (fun ls hl => ?_)
    refine lv_aload_n hx hb dX6_takesDigit_69 rfl (lv_at hl 1 rfl) ?_
    refine lv_iload_n hx hb dX6_takesDigit_70 rfl (lv_at hl 0 rfl) ?_
    refine lv_if_eq (tgt := 78) hx hb dX6_takesDigit_71 (by decide) (fun c_2 => ?_) (fun c_2 => ?_)
    · rw [if_pos c_2] at eO
      refine lv_aload_n hx hb dX6_takesDigit_78 rfl (lv_at hl 1 rfl) ?_
      refine va_get (D := (dC, dI)) (ci := 6) (v := .int num) (C := RX6) (T := TX6) (N := 11) hx hb hts iwsX60 hown hK hP 0 rfl rfl 8 (by decide) kw1 (fun _ h9 => h9) rfl dX6_takesDigit_79 ?_
      exact hJ82 s0_68 num (eF.trans (by rw [f_X6_takesDigit_j68, if_pos c_2])) eO _ _ hP hD hS ls (lv_sub hl [1, 0] rfl)
    · rw [if_neg c_2] at eO
      refine lv_iload_n hx hb dX6_takesDigit_74 rfl (lv_at hl 2 rfl) ?_
      refine lv_goto (tgt := 82) hx hb dX6_takesDigit_75 (by decide) ?_
      exact hJ82 s0_68 x2_68 (eF.trans (by rw [f_X6_takesDigit_j68, if_neg c_2])) eO _ _ hP hD hS ls (lv_sub hl [1, 0] rfl)
  have hJ67 : ∀ (x2_67 : Int32), rr = f_X6_takesDigit_j67 rd num due pa x2_67 → o_X6_takesDigit_j67 rd num due pa x2_67 → ∀ (H : Heap) (locs : List Loc), va_P (dC, dI) vwCl [(h0, .inr (6, [.ref h1, .int states, .ref h2, .int ln, .ref h3, .int thr, .ref h4, .int rd, .int num, .int due, .long hash])), (h1, .inl (cI, 163, .inl z)), (h2, .inl (cI, 978, .inl hi)), (h3, .inl (cI, 60, .inl tx)), (h4, .inl (cI, 42, .inl pa))] H → va_D A [(h0, .inr (6, [.ref h1, .int states, .ref h2, .int ln, .ref h3, .int thr, .ref h4, .int rd, .int num, .int due, .long hash])), (h1, .inl (cI, 163, .inl z)), (h2, .inl (cI, 978, .inl hi)), (h3, .inl (cI, 60, .inl tx)), (h4, .inl (cI, 42, .inl pa))] → va_S A s.heap H locs → ∀ (ls : Array Slot), lv_has ls 4 [(0, .ref h0), (2, .int x2_67)] → W p l e (headSpec wsX6_takesDigit ({ frames := 2, cells := 0, slots := 0, locals := 42 })).room s m ([.ref h0, .int p1] : List Value).toArray below meth c H locs 0 0 (MQ below (va_Qi (fun (r9 : Int32) (_ : Unit) => r9 = vm_bi rr.1) (fun _ t => va_P (dC, dI) vwCl [(h0, .inr (6, [.ref h1, .int states, .ref h2, .int ln, .ref h3, .int thr, .ref h4, .int rd, .int rr.2.1, .int due, .long hash])), (h1, .inl (cI, 163, .inl z)), (h2, .inl (cI, 978, .inl hi)), (h3, .inl (cI, 60, .inl tx)), (h4, .inl (cI, 42, .inl rr.2.2))] t.heap) A) ([.ref h0, .int p1] : List Value).toArray s 0 0 A) (F0 m 67 ls []) := by
    intro x2_67 eF eO H locs hP hD hS ls hl
    rw [o_X6_takesDigit_j67] at eO
    refine lv_iconst (v := 0) hx hb dX6_takesDigit_67 (by decide) ?_
    exact hJ68 x2_67 false (eF.trans (by rw [f_X6_takesDigit_j67])) eO _ _ hP hD hS ls (lv_sub hl [0, 1] rfl)
  have hJ63 : ∀ (x2_63 : Int32), rr = f_X6_takesDigit_j63 rd num due pa x2_63 → o_X6_takesDigit_j63 rd num due pa x2_63 → ∀ (H : Heap) (locs : List Loc), va_P (dC, dI) vwCl [(h0, .inr (6, [.ref h1, .int states, .ref h2, .int ln, .ref h3, .int thr, .ref h4, .int rd, .int num, .int due, .long hash])), (h1, .inl (cI, 163, .inl z)), (h2, .inl (cI, 978, .inl hi)), (h3, .inl (cI, 60, .inl tx)), (h4, .inl (cI, 42, .inl pa))] H → va_D A [(h0, .inr (6, [.ref h1, .int states, .ref h2, .int ln, .ref h3, .int thr, .ref h4, .int rd, .int num, .int due, .long hash])), (h1, .inl (cI, 163, .inl z)), (h2, .inl (cI, 978, .inl hi)), (h3, .inl (cI, 60, .inl tx)), (h4, .inl (cI, 42, .inl pa))] → va_S A s.heap H locs → ∀ (ls : Array Slot), lv_has ls 4 [(0, .ref h0), (2, .int x2_63)] → W p l e (headSpec wsX6_takesDigit ({ frames := 2, cells := 0, slots := 0, locals := 42 })).room s m ([.ref h0, .int p1] : List Value).toArray below meth c H locs 0 0 (MQ below (va_Qi (fun (r9 : Int32) (_ : Unit) => r9 = vm_bi rr.1) (fun _ t => va_P (dC, dI) vwCl [(h0, .inr (6, [.ref h1, .int states, .ref h2, .int ln, .ref h3, .int thr, .ref h4, .int rd, .int rr.2.1, .int due, .long hash])), (h1, .inl (cI, 163, .inl z)), (h2, .inl (cI, 978, .inl hi)), (h3, .inl (cI, 60, .inl tx)), (h4, .inl (cI, 42, .inl rr.2.2))] t.heap) A) ([.ref h0, .int p1] : List Value).toArray s 0 0 A) (F0 m 63 ls []) := by
    intro x2_63 eF eO H locs hP hD hS ls hl
    rw [o_X6_takesDigit_j63] at eO
    refine lv_iconst (v := 1) hx hb dX6_takesDigit_63 (by decide) ?_
    refine lv_goto (tgt := 68) hx hb dX6_takesDigit_64 (by decide) ?_
    exact hJ68 x2_63 true (eF.trans (by rw [f_X6_takesDigit_j63])) eO _ _ hP hD hS ls (lv_sub hl [0, 1] rfl)
  have hJ21 : ∀ (s0_21 : Int32), rr = f_X6_takesDigit_j21 rd num due pa p1 s0_21 → o_X6_takesDigit_j21 rd num due pa p1 s0_21 → ∀ (H : Heap) (locs : List Loc), va_P (dC, dI) vwCl [(h0, .inr (6, [.ref h1, .int states, .ref h2, .int ln, .ref h3, .int thr, .ref h4, .int rd, .int num, .int due, .long hash])), (h1, .inl (cI, 163, .inl z)), (h2, .inl (cI, 978, .inl hi)), (h3, .inl (cI, 60, .inl tx)), (h4, .inl (cI, 42, .inl pa))] H → va_D A [(h0, .inr (6, [.ref h1, .int states, .ref h2, .int ln, .ref h3, .int thr, .ref h4, .int rd, .int num, .int due, .long hash])), (h1, .inl (cI, 163, .inl z)), (h2, .inl (cI, 978, .inl hi)), (h3, .inl (cI, 60, .inl tx)), (h4, .inl (cI, 42, .inl pa))] → va_S A s.heap H locs → ∀ (ls : Array Slot), lv_has ls 4 [(0, .ref h0), (1, .int p1)] → W p l e (headSpec wsX6_takesDigit ({ frames := 2, cells := 0, slots := 0, locals := 42 })).room s m ([.ref h0, .int p1] : List Value).toArray below meth c H locs 0 0 (MQ below (va_Qi (fun (r9 : Int32) (_ : Unit) => r9 = vm_bi rr.1) (fun _ t => va_P (dC, dI) vwCl [(h0, .inr (6, [.ref h1, .int states, .ref h2, .int ln, .ref h3, .int thr, .ref h4, .int rd, .int rr.2.1, .int due, .long hash])), (h1, .inl (cI, 163, .inl z)), (h2, .inl (cI, 978, .inl hi)), (h3, .inl (cI, 60, .inl tx)), (h4, .inl (cI, 42, .inl rr.2.2))] t.heap) A) ([.ref h0, .int p1] : List Value).toArray s 0 0 A) (F0 m 21 ls [.int s0_21]) := by
    intro s0_21 eF eO H locs hP hD hS ls hl
    rw [o_X6_takesDigit_j21] at eO
    refine lv_istore_n (lv' := [(2, .int s0_21), (0, .ref h0), (1, .int p1)]) hx hb dX6_takesDigit_21 rfl hl (by decide) rfl (fun ls hl => ?_)
    refine lv_iload_n hx hb dX6_takesDigit_22 rfl (lv_at hl 2 rfl) ?_
    refine lv_iconst (v := 0) hx hb dX6_takesDigit_23 (by decide) ?_
    refine lv_bipush (v := 9) hx hb dX6_takesDigit_24 (by decide) ?_
    refine vm_roSx (v := vm_bi (f_X6_within p1 0 9)) (As := [.int p1, .int 0, .int 9]) (rest := []) ⟨hx, hb, hml, hown, hts⟩ hK hN hP hl.1 ⟨Nat.le_of_ble_eq_true rfl, Nat.le_of_ble_eq_true rfl⟩ (c_X6_within l dC dI cI cB p1 0 9) (va_cwS 3 hts gX6_takesDigit_X6_within rfl rfl rfl yd_X6_within ⟨Nat.le_of_ble_eq_true rfl, Nat.le_of_ble_eq_true rfl⟩) rfl rfl (Nat.le_of_ble_eq_true rfl) dX6_takesDigit_26 ?_
    refine lv_if_eq (tgt := 67) hx hb dX6_takesDigit_29 (by decide) (fun c_3 => ?_) (fun c_3 => ?_)
    · rw [if_pos c_3] at eO
      exact hJ67 s0_21 (eF.trans (by rw [f_X6_takesDigit_j21, if_pos c_3])) eO _ _ hP hD hS ls (lv_sub hl [1, 0] rfl)
    · rw [if_neg c_3] at eO
      refine lv_aload_n hx hb dX6_takesDigit_32 rfl (lv_at hl 1 rfl) ?_
      refine va_get (D := (dC, dI)) (ci := 6) (v := .int num) (C := RX6) (T := TX6) (N := 11) hx hb hts iwsX60 hown hK hP 0 rfl rfl 8 (by decide) kw1 (fun _ h9 => h9) rfl dX6_takesDigit_33 ?_
      refine lv_if_eq (tgt := 67) hx hb dX6_takesDigit_36 (by decide) (fun c_4 => ?_) (fun c_4 => ?_)
      · rw [if_pos c_4] at eO
        exact hJ67 s0_21 (eF.trans (by rw [f_X6_takesDigit_j21, if_neg c_3, if_pos c_4])) eO _ _ hP hD hS ls (lv_sub hl [1, 0] rfl)
      · rw [if_neg c_4] at eO
        refine lv_aload_n hx hb dX6_takesDigit_39 rfl (lv_at hl 1 rfl) ?_
        refine va_get (D := (dC, dI)) (ci := 6) (v := .int due) (C := RX6) (T := TX6) (N := 11) hx hb hts iwsX60 hown hK hP 0 rfl rfl 9 (by decide) kw2 (fun _ h9 => h9) rfl dX6_takesDigit_40 ?_
        refine lv_iconst (v := 1) hx hb dX6_takesDigit_43 (by decide) ?_
        refine lv_icmp_ne (tgt := 56) hx hb dX6_takesDigit_44 (by decide) (fun c_5 => ?_) (fun c_5 => ?_)
        · rw [if_neg c_5] at eO
          refine lv_iload_n hx hb dX6_takesDigit_56 rfl (lv_at hl 0 rfl) ?_
          refine vm_roSx (v := vm_bi (f_X6_isMoney s0_21)) (As := [.int s0_21]) (rest := []) ⟨hx, hb, hml, hown, hts⟩ hK hN hP hl.1 ⟨Nat.le_of_ble_eq_true rfl, Nat.le_of_ble_eq_true rfl⟩ (c_X6_isMoney l dC dI cI cB s0_21) (va_cwS 1 hts gX6_takesDigit_X6_isMoney rfl rfl rfl yd_X6_isMoney ⟨Nat.le_of_ble_eq_true rfl, Nat.le_of_ble_eq_true rfl⟩) rfl rfl (Nat.le_of_ble_eq_true rfl) dX6_takesDigit_57 ?_
          refine lv_if_eq (tgt := 67) hx hb dX6_takesDigit_60 (by decide) (fun c_6 => ?_) (fun c_6 => ?_)
          · rw [if_pos c_6] at eO
            exact hJ67 s0_21 (eF.trans (by rw [f_X6_takesDigit_j21, if_neg c_3, if_neg c_4, if_neg c_5, if_pos c_6])) eO _ _ hP hD hS ls (lv_sub hl [1, 0] rfl)
          · rw [if_neg c_6] at eO
            exact hJ63 s0_21 (eF.trans (by rw [f_X6_takesDigit_j21, if_neg c_3, if_neg c_4, if_neg c_5, if_neg c_6])) eO _ _ hP hD hS ls (lv_sub hl [1, 0] rfl)
        · rw [if_pos c_5] at eO
          refine lv_iload_n hx hb dX6_takesDigit_47 rfl (lv_at hl 0 rfl) ?_
          refine lv_bipush (v := 12) hx hb dX6_takesDigit_48 (by decide) ?_
          refine lv_icmp_ge (tgt := 67) hx hb dX6_takesDigit_50 (by decide) (fun c_7 => ?_) (fun c_7 => ?_)
          · rw [if_pos c_7] at eO
            exact hJ67 s0_21 (eF.trans (by rw [f_X6_takesDigit_j21, if_neg c_3, if_neg c_4, if_pos c_5, if_pos c_7])) eO _ _ hP hD hS ls (lv_sub hl [1, 0] rfl)
          · rw [if_neg c_7] at eO
            refine lv_goto (tgt := 63) hx hb dX6_takesDigit_53 (by decide) ?_
            exact hJ63 s0_21 (eF.trans (by rw [f_X6_takesDigit_j21, if_neg c_3, if_neg c_4, if_pos c_5, if_neg c_7])) eO _ _ hP hD hS ls (lv_sub hl [1, 0] rfl)
  rw [o_X6_takesDigit] at eO
  refine lv_aload_n hx hb dX6_takesDigit_0 rfl (lv_at hl 0 rfl) ?_
  refine va_get (D := (dC, dI)) (ci := 6) (v := .int num) (C := RX6) (T := TX6) (N := 11) hx hb hts iwsX60 hown hK hP 0 rfl rfl 8 (by decide) kw1 (fun _ h9 => h9) rfl dX6_takesDigit_1 ?_
  refine lv_iconst (v := (-1)) hx hb dX6_takesDigit_4 (by decide) ?_
  refine lv_icmp_ne (tgt := 12) hx hb dX6_takesDigit_5 (by decide) (fun c_8 => ?_) (fun c_8 => ?_)
  · rw [if_neg c_8] at eO
    refine lv_bipush (v := 10) hx hb dX6_takesDigit_12 (by decide) ?_
    refine lv_aload_n hx hb dX6_takesDigit_14 rfl (lv_at hl 0 rfl) ?_
    refine va_get (D := (dC, dI)) (ci := 6) (v := .int num) (C := RX6) (T := TX6) (N := 11) hx hb hts iwsX60 hown hK hP 0 rfl rfl 8 (by decide) kw1 (fun _ h9 => h9) rfl dX6_takesDigit_15 ?_
    refine lv_imul hx hb dX6_takesDigit_18 ?_
    refine lv_iload_n hx hb dX6_takesDigit_19 rfl (lv_at hl 1 rfl) ?_
    refine lv_iadd hx hb dX6_takesDigit_20 ?_
    exact hJ21 ((10 * num) + p1) (eF.trans (by rw [f_X6_takesDigit, if_neg c_8])) eO _ _ hP hD hS ls (lv_sub hl [0, 1] rfl)
  · rw [if_pos c_8] at eO
    refine lv_iload_n hx hb dX6_takesDigit_8 rfl (lv_at hl 1 rfl) ?_
    refine lv_goto (tgt := 21) hx hb dX6_takesDigit_9 (by decide) ?_
    exact hJ21 p1 (eF.trans (by rw [f_X6_takesDigit, if_pos c_8])) eO _ _ hP hD hS ls (lv_sub hl [0, 1] rfl)
