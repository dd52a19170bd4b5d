def f_X6_takes_j51 (rd : Int32) (pa_51 : Nat → Int32) : Bool × Int32 × Int32 × Int32 × (Nat → Int32) :=
  (true, rd, (-1), 1, pa_51)
def f_X6_takes_j28 (rd : Int32) (pa : Nat → Int32) (p1 : Int32) (s0_28 : Bool) : Bool × Int32 × Int32 × Int32 × (Nat → Int32) :=
  if p1 = 115 then
    f_X6_takes_j51 rd (upd pa (Int32.toNatClampNeg (3 * rd)) (vm_bi s0_28))
  else
    if p1 = 117 then
      f_X6_takes_j51 rd (upd pa (Int32.toNatClampNeg (3 * rd)) (vm_bi s0_28))
    else
      (false, rd, (-1), 1, (upd pa (Int32.toNatClampNeg (3 * rd)) (vm_bi s0_28)))
def f_X6_takes_c138 (rd : Int32) (due : Int32) (y138 : Bool) (num_c138 : Int32) (pa_c138 : Nat → Int32) : Bool × Int32 × Int32 × Int32 × (Nat → Int32) :=
  (y138, rd, num_c138, due, pa_c138)
def f_X6_takes_j130 (rd : Int32) (num : Int32) (due : Int32) (pa : Nat → Int32) (p1 : Int32) : Bool × Int32 × Int32 × Int32 × (Nat → Int32) :=
  f_X6_takes_c138 rd due ((f_X6_takesDigit rd num due pa (p1 - 48)).1) ((f_X6_takesDigit rd num due pa (p1 - 48)).2.1) ((f_X6_takesDigit rd num due pa (p1 - 48)).2.2)
def f_X6_takes_j91 (rd : Int32) (num : Int32) (due : Int32) (pa : Nat → Int32) (p1 : Int32) : Bool × Int32 × Int32 × Int32 × (Nat → Int32) :=
  if due = 2 then
    if p1 = 59 then
      if num = (-1) then
        f_X6_takes_j130 rd num due pa p1
      else
        (true, (rd + 1), num, 0, pa)
    else
      f_X6_takes_j130 rd num due pa p1
  else
    f_X6_takes_j130 rd num due pa p1
def f_X6_takes (rd : Int32) (num : Int32) (due : Int32) (pa : Nat → Int32) (p1 : Int32) : Bool × Int32 × Int32 × Int32 × (Nat → Int32) :=
  if due = 0 then
    if p1 = 117 then
      f_X6_takes_j28 rd pa p1 true
    else
      f_X6_takes_j28 rd pa p1 false
  else
    if due = 1 then
      if p1 = 58 then
        if num = (-1) then
          f_X6_takes_j91 rd num due pa p1
        else
          (true, rd, (-1), 2, pa)
      else
        f_X6_takes_j91 rd num due pa p1
    else
      f_X6_takes_j91 rd num due pa p1
def o_X6_takes_j51 (rd : Int32) (pa_51 : Nat → Int32) : Prop :=
  True
def o_X6_takes_j28 (rd : Int32) (pa : Nat → Int32) (p1 : Int32) (s0_28 : Bool) : Prop :=
  vp_in (3 * rd) 42 ∧
  (if p1 = 115 then
    o_X6_takes_j51 rd (upd pa (Int32.toNatClampNeg (3 * rd)) (vm_bi s0_28))
  else
    if p1 = 117 then
      o_X6_takes_j51 rd (upd pa (Int32.toNatClampNeg (3 * rd)) (vm_bi s0_28))
    else
      True)
def o_X6_takes_c138 (rd : Int32) (due : Int32) (y138 : Bool) (num_c138 : Int32) (pa_c138 : Nat → Int32) : Prop :=
  True
def o_X6_takes_j130 (rd : Int32) (num : Int32) (due : Int32) (pa : Nat → Int32) (p1 : Int32) : Prop :=
  o_X6_takesDigit rd num due pa (p1 - 48) ∧
  (o_X6_takes_c138 rd due ((f_X6_takesDigit rd num due pa (p1 - 48)).1) ((f_X6_takesDigit rd num due pa (p1 - 48)).2.1) ((f_X6_takesDigit rd num due pa (p1 - 48)).2.2))
def o_X6_takes_j91 (rd : Int32) (num : Int32) (due : Int32) (pa : Nat → Int32) (p1 : Int32) : Prop :=
  if due = 2 then
    if p1 = 59 then
      if num = (-1) then
        o_X6_takes_j130 rd num due pa p1
      else
        True
    else
      o_X6_takes_j130 rd num due pa p1
  else
    o_X6_takes_j130 rd num due pa p1
def o_X6_takes (rd : Int32) (num : Int32) (due : Int32) (pa : Nat → Int32) (p1 : Int32) : Prop :=
  if due = 0 then
    if p1 = 117 then
      o_X6_takes_j28 rd pa p1 true
    else
      o_X6_takes_j28 rd pa p1 false
  else
    if due = 1 then
      if p1 = 58 then
        if num = (-1) then
          o_X6_takes_j91 rd num due pa p1
        else
          True
      else
        o_X6_takes_j91 rd num due pa p1
    else
      o_X6_takes_j91 rd num due pa p1
theorem yd_X6_takes : yX6_takes.cls = RX6 ∧ yX6_takes.cls ≠ "java/lang/invoke/MethodHandle" ∧ yX6_takes.cls ≠ "java/lang/invoke/VarHandle" ∧ (parseMethodDescriptor yX6_takes.desc).map (fun d => d.parameters.length) = some 1 := by decide +kernel
set_option maxHeartbeats 4000000 in
set_option maxRecDepth 100000 in
theorem c_X6_takes (l : Launch) (dC : Nat → ClassId) (dI : Nat → Nat → Nat) (cI cB : ClassId) (h0 h1 h2 h3 h4 : Nat) (sz : Nat) (states : Int32) (ln : Int32) (thr : Int32) (rd : Int32) (num : Int32) (due : Int32) (hash : Int64) (z : Nat → Int32) (hi : Nat → Int32) (tx : Nat → Int32) (pa : Nat → Int32) (p1 : Int32) (eO : o_X6_takes rd num due pa p1) : Met l yX6_takes wsX6_takes ({ frames := 3, cells := 0, slots := 0, locals := 65 }) (vm_prw [.ref h0, .int p1] (dC, dI) [(h0, .inr (6, [.ref h1, .int states, .ref h2, .int ln, .ref h3, .int thr, .ref h4, .int rd, .int num, .int due, .long hash])), (h1, .inl (cI, 163, .inl z)), (h2, .inl (cI, 978, .inl hi)), (h3, .inl (cI, 60, .inl tx)), (h4, .inl (cI, 42, .inl pa))] cI cB sz) (va_Qi (fun (r9 : Int32) (_ : Unit) => r9 = vm_bi ((f_X6_takes rd num due pa p1).1)) (fun _ t => va_P (dC, dI) vwCl [(h0, .inr (6, [.ref h1, .int states, .ref h2, .int ln, .ref h3, .int thr, .ref h4, .int ((f_X6_takes rd num due pa p1).2.1), .int ((f_X6_takes rd num due pa p1).2.2.1), .int ((f_X6_takes rd num due pa p1).2.2.2.1), .long hash])), (h1, .inl (cI, 163, .inl z)), (h2, .inl (cI, 978, .inl hi)), (h3, .inl (cI, 60, .inl tx)), (h4, .inl (cI, 42, .inl ((f_X6_takes rd num due pa p1).2.2.2.2)))] t.heap) (va_A [(h0, .inr (6, [.ref h1, .int states, .ref h2, .int ln, .ref h3, .int thr, .ref h4, .int rd, .int num, .int due, .long hash])), (h1, .inl (cI, 163, .inl z)), (h2, .inl (cI, 978, .inl hi)), (h3, .inl (cI, 60, .inl tx)), (h4, .inl (cI, 42, .inl pa))] sz)) 0 0 (va_A [(h0, .inr (6, [.ref h1, .int states, .ref h2, .int ln, .ref h3, .int thr, .ref h4, .int rd, .int num, .int due, .long hash])), (h1, .inl (cI, 163, .inl z)), (h2, .inl (cI, 978, .inl hi)), (h3, .inl (cI, 60, .inl tx)), (h4, .inl (cI, 42, .inl pa))] sz) := by
  refine Met.ofW (cc := cX6_takes) (maxL := 2) (ret := (some .boolean)) (by decide) rfl ?_
  intro p e s m args below meth c s₁ B hml hv
  obtain ⟨rfl, hsz, hP, hK, hN, hD0⟩ := hv
  have hx := B.exec
  have hb := B.bytes
  have hr := B.returns
  have hts := atoms_spec (ws := wsX6_takes) B.pre
  have hown : s.vm.findClass RX6 = some m.cls := findClass_of_methodNamed B.named
  have hlocks := B.notSynchronized
  subst hsz
  have hD := hD0.self (sz := s.heap.size)
  generalize hAe : va_A [(h0, .inr (6, [.ref h1, .int states, .ref h2, .int ln, .ref h3, .int thr, .ref h4, .int rd, .int num, .int due, .long hash])), (h1, .inl (cI, 163, .inl z)), (h2, .inl (cI, 978, .inl hi)), (h3, .inl (cI, 60, .inl tx)), (h4, .inl (cI, 42, .inl pa))] s.heap.size = A at hD ⊢
  have hA : ∀ q : Nat, s.heap.size ≤ q → A q := fun q h => by rw [← hAe]; exact Or.inr h
  have hS : va_S A s.heap s.heap [] := va_S.rf
  have hP : va_P (dC, dI) vwCl [(h0, .inr (6, [.ref h1, .int states, .ref h2, .int ln, .ref h3, .int thr, .ref h4, .int rd, .int num, .int due, .long hash])), (h1, .inl (cI, 163, .inl z)), (h2, .inl (cI, 978, .inl hi)), (h3, .inl (cI, 60, .inl tx)), (h4, .inl (cI, 42, .inl pa))] s.heap := hP
  have kw1 := hts (.fieldLink RX6 145 "LapseMandatesModel" "due" "I") (List.mem_of_getElem? (i := 1) rfl)
  have kw2 := hts (.fieldLink RX6 19 "LapseMandatesModel" "parts" "[I") (List.mem_of_getElem? (i := 2) rfl)
  have kw3 := hts (.fieldLink RX6 148 "LapseMandatesModel" "read" "I") (List.mem_of_getElem? (i := 3) rfl)
  have kw4 := hts (.fieldLink RX6 142 "LapseMandatesModel" "number" "I") (List.mem_of_getElem? (i := 4) rfl)
  have iwsX60 : ∀ w ∈ wsX60, w ∈ wsX6_takes := fun w h => List.mem_cons_of_mem _ (List.mem_append_right _ h)
  generalize hrr : f_X6_takes rd num due pa p1 = rr
  have eF := hrr.symm
  have hl := lv_entry ([.ref h0, .int p1]) (n := 2) (Nat.le_of_ble_eq_true rfl)
  rw [lg_entry_eq]
  generalize (lg_sl ([.ref h0, .int p1]) ++ List.replicate (2 - (lg_sl ([.ref h0, .int p1])).length) Slot.unset).toArray = ls at hl ⊢
  have hl : lv_has ls 2 [(0, .ref h0), (1, .int p1)] := hl
  have hJ130 : rr = f_X6_takes_j130 rd num due pa p1 → o_X6_takes_j130 rd num due pa p1 → ∀ (H : Heap) (locs : List Loc), va_P (dC, dI) vwCl [(h0, .inr (6, [.ref h1, .int states, .ref h2, .int ln, .ref h3, .int thr, .ref h4, .int rd, .int num, .int due, .long hash])), (h1, .inl (cI, 163, .inl z)), (h2, .inl (cI, 978, .inl hi)), (h3, .inl (cI, 60, .inl tx)), (h4, .inl (cI, 42, .inl pa))] H → va_D A [(h0, .inr (6, [.ref h1, .int states, .ref h2, .int ln, .ref h3, .int thr, .ref h4, .int rd, .int num, .int due, .long hash])), (h1, .inl (cI, 163, .inl z)), (h2, .inl (cI, 978, .inl hi)), (h3, .inl (cI, 60, .inl tx)), (h4, .inl (cI, 42, .inl pa))] → va_S A s.heap H locs → ∀ (ls : Array Slot), lv_has ls 2 [(0, .ref h0), (1, .int p1)] → W p l e (headSpec wsX6_takes ({ frames := 3, cells := 0, slots := 0, locals := 65 })).room s m ([.ref h0, .int p1] : List Value).toArray below meth c H locs 0 0 (MQ below (va_Qi (fun (r9 : Int32) (_ : Unit) => r9 = vm_bi rr.1) (fun _ t => va_P (dC, dI) vwCl [(h0, .inr (6, [.ref h1, .int states, .ref h2, .int ln, .ref h3, .int thr, .ref h4, .int rr.2.1, .int rr.2.2.1, .int rr.2.2.2.1, .long hash])), (h1, .inl (cI, 163, .inl z)), (h2, .inl (cI, 978, .inl hi)), (h3, .inl (cI, 60, .inl tx)), (h4, .inl (cI, 42, .inl rr.2.2.2.2))] t.heap) A) ([.ref h0, .int p1] : List Value).toArray s 0 0 A) (F0 m 130 ls []) := by
    intro eF eO H locs hP hD hS ls hl
    rw [o_X6_takes_j130] at eO
    refine lv_aload_n hx hb dX6_takes_130 rfl (lv_at hl 0 rfl) ?_
    refine lv_iload_n hx hb dX6_takes_131 rfl (lv_at hl 1 rfl) ?_
    refine lv_bipush (v := 48) hx hb dX6_takes_132 (by decide) ?_
    refine lv_isub hx hb dX6_takes_134 ?_
    obtain ⟨hv_1, eO⟩ := eO
    refine vm_rwV (As := [.int (p1 - 48)]) (rest := []) (T := TX6) (N := 11) (wc := [(h0, .inr (6, [.ref h1, .int states, .ref h2, .int ln, .ref h3, .int thr, .ref h4, .int rd, .int num, .int due, .long hash])), (h1, .inl (cI, 163, .inl z)), (h2, .inl (cI, 978, .inl hi)), (h3, .inl (cI, 60, .inl tx)), (h4, .inl (cI, 42, .inl pa))]) (w1 := [(h0, .inr (6, [.ref h1, .int states, .ref h2, .int ln, .ref h3, .int thr, .ref h4, .int rd, .int ((f_X6_takesDigit rd num due pa (p1 - 48)).2.1), .int due, .long hash])), (h1, .inl (cI, 163, .inl z)), (h2, .inl (cI, 978, .inl hi)), (h3, .inl (cI, 60, .inl tx)), (h4, .inl (cI, 42, .inl ((f_X6_takesDigit rd num due pa (p1 - 48)).2.2)))]) ⟨hx, hb, hml, hown, hts⟩ hK hN hP hD hS hA hl.1 ⟨Nat.le_of_ble_eq_true rfl, Nat.le_of_ble_eq_true rfl⟩ (c_X6_takesDigit l dC dI cI cB h0 h1 h2 h3 h4 _ states ln thr rd num due hash z hi tx pa (p1 - 48) hv_1) (cwV 1 hts gX6_takes_X6_takesDigit rfl rfl rfl yd_X6_takesDigit ⟨Nat.le_of_ble_eq_true rfl, Nat.le_of_ble_eq_true rfl⟩) [0, 1, 2, 3, 4] rfl rfl rfl 6 rfl rfl rfl rfl (Nat.le_of_ble_eq_true rfl) dX6_takes_135 (fun r138 H locs hw hP hD hS => ?_)
    have hP : va_P (dC, dI) vwCl [(h0, .inr (6, [.ref h1, .int states, .ref h2, .int ln, .ref h3, .int thr, .ref h4, .int rd, .int ((f_X6_takesDigit rd num due pa (p1 - 48)).2.1), .int due, .long hash])), (h1, .inl (cI, 163, .inl z)), (h2, .inl (cI, 978, .inl hi)), (h3, .inl (cI, 60, .inl tx)), (h4, .inl (cI, 42, .inl ((f_X6_takesDigit rd num due pa (p1 - 48)).2.2)))] H := hP
    have hD : va_D A [(h0, .inr (6, [.ref h1, .int states, .ref h2, .int ln, .ref h3, .int thr, .ref h4, .int rd, .int ((f_X6_takesDigit rd num due pa (p1 - 48)).2.1), .int due, .long hash])), (h1, .inl (cI, 163, .inl z)), (h2, .inl (cI, 978, .inl hi)), (h3, .inl (cI, 60, .inl tx)), (h4, .inl (cI, 42, .inl ((f_X6_takesDigit rd num due pa (p1 - 48)).2.2)))] := hD
    obtain ⟨y138, ey138⟩ : ∃ zz9, zz9 = (f_X6_takesDigit rd num due pa (p1 - 48)).1 := ⟨_, rfl⟩
    obtain rfl : r138 = vm_bi y138 := hw.trans (congrArg vm_bi ey138.symm)
    obtain ⟨num_c138, enum_c138⟩ : ∃ zz9, zz9 = (f_X6_takesDigit rd num due pa (p1 - 48)).2.1 := ⟨_, rfl⟩
    rw [← enum_c138] at hP hD
    obtain ⟨pa_c138, epa_c138⟩ : ∃ zz9, zz9 = (f_X6_takesDigit rd num due pa (p1 - 48)).2.2 := ⟨_, rfl⟩
    rw [← epa_c138] at hP hD
    have eF : rr = f_X6_takes_c138 rd due y138 num_c138 pa_c138 := eF.trans (by rw [f_X6_takes_j130, ey138, enum_c138, epa_c138])
    have eO : o_X6_takes_c138 rd due y138 num_c138 pa_c138 := by rw [ey138, enum_c138, epa_c138]; exact eO
    rw [o_X6_takes_c138] at eO
    have e9 : rr = ((y138, rd, num_c138, due, pa_c138) : Bool × Int32 × Int32 × Int32 × (Nat → Int32)) := eF.trans (by rw [f_X6_takes_c138])
    exact W.zret (v := vm_bi y138) hx hb hr (vm_bi_nw _) (fun t ht hW => ⟨⟨_, (), rfl, by rw [e9] <;> rfl, (by rw [e9]; show va_P _ _ _ t.heap; rw [ht]; exact hP)⟩, hS.F ht⟩) hS.2.2 dX6_takes_138
  have hJ91 : rr = f_X6_takes_j91 rd num due pa p1 → o_X6_takes_j91 rd num due pa p1 → ∀ (H : Heap) (locs : List Loc), va_P (dC, dI) vwCl [(h0, .inr (6, [.ref h1, .int states, .ref h2, .int ln, .ref h3, .int thr, .ref h4, .int rd, .int num, .int due, .long hash])), (h1, .inl (cI, 163, .inl z)), (h2, .inl (cI, 978, .inl hi)), (h3, .inl (cI, 60, .inl tx)), (h4, .inl (cI, 42, .inl pa))] H → va_D A [(h0, .inr (6, [.ref h1, .int states, .ref h2, .int ln, .ref h3, .int thr, .ref h4, .int rd, .int num, .int due, .long hash])), (h1, .inl (cI, 163, .inl z)), (h2, .inl (cI, 978, .inl hi)), (h3, .inl (cI, 60, .inl tx)), (h4, .inl (cI, 42, .inl pa))] → va_S A s.heap H locs → ∀ (ls : Array Slot), lv_has ls 2 [(0, .ref h0), (1, .int p1)] → W p l e (headSpec wsX6_takes ({ frames := 3, cells := 0, slots := 0, locals := 65 })).room s m ([.ref h0, .int p1] : List Value).toArray below meth c H locs 0 0 (MQ below (va_Qi (fun (r9 : Int32) (_ : Unit) => r9 = vm_bi rr.1) (fun _ t => va_P (dC, dI) vwCl [(h0, .inr (6, [.ref h1, .int states, .ref h2, .int ln, .ref h3, .int thr, .ref h4, .int rr.2.1, .int rr.2.2.1, .int rr.2.2.2.1, .long hash])), (h1, .inl (cI, 163, .inl z)), (h2, .inl (cI, 978, .inl hi)), (h3, .inl (cI, 60, .inl tx)), (h4, .inl (cI, 42, .inl rr.2.2.2.2))] t.heap) A) ([.ref h0, .int p1] : List Value).toArray s 0 0 A) (F0 m 91 ls []) := by
    intro eF eO H locs hP hD hS ls hl
    rw [o_X6_takes_j91] at eO
    refine lv_aload_n hx hb dX6_takes_91 rfl (lv_at hl 0 rfl) ?_
    refine va_get (D := (dC, dI)) (ci := 6) (v := .int due) (C := RX6) (T := TX6) (N := 11) hx hb hts iwsX60 hown hK hP 0 rfl rfl 9 (by decide) kw1 (fun _ h9 => h9) rfl dX6_takes_92 ?_
    refine lv_iconst (v := 2) hx hb dX6_takes_95 (by decide) ?_
    refine lv_icmp_ne (tgt := 130) hx hb dX6_takes_96 (by decide) (fun c_2 => ?_) (fun c_2 => ?_)
    · rw [if_neg c_2] at eO
      exact hJ130 (eF.trans (by rw [f_X6_takes_j91, if_neg c_2])) eO _ _ hP hD hS ls (lv_sub hl [0, 1] rfl)
    · rw [if_pos c_2] at eO
      refine lv_iload_n hx hb dX6_takes_99 rfl (lv_at hl 1 rfl) ?_
      refine lv_bipush (v := 59) hx hb dX6_takes_100 (by decide) ?_
      refine lv_icmp_ne (tgt := 130) hx hb dX6_takes_102 (by decide) (fun c_3 => ?_) (fun c_3 => ?_)
      · rw [if_neg c_3] at eO
        exact hJ130 (eF.trans (by rw [f_X6_takes_j91, if_pos c_2, if_neg c_3])) eO _ _ hP hD hS ls (lv_sub hl [0, 1] rfl)
      · rw [if_pos c_3] at eO
        refine lv_aload_n hx hb dX6_takes_105 rfl (lv_at hl 0 rfl) ?_
        refine va_get (D := (dC, dI)) (ci := 6) (v := .int num) (C := RX6) (T := TX6) (N := 11) hx hb hts iwsX60 hown hK hP 0 rfl rfl 8 (by decide) kw4 (fun _ h9 => h9) rfl dX6_takes_106 ?_
        refine lv_iconst (v := (-1)) hx hb dX6_takes_109 (by decide) ?_
        refine lv_icmp_eq (tgt := 130) hx hb dX6_takes_110 (by decide) (fun c_4 => ?_) (fun c_4 => ?_)
        · rw [if_pos c_4] at eO
          exact hJ130 (eF.trans (by rw [f_X6_takes_j91, if_pos c_2, if_pos c_3, if_pos c_4])) eO _ _ hP hD hS ls (lv_sub hl [0, 1] rfl)
        · rw [if_neg c_4] at eO
          refine lv_aload_n hx hb dX6_takes_113 rfl (lv_at hl 0 rfl) ?_
          refine lv_dup hx hb dX6_takes_114 rfl ?_
          refine va_get (D := (dC, dI)) (ci := 6) (v := .int rd) (C := RX6) (T := TX6) (N := 11) hx hb hts iwsX60 hown hK hP 0 rfl rfl 7 (by decide) kw3 (fun _ h9 => h9) rfl dX6_takes_115 ?_
          refine lv_iconst (v := 1) hx hb dX6_takes_118 (by decide) ?_
          refine lv_iadd hx hb dX6_takes_119 ?_
          refine va_put (D := (dC, dI)) (ci := 6) (v := .int (rd + 1)) (ty := .int) (C := RX6) (T := TX6) (N := 11) hx hb hts iwsX60 tyX6 tyX6_ok nmX6 hown hK hP hD hS 0 rfl rfl 7 (by decide) kw3 (fun _ h9 => h9) rfl (by decide +kernel) rfl rfl (Nat.le_of_ble_eq_true rfl) dX6_takes_120 (fun H locs hP hD hS => ?_)
          have hP : va_P (dC, dI) vwCl [(h0, .inr (6, [.ref h1, .int states, .ref h2, .int ln, .ref h3, .int thr, .ref h4, .int (rd + 1), .int num, .int due, .long hash])), (h1, .inl (cI, 163, .inl z)), (h2, .inl (cI, 978, .inl hi)), (h3, .inl (cI, 60, .inl tx)), (h4, .inl (cI, 42, .inl pa))] H := hP
          have hD : va_D A [(h0, .inr (6, [.ref h1, .int states, .ref h2, .int ln, .ref h3, .int thr, .ref h4, .int (rd + 1), .int num, .int due, .long hash])), (h1, .inl (cI, 163, .inl z)), (h2, .inl (cI, 978, .inl hi)), (h3, .inl (cI, 60, .inl tx)), (h4, .inl (cI, 42, .inl pa))] := hD
          refine lv_aload_n hx hb dX6_takes_123 rfl (lv_at hl 0 rfl) ?_
          refine lv_iconst (v := 0) hx hb dX6_takes_124 (by decide) ?_
          refine va_put (D := (dC, dI)) (ci := 6) (v := .int 0) (ty := .int) (C := RX6) (T := TX6) (N := 11) hx hb hts iwsX60 tyX6 tyX6_ok nmX6 hown hK hP hD hS 0 rfl rfl 9 (by decide) kw1 (fun _ h9 => h9) rfl (by decide +kernel) rfl rfl (Nat.le_of_ble_eq_true rfl) dX6_takes_125 (fun H locs hP hD hS => ?_)
          have hP : va_P (dC, dI) vwCl [(h0, .inr (6, [.ref h1, .int states, .ref h2, .int ln, .ref h3, .int thr, .ref h4, .int (rd + 1), .int num, .int 0, .long hash])), (h1, .inl (cI, 163, .inl z)), (h2, .inl (cI, 978, .inl hi)), (h3, .inl (cI, 60, .inl tx)), (h4, .inl (cI, 42, .inl pa))] H := hP
          have hD : va_D A [(h0, .inr (6, [.ref h1, .int states, .ref h2, .int ln, .ref h3, .int thr, .ref h4, .int (rd + 1), .int num, .int 0, .long hash])), (h1, .inl (cI, 163, .inl z)), (h2, .inl (cI, 978, .inl hi)), (h3, .inl (cI, 60, .inl tx)), (h4, .inl (cI, 42, .inl pa))] := hD
          refine lv_iconst (v := 1) hx hb dX6_takes_128 (by decide) ?_
          have e9 : rr = ((true, (rd + 1), num, 0, pa) : Bool × Int32 × Int32 × Int32 × (Nat → Int32)) := eF.trans (by rw [f_X6_takes_j91, if_pos c_2, if_pos c_3, if_neg c_4])
          exact W.zret (v := 1) hx hb hr rfl (fun t ht hW => ⟨⟨_, (), rfl, by rw [e9] <;> rfl, (by rw [e9]; show va_P _ _ _ t.heap; rw [ht]; exact hP)⟩, hS.F ht⟩) hS.2.2 dX6_takes_129
  have hJ51 : ∀ (pa_51 : Nat → Int32), rr = f_X6_takes_j51 rd pa_51 → o_X6_takes_j51 rd pa_51 → ∀ (H : Heap) (locs : List Loc), va_P (dC, dI) vwCl [(h0, .inr (6, [.ref h1, .int states, .ref h2, .int ln, .ref h3, .int thr, .ref h4, .int rd, .int (-1), .int 1, .long hash])), (h1, .inl (cI, 163, .inl z)), (h2, .inl (cI, 978, .inl hi)), (h3, .inl (cI, 60, .inl tx)), (h4, .inl (cI, 42, .inl pa_51))] H → va_D A [(h0, .inr (6, [.ref h1, .int states, .ref h2, .int ln, .ref h3, .int thr, .ref h4, .int rd, .int (-1), .int 1, .long hash])), (h1, .inl (cI, 163, .inl z)), (h2, .inl (cI, 978, .inl hi)), (h3, .inl (cI, 60, .inl tx)), (h4, .inl (cI, 42, .inl pa_51))] → va_S A s.heap H locs → ∀ (ls : Array Slot), lv_has ls 2 [] → W p l e (headSpec wsX6_takes ({ frames := 3, cells := 0, slots := 0, locals := 65 })).room s m ([.ref h0, .int p1] : List Value).toArray below meth c H locs 0 0 (MQ below (va_Qi (fun (r9 : Int32) (_ : Unit) => r9 = vm_bi rr.1) (fun _ t => va_P (dC, dI) vwCl [(h0, .inr (6, [.ref h1, .int states, .ref h2, .int ln, .ref h3, .int thr, .ref h4, .int rr.2.1, .int rr.2.2.1, .int rr.2.2.2.1, .long hash])), (h1, .inl (cI, 163, .inl z)), (h2, .inl (cI, 978, .inl hi)), (h3, .inl (cI, 60, .inl tx)), (h4, .inl (cI, 42, .inl rr.2.2.2.2))] t.heap) A) ([.ref h0, .int p1] : List Value).toArray s 0 0 A) (F0 m 51 ls []) := by
    intro pa_51 eF eO H locs hP hD hS ls hl
    rw [o_X6_takes_j51] at eO
    refine lv_iconst (v := 1) hx hb dX6_takes_51 (by decide) ?_
    refine lv_goto (tgt := 56) hx hb dX6_takes_52 (by decide) ?_
    have e9 : rr = ((true, rd, (-1), 1, pa_51) : Bool × Int32 × Int32 × Int32 × (Nat → Int32)) := eF.trans (by rw [f_X6_takes_j51])
    exact W.zret (v := 1) hx hb hr rfl (fun t ht hW => ⟨⟨_, (), rfl, by rw [e9] <;> rfl, (by rw [e9]; show va_P _ _ _ t.heap; rw [ht]; exact hP)⟩, hS.F ht⟩) hS.2.2 dX6_takes_56
  have hJ28 : ∀ (s0_28 : Bool), rr = f_X6_takes_j28 rd pa p1 s0_28 → o_X6_takes_j28 rd pa p1 s0_28 → ∀ (H : Heap) (locs : List Loc), va_P (dC, dI) vwCl [(h0, .inr (6, [.ref h1, .int states, .ref h2, .int ln, .ref h3, .int thr, .ref h4, .int rd, .int num, .int due, .long hash])), (h1, .inl (cI, 163, .inl z)), (h2, .inl (cI, 978, .inl hi)), (h3, .inl (cI, 60, .inl tx)), (h4, .inl (cI, 42, .inl pa))] H → va_D A [(h0, .inr (6, [.ref h1, .int states, .ref h2, .int ln, .ref h3, .int thr, .ref h4, .int rd, .int num, .int due, .long hash])), (h1, .inl (cI, 163, .inl z)), (h2, .inl (cI, 978, .inl hi)), (h3, .inl (cI, 60, .inl tx)), (h4, .inl (cI, 42, .inl pa))] → va_S A s.heap H locs → ∀ (ls : Array Slot), lv_has ls 2 [(0, .ref h0), (1, .int p1)] → W p l e (headSpec wsX6_takes ({ frames := 3, cells := 0, slots := 0, locals := 65 })).room s m ([.ref h0, .int p1] : List Value).toArray below meth c H locs 0 0 (MQ below (va_Qi (fun (r9 : Int32) (_ : Unit) => r9 = vm_bi rr.1) (fun _ t => va_P (dC, dI) vwCl [(h0, .inr (6, [.ref h1, .int states, .ref h2, .int ln, .ref h3, .int thr, .ref h4, .int rr.2.1, .int rr.2.2.1, .int rr.2.2.2.1, .long hash])), (h1, .inl (cI, 163, .inl z)), (h2, .inl (cI, 978, .inl hi)), (h3, .inl (cI, 60, .inl tx)), (h4, .inl (cI, 42, .inl rr.2.2.2.2))] t.heap) A) ([.ref h0, .int p1] : List Value).toArray s 0 0 A) (F0 m 28 ls [.int (vm_bi s0_28), .int (3 * rd), .ref h4]) := by
    intro s0_28 eF eO H locs hP hD hS ls hl
    rw [o_X6_takes_j28] at eO
    obtain ⟨hv_5, eO⟩ := eO
    refine va_iast hx hb hK hP hD hS 4 0 rfl rfl hv_5 dX6_takes_28 (fun H locs hP hD hS => ?_)
    have hP : va_P (dC, dI) vwCl [(h0, .inr (6, [.ref h1, .int states, .ref h2, .int ln, .ref h3, .int thr, .ref h4, .int rd, .int num, .int due, .long hash])), (h1, .inl (cI, 163, .inl z)), (h2, .inl (cI, 978, .inl hi)), (h3, .inl (cI, 60, .inl tx)), (h4, .inl (cI, 42, .inl (upd pa (Int32.toNatClampNeg (3 * rd)) (vm_bi s0_28))))] H := hP
    have hD : va_D A [(h0, .inr (6, [.ref h1, .int states, .ref h2, .int ln, .ref h3, .int thr, .ref h4, .int rd, .int num, .int due, .long hash])), (h1, .inl (cI, 163, .inl z)), (h2, .inl (cI, 978, .inl hi)), (h3, .inl (cI, 60, .inl tx)), (h4, .inl (cI, 42, .inl (upd pa (Int32.toNatClampNeg (3 * rd)) (vm_bi s0_28))))] := hD
    refine lv_aload_n hx hb dX6_takes_29 rfl (lv_at hl 0 rfl) ?_
    refine lv_iconst (v := (-1)) hx hb dX6_takes_30 (by decide) ?_
    refine va_put (D := (dC, dI)) (ci := 6) (v := .int (-1)) (ty := .int) (C := RX6) (T := TX6) (N := 11) hx hb hts iwsX60 tyX6 tyX6_ok nmX6 hown hK hP hD hS 0 rfl rfl 8 (by decide) kw4 (fun _ h9 => h9) rfl (by decide +kernel) rfl rfl (Nat.le_of_ble_eq_true rfl) dX6_takes_31 (fun H locs hP hD hS => ?_)
    have hP : va_P (dC, dI) vwCl [(h0, .inr (6, [.ref h1, .int states, .ref h2, .int ln, .ref h3, .int thr, .ref h4, .int rd, .int (-1), .int due, .long hash])), (h1, .inl (cI, 163, .inl z)), (h2, .inl (cI, 978, .inl hi)), (h3, .inl (cI, 60, .inl tx)), (h4, .inl (cI, 42, .inl (upd pa (Int32.toNatClampNeg (3 * rd)) (vm_bi s0_28))))] H := hP
    have hD : va_D A [(h0, .inr (6, [.ref h1, .int states, .ref h2, .int ln, .ref h3, .int thr, .ref h4, .int rd, .int (-1), .int due, .long hash])), (h1, .inl (cI, 163, .inl z)), (h2, .inl (cI, 978, .inl hi)), (h3, .inl (cI, 60, .inl tx)), (h4, .inl (cI, 42, .inl (upd pa (Int32.toNatClampNeg (3 * rd)) (vm_bi s0_28))))] := hD
    refine lv_aload_n hx hb dX6_takes_34 rfl (lv_at hl 0 rfl) ?_
    refine lv_iconst (v := 1) hx hb dX6_takes_35 (by decide) ?_
    refine va_put (D := (dC, dI)) (ci := 6) (v := .int 1) (ty := .int) (C := RX6) (T := TX6) (N := 11) hx hb hts iwsX60 tyX6 tyX6_ok nmX6 hown hK hP hD hS 0 rfl rfl 9 (by decide) kw1 (fun _ h9 => h9) rfl (by decide +kernel) rfl rfl (Nat.le_of_ble_eq_true rfl) dX6_takes_36 (fun H locs hP hD hS => ?_)
    have hP : va_P (dC, dI) vwCl [(h0, .inr (6, [.ref h1, .int states, .ref h2, .int ln, .ref h3, .int thr, .ref h4, .int rd, .int (-1), .int 1, .long hash])), (h1, .inl (cI, 163, .inl z)), (h2, .inl (cI, 978, .inl hi)), (h3, .inl (cI, 60, .inl tx)), (h4, .inl (cI, 42, .inl (upd pa (Int32.toNatClampNeg (3 * rd)) (vm_bi s0_28))))] H := hP
    have hD : va_D A [(h0, .inr (6, [.ref h1, .int states, .ref h2, .int ln, .ref h3, .int thr, .ref h4, .int rd, .int (-1), .int 1, .long hash])), (h1, .inl (cI, 163, .inl z)), (h2, .inl (cI, 978, .inl hi)), (h3, .inl (cI, 60, .inl tx)), (h4, .inl (cI, 42, .inl (upd pa (Int32.toNatClampNeg (3 * rd)) (vm_bi s0_28))))] := hD
    refine lv_iload_n hx hb dX6_takes_39 rfl (lv_at hl 1 rfl) ?_
    refine lv_bipush (v := 115) hx hb dX6_takes_40 (by decide) ?_
    refine lv_icmp_eq (tgt := 51) hx hb dX6_takes_42 (by decide) (fun c_6 => ?_) (fun c_6 => ?_)
    · rw [if_pos c_6] at eO
      exact hJ51 (upd pa (Int32.toNatClampNeg (3 * rd)) (vm_bi s0_28)) (eF.trans (by rw [f_X6_takes_j28, if_pos c_6])) eO _ _ hP hD hS ls (lv_sub hl [] rfl)
    · rw [if_neg c_6] at eO
      refine lv_iload_n hx hb dX6_takes_45 rfl (lv_at hl 1 rfl) ?_
      refine lv_bipush (v := 117) hx hb dX6_takes_46 (by decide) ?_
      refine lv_icmp_ne (tgt := 55) hx hb dX6_takes_48 (by decide) (fun c_7 => ?_) (fun c_7 => ?_)
      · rw [if_neg c_7] at eO
        refine lv_iconst (v := 0) hx hb dX6_takes_55 (by decide) ?_
        have e9 : rr = ((false, rd, (-1), 1, (upd pa (Int32.toNatClampNeg (3 * rd)) (vm_bi s0_28))) : Bool × Int32 × Int32 × Int32 × (Nat → Int32)) := eF.trans (by rw [f_X6_takes_j28, if_neg c_6, if_neg c_7])
        exact W.zret (v := 0) hx hb hr rfl (fun t ht hW => ⟨⟨_, (), rfl, by rw [e9] <;> rfl, (by rw [e9]; show va_P _ _ _ t.heap; rw [ht]; exact hP)⟩, hS.F ht⟩) hS.2.2 dX6_takes_56
      · rw [if_pos c_7] at eO
        exact hJ51 (upd pa (Int32.toNatClampNeg (3 * rd)) (vm_bi s0_28)) (eF.trans (by rw [f_X6_takes_j28, if_neg c_6, if_pos c_7])) eO _ _ hP hD hS ls (lv_sub hl [] rfl)
  rw [o_X6_takes] at eO
  refine lv_aload_n hx hb dX6_takes_0 rfl (lv_at hl 0 rfl) ?_
  refine va_get (D := (dC, dI)) (ci := 6) (v := .int due) (C := RX6) (T := TX6) (N := 11) hx hb hts iwsX60 hown hK hP 0 rfl rfl 9 (by decide) kw1 (fun _ h9 => h9) rfl dX6_takes_1 ?_
  refine lv_if_ne (tgt := 57) hx hb dX6_takes_4 (by decide) (fun c_8 => ?_) (fun c_8 => ?_)
  · rw [if_neg c_8] at eO
    refine lv_aload_n hx hb dX6_takes_57 rfl (lv_at hl 0 rfl) ?_
    refine va_get (D := (dC, dI)) (ci := 6) (v := .int due) (C := RX6) (T := TX6) (N := 11) hx hb hts iwsX60 hown hK hP 0 rfl rfl 9 (by decide) kw1 (fun _ h9 => h9) rfl dX6_takes_58 ?_
    refine lv_iconst (v := 1) hx hb dX6_takes_61 (by decide) ?_
    refine lv_icmp_ne (tgt := 91) hx hb dX6_takes_62 (by decide) (fun c_9 => ?_) (fun c_9 => ?_)
    · rw [if_neg c_9] at eO
      exact hJ91 (eF.trans (by rw [f_X6_takes, if_neg c_8, if_neg c_9])) eO _ _ hP hD hS ls (lv_sub hl [0, 1] rfl)
    · rw [if_pos c_9] at eO
      refine lv_iload_n hx hb dX6_takes_65 rfl (lv_at hl 1 rfl) ?_
      refine lv_bipush (v := 58) hx hb dX6_takes_66 (by decide) ?_
      refine lv_icmp_ne (tgt := 91) hx hb dX6_takes_68 (by decide) (fun c_10 => ?_) (fun c_10 => ?_)
      · rw [if_neg c_10] at eO
        exact hJ91 (eF.trans (by rw [f_X6_takes, if_neg c_8, if_pos c_9, if_neg c_10])) eO _ _ hP hD hS ls (lv_sub hl [0, 1] rfl)
      · rw [if_pos c_10] at eO
        refine lv_aload_n hx hb dX6_takes_71 rfl (lv_at hl 0 rfl) ?_
        refine va_get (D := (dC, dI)) (ci := 6) (v := .int num) (C := RX6) (T := TX6) (N := 11) hx hb hts iwsX60 hown hK hP 0 rfl rfl 8 (by decide) kw4 (fun _ h9 => h9) rfl dX6_takes_72 ?_
        refine lv_iconst (v := (-1)) hx hb dX6_takes_75 (by decide) ?_
        refine lv_icmp_eq (tgt := 91) hx hb dX6_takes_76 (by decide) (fun c_11 => ?_) (fun c_11 => ?_)
        · rw [if_pos c_11] at eO
          exact hJ91 (eF.trans (by rw [f_X6_takes, if_neg c_8, if_pos c_9, if_pos c_10, if_pos c_11])) eO _ _ hP hD hS ls (lv_sub hl [0, 1] rfl)
        · rw [if_neg c_11] at eO
          refine lv_aload_n hx hb dX6_takes_79 rfl (lv_at hl 0 rfl) ?_
          refine lv_iconst (v := (-1)) hx hb dX6_takes_80 (by decide) ?_
          refine va_put (D := (dC, dI)) (ci := 6) (v := .int (-1)) (ty := .int) (C := RX6) (T := TX6) (N := 11) hx hb hts iwsX60 tyX6 tyX6_ok nmX6 hown hK hP hD hS 0 rfl rfl 8 (by decide) kw4 (fun _ h9 => h9) rfl (by decide +kernel) rfl rfl (Nat.le_of_ble_eq_true rfl) dX6_takes_81 (fun H locs hP hD hS => ?_)
          have hP : va_P (dC, dI) vwCl [(h0, .inr (6, [.ref h1, .int states, .ref h2, .int ln, .ref h3, .int thr, .ref h4, .int rd, .int (-1), .int due, .long hash])), (h1, .inl (cI, 163, .inl z)), (h2, .inl (cI, 978, .inl hi)), (h3, .inl (cI, 60, .inl tx)), (h4, .inl (cI, 42, .inl pa))] H := hP
          have hD : va_D A [(h0, .inr (6, [.ref h1, .int states, .ref h2, .int ln, .ref h3, .int thr, .ref h4, .int rd, .int (-1), .int due, .long hash])), (h1, .inl (cI, 163, .inl z)), (h2, .inl (cI, 978, .inl hi)), (h3, .inl (cI, 60, .inl tx)), (h4, .inl (cI, 42, .inl pa))] := hD
          refine lv_aload_n hx hb dX6_takes_84 rfl (lv_at hl 0 rfl) ?_
          refine lv_iconst (v := 2) hx hb dX6_takes_85 (by decide) ?_
          refine va_put (D := (dC, dI)) (ci := 6) (v := .int 2) (ty := .int) (C := RX6) (T := TX6) (N := 11) hx hb hts iwsX60 tyX6 tyX6_ok nmX6 hown hK hP hD hS 0 rfl rfl 9 (by decide) kw1 (fun _ h9 => h9) rfl (by decide +kernel) rfl rfl (Nat.le_of_ble_eq_true rfl) dX6_takes_86 (fun H locs hP hD hS => ?_)
          have hP : va_P (dC, dI) vwCl [(h0, .inr (6, [.ref h1, .int states, .ref h2, .int ln, .ref h3, .int thr, .ref h4, .int rd, .int (-1), .int 2, .long hash])), (h1, .inl (cI, 163, .inl z)), (h2, .inl (cI, 978, .inl hi)), (h3, .inl (cI, 60, .inl tx)), (h4, .inl (cI, 42, .inl pa))] H := hP
          have hD : va_D A [(h0, .inr (6, [.ref h1, .int states, .ref h2, .int ln, .ref h3, .int thr, .ref h4, .int rd, .int (-1), .int 2, .long hash])), (h1, .inl (cI, 163, .inl z)), (h2, .inl (cI, 978, .inl hi)), (h3, .inl (cI, 60, .inl tx)), (h4, .inl (cI, 42, .inl pa))] := hD
          refine lv_iconst (v := 1) hx hb dX6_takes_89 (by decide) ?_
          have e9 : rr = ((true, rd, (-1), 2, pa) : Bool × Int32 × Int32 × Int32 × (Nat → Int32)) := eF.trans (by rw [f_X6_takes, if_neg c_8, if_pos c_9, if_pos c_10, if_neg c_11])
          exact W.zret (v := 1) hx hb hr rfl (fun t ht hW => ⟨⟨_, (), rfl, by rw [e9] <;> rfl, (by rw [e9]; show va_P _ _ _ t.heap; rw [ht]; exact hP)⟩, hS.F ht⟩) hS.2.2 dX6_takes_90
  · rw [if_pos c_8] at eO
    refine lv_aload_n hx hb dX6_takes_7 rfl (lv_at hl 0 rfl) ?_
    refine va_get (D := (dC, dI)) (ci := 6) (v := .ref h4) (C := RX6) (T := TX6) (N := 11) hx hb hts iwsX60 hown hK hP 0 rfl rfl 6 (by decide) kw2 (fun _ h9 => h9) rfl dX6_takes_8 ?_
    refine lv_iconst (v := 3) hx hb dX6_takes_11 (by decide) ?_
    refine lv_aload_n hx hb dX6_takes_12 rfl (lv_at hl 0 rfl) ?_
    refine va_get (D := (dC, dI)) (ci := 6) (v := .int rd) (C := RX6) (T := TX6) (N := 11) hx hb hts iwsX60 hown hK hP 0 rfl rfl 7 (by decide) kw3 (fun _ h9 => h9) rfl dX6_takes_13 ?_
    refine lv_imul hx hb dX6_takes_16 ?_
    refine lv_iload_n hx hb dX6_takes_17 rfl (lv_at hl 1 rfl) ?_
    refine lv_bipush (v := 117) hx hb dX6_takes_18 (by decide) ?_
    refine lv_icmp_ne (tgt := 27) hx hb dX6_takes_20 (by decide) (fun c_12 => ?_) (fun c_12 => ?_)
    · rw [if_neg c_12] at eO
      refine lv_iconst (v := 0) hx hb dX6_takes_27 (by decide) ?_
      exact hJ28 false (eF.trans (by rw [f_X6_takes, if_pos c_8, if_neg c_12])) eO _ _ hP hD hS ls (lv_sub hl [0, 1] rfl)
    · rw [if_pos c_12] at eO
      refine lv_iconst (v := 1) hx hb dX6_takes_23 (by decide) ?_
      refine lv_goto (tgt := 28) hx hb dX6_takes_24 (by decide) ?_
      exact hJ28 true (eF.trans (by rw [f_X6_takes, if_pos c_8, if_pos c_12])) eO _ _ hP hD hS ls (lv_sub hl [0, 1] rfl)

def f_X6_rightUpTo_c30 (x1_12 : Int32) (kj12 : Int32 → Int32 → Int32 → Int32 → (Nat → Int32) → (Int32 × Int32 × Int32 × Int32 × (Nat → Int32))) (y30 : Bool) (rd_c30 : Int32) (num_c30 : Int32) (due_c30 : Int32) (pa_c30 : Nat → Int32) : Int32 × Int32 × Int32 × Int32 × (Nat → Int32) :=
  if (vm_bi y30) = 0 then
    (x1_12, rd_c30, num_c30, due_c30, pa_c30)
  else
    kj12 (x1_12 + 1) rd_c30 num_c30 due_c30 pa_c30
def f_X6_rightUpTo_j12 (ln : Int32) (tx : Nat → Int32) : Nat → Int32 → Int32 → Int32 → Int32 → (Nat → Int32) → Int32 × Int32 × Int32 × Int32 × (Nat → Int32)
  | 0, _, _, _, _, _ => (0, 0, 0, 0, (fun _ => 0))
  | n12 + 1, x1_12, rd_12, num_12, due_12, pa_12 => if ln ≤ x1_12 then
      (x1_12, rd_12, num_12, due_12, pa_12)
    else
      f_X6_rightUpTo_c30 x1_12 (f_X6_rightUpTo_j12 ln tx n12) ((f_X6_takes rd_12 num_12 due_12 pa_12 (tx (Int32.toNatClampNeg x1_12))).1) ((f_X6_takes rd_12 num_12 due_12 pa_12 (tx (Int32.toNatClampNeg x1_12))).2.1) ((f_X6_takes rd_12 num_12 due_12 pa_12 (tx (Int32.toNatClampNeg x1_12))).2.2.1) ((f_X6_takes rd_12 num_12 due_12 pa_12 (tx (Int32.toNatClampNeg x1_12))).2.2.2.1) ((f_X6_takes rd_12 num_12 due_12 pa_12 (tx (Int32.toNatClampNeg x1_12))).2.2.2.2)
def f_X6_rightUpTo (ln : Int32) (num : Int32) (tx : Nat → Int32) (pa : Nat → Int32) : Int32 × Int32 × Int32 × Int32 × (Nat → Int32) :=
  f_X6_rightUpTo_j12 ln tx (((ln).toInt - ((0 : Int32)).toInt).toNat + 1) 0 0 num 0 pa
def o_X6_rightUpTo_c30 (x1_12 : Int32) (koj12 : Int32 → Int32 → Int32 → Int32 → (Nat → Int32) → Prop) (y30 : Bool) (rd_c30 : Int32) (num_c30 : Int32) (due_c30 : Int32) (pa_c30 : Nat → Int32) : Prop :=
  if (vm_bi y30) = 0 then
    True
  else
    koj12 (x1_12 + 1) rd_c30 num_c30 due_c30 pa_c30
def o_X6_rightUpTo_j12 (ln : Int32) (tx : Nat → Int32) : Nat → Int32 → Int32 → Int32 → Int32 → (Nat → Int32) → Prop
  | 0, _, _, _, _, _ => True
  | n12 + 1, x1_12, rd_12, num_12, due_12, pa_12 => if ln ≤ x1_12 then
      True
    else
      vp_in x1_12 60 ∧
      (o_X6_takes rd_12 num_12 due_12 pa_12 (tx (Int32.toNatClampNeg x1_12)) ∧
      (o_X6_rightUpTo_c30 x1_12 (o_X6_rightUpTo_j12 ln tx n12) ((f_X6_takes rd_12 num_12 due_12 pa_12 (tx (Int32.toNatClampNeg x1_12))).1) ((f_X6_takes rd_12 num_12 due_12 pa_12 (tx (Int32.toNatClampNeg x1_12))).2.1) ((f_X6_takes rd_12 num_12 due_12 pa_12 (tx (Int32.toNatClampNeg x1_12))).2.2.1) ((f_X6_takes rd_12 num_12 due_12 pa_12 (tx (Int32.toNatClampNeg x1_12))).2.2.2.1) ((f_X6_takes rd_12 num_12 due_12 pa_12 (tx (Int32.toNatClampNeg x1_12))).2.2.2.2)))
def o_X6_rightUpTo (ln : Int32) (num : Int32) (tx : Nat → Int32) (pa : Nat → Int32) : Prop :=
  o_X6_rightUpTo_j12 ln tx (((ln).toInt - ((0 : Int32)).toInt).toNat + 1) 0 0 num 0 pa
theorem yd_X6_rightUpTo : yX6_rightUpTo.cls = RX6 ∧ yX6_rightUpTo.cls ≠ "java/lang/invoke/MethodHandle" ∧ yX6_rightUpTo.cls ≠ "java/lang/invoke/VarHandle" ∧ (parseMethodDescriptor yX6_rightUpTo.desc).map (fun d => d.parameters.length) = some 0 := by decide +kernel
set_option maxHeartbeats 4000000 in
set_option maxRecDepth 100000 in
theorem c_X6_rightUpTo (l : Launch) (dC : Nat → ClassId) (dI : Nat → Nat → Nat) (cI cB : ClassId) (h0 h1 h2 h3 h4 : Nat) (sz : Nat) (states : Int32) (ln : Int32) (thr : Int32) (rd : Int32) (num : Int32) (due : Int32) (hash : Int64) (z : Nat → Int32) (hi : Nat → Int32) (tx : Nat → Int32) (pa : Nat → Int32) (eO : o_X6_rightUpTo ln num tx pa) : Met l yX6_rightUpTo wsX6_rightUpTo ({ frames := 4, cells := 0, slots := 0, locals := 86 }) (vm_prw [.ref h0] (dC, dI) [(h0, .inr (6, [.ref h1, .int states, .ref h2, .int ln, .ref h3, .int thr, .ref h4, .int rd, .int num, .int due, .long hash])), (h1, .inl (cI, 163, .inl z)), (h2, .inl (cI, 978, .inl hi)), (h3, .inl (cI, 60, .inl tx)), (h4, .inl (cI, 42, .inl pa))] cI cB sz) (va_Qi (fun (r9 : Int32) (_ : Unit) => r9 = (f_X6_rightUpTo ln num tx pa).1) (fun _ t => va_P (dC, dI) vwCl [(h0, .inr (6, [.ref h1, .int states, .ref h2, .int ln, .ref h3, .int thr, .ref h4, .int ((f_X6_rightUpTo ln num tx pa).2.1), .int ((f_X6_rightUpTo ln num tx pa).2.2.1), .int ((f_X6_rightUpTo ln num tx pa).2.2.2.1), .long hash])), (h1, .inl (cI, 163, .inl z)), (h2, .inl (cI, 978, .inl hi)), (h3, .inl (cI, 60, .inl tx)), (h4, .inl (cI, 42, .inl ((f_X6_rightUpTo ln num tx pa).2.2.2.2)))] t.heap) (va_A [(h0, .inr (6, [.ref h1, .int states, .ref h2, .int ln, .ref h3, .int thr, .ref h4, .int rd, .int num, .int due, .long hash])), (h1, .inl (cI, 163, .inl z)), (h2, .inl (cI, 978, .inl hi)), (h3, .inl (cI, 60, .inl tx)), (h4, .inl (cI, 42, .inl pa))] sz)) 0 0 (va_A [(h0, .inr (6, [.ref h1, .int states, .ref h2, .int ln, .ref h3, .int thr, .ref h4, .int rd, .int num, .int due, .long hash])), (h1, .inl (cI, 163, .inl z)), (h2, .inl (cI, 978, .inl hi)), (h3, .inl (cI, 60, .inl tx)), (h4, .inl (cI, 42, .inl pa))] sz) := by
  refine Met.ofW (cc := cX6_rightUpTo) (maxL := 2) (ret := (some .int)) (by decide) rfl ?_
  intro p e s m args below meth c s₁ B hml hv
  obtain ⟨rfl, hsz, hP, hK, hN, hD0⟩ := hv
  have hx := B.exec
  have hb := B.bytes
  have hr := B.returns
  have hts := atoms_spec (ws := wsX6_rightUpTo) B.pre
  have hown : s.vm.findClass RX6 = some m.cls := findClass_of_methodNamed B.named
  have hlocks := B.notSynchronized
  subst hsz
  have hD := hD0.self (sz := s.heap.size)
  generalize hAe : va_A [(h0, .inr (6, [.ref h1, .int states, .ref h2, .int ln, .ref h3, .int thr, .ref h4, .int rd, .int num, .int due, .long hash])), (h1, .inl (cI, 163, .inl z)), (h2, .inl (cI, 978, .inl hi)), (h3, .inl (cI, 60, .inl tx)), (h4, .inl (cI, 42, .inl pa))] s.heap.size = A at hD ⊢
  have hA : ∀ q : Nat, s.heap.size ≤ q → A q := fun q h => by rw [← hAe]; exact Or.inr h
  have hS : va_S A s.heap s.heap [] := va_S.rf
  have hP : va_P (dC, dI) vwCl [(h0, .inr (6, [.ref h1, .int states, .ref h2, .int ln, .ref h3, .int thr, .ref h4, .int rd, .int num, .int due, .long hash])), (h1, .inl (cI, 163, .inl z)), (h2, .inl (cI, 978, .inl hi)), (h3, .inl (cI, 60, .inl tx)), (h4, .inl (cI, 42, .inl pa))] s.heap := hP
  have kw1 := hts (.fieldLink RX6 148 "LapseMandatesModel" "read" "I") (List.mem_of_getElem? (i := 1) rfl)
  have kw2 := hts (.fieldLink RX6 145 "LapseMandatesModel" "due" "I") (List.mem_of_getElem? (i := 2) rfl)
  have kw3 := hts (.fieldLink RX6 139 "LapseMandatesModel" "length" "I") (List.mem_of_getElem? (i := 3) rfl)
  have kw4 := hts (.fieldLink RX6 16 "LapseMandatesModel" "text" "[I") (List.mem_of_getElem? (i := 4) rfl)
  have iwsX60 : ∀ w ∈ wsX60, w ∈ wsX6_rightUpTo := fun w h => List.mem_cons_of_mem _ (List.mem_append_right _ h)
  generalize hrr : f_X6_rightUpTo ln num tx pa = rr
  have eF := hrr.symm
  have hl := lv_entry ([.ref h0]) (n := 2) (Nat.le_of_ble_eq_true rfl)
  rw [lg_entry_eq]
  generalize (lg_sl ([.ref h0]) ++ List.replicate (2 - (lg_sl ([.ref h0])).length) Slot.unset).toArray = ls at hl ⊢
  have hl : lv_has ls 2 [(0, .ref h0)] := hl
  have hJ12 : ∀ (n12 : Nat) (x1_12 : Int32) (rd_12 : Int32) (num_12 : Int32) (due_12 : Int32) (pa_12 : Nat → Int32), ((ln).toInt - (x1_12).toInt).toNat < n12 → 0 ≤ x1_12 → rr = f_X6_rightUpTo_j12 ln tx n12 x1_12 rd_12 num_12 due_12 pa_12 → o_X6_rightUpTo_j12 ln tx n12 x1_12 rd_12 num_12 due_12 pa_12 → ∀ (H : Heap) (locs : List Loc), va_P (dC, dI) vwCl [(h0, .inr (6, [.ref h1, .int states, .ref h2, .int ln, .ref h3, .int thr, .ref h4, .int rd_12, .int num_12, .int due_12, .long hash])), (h1, .inl (cI, 163, .inl z)), (h2, .inl (cI, 978, .inl hi)), (h3, .inl (cI, 60, .inl tx)), (h4, .inl (cI, 42, .inl pa_12))] H → va_D A [(h0, .inr (6, [.ref h1, .int states, .ref h2, .int ln, .ref h3, .int thr, .ref h4, .int rd_12, .int num_12, .int due_12, .long hash])), (h1, .inl (cI, 163, .inl z)), (h2, .inl (cI, 978, .inl hi)), (h3, .inl (cI, 60, .inl tx)), (h4, .inl (cI, 42, .inl pa_12))] → va_S A s.heap H locs → ∀ (ls : Array Slot), lv_has ls 2 [(0, .ref h0), (1, .int x1_12)] → W p l e (headSpec wsX6_rightUpTo ({ frames := 4, cells := 0, slots := 0, locals := 86 })).room s m ([.ref h0] : List Value).toArray below meth c H locs 0 0 (MQ below (va_Qi (fun (r9 : Int32) (_ : Unit) => r9 = rr.1) (fun _ t => va_P (dC, dI) vwCl [(h0, .inr (6, [.ref h1, .int states, .ref h2, .int ln, .ref h3, .int thr, .ref h4, .int rr.2.1, .int rr.2.2.1, .int rr.2.2.2.1, .long hash])), (h1, .inl (cI, 163, .inl z)), (h2, .inl (cI, 978, .inl hi)), (h3, .inl (cI, 60, .inl tx)), (h4, .inl (cI, 42, .inl rr.2.2.2.2))] t.heap) A) ([.ref h0] : List Value).toArray s 0 0 A) (F0 m 12 ls []) := by
    intro n12
    induction n12 with
    | zero =>
      intro x1_12 rd_12 num_12 due_12 pa_12 hm12
      exact absurd hm12 (Nat.not_lt_zero _)
    | succ n12 ih12 =>
      intro x1_12 rd_12 num_12 due_12 pa_12 hm12 hi12 eF eO H locs hP hD hS ls hl
      rw [o_X6_rightUpTo_j12] at eO
      refine lv_iload_n hx hb dX6_rightUpTo_12 rfl (lv_at hl 1 rfl) ?_
      refine lv_aload_n hx hb dX6_rightUpTo_13 rfl (lv_at hl 0 rfl) ?_
      refine va_get (D := (dC, dI)) (ci := 6) (v := .int ln) (C := RX6) (T := TX6) (N := 11) hx hb hts iwsX60 hown hK hP 0 rfl rfl 3 (by decide) kw3 (fun _ h9 => h9) rfl dX6_rightUpTo_14 ?_
      refine lv_icmp_ge (tgt := 39) hx hb dX6_rightUpTo_17 (by decide) (fun cL12 => ?_) (fun cL12 => ?_)
      · rw [if_pos cL12] at eO
        refine lv_iload_n hx hb dX6_rightUpTo_39 rfl (lv_at hl 1 rfl) ?_
        have e9 : rr = ((x1_12, rd_12, num_12, due_12, pa_12) : Int32 × Int32 × Int32 × Int32 × (Nat → Int32)) := eF.trans (by rw [f_X6_rightUpTo_j12, if_pos cL12])
        exact W.iret (v := x1_12) hx hb hr (fun t ht hW => ⟨⟨_, (), rfl, by rw [e9], (by rw [e9]; show va_P _ _ _ t.heap; rw [ht]; exact hP)⟩, hS.F ht⟩) hS.2.2 dX6_rightUpTo_40
      · rw [if_neg cL12] at eO
        refine lv_aload_n hx hb dX6_rightUpTo_20 rfl (lv_at hl 0 rfl) ?_
        refine lv_aload_n hx hb dX6_rightUpTo_21 rfl (lv_at hl 0 rfl) ?_
        refine va_get (D := (dC, dI)) (ci := 6) (v := .ref h3) (C := RX6) (T := TX6) (N := 11) hx hb hts iwsX60 hown hK hP 0 rfl rfl 4 (by decide) kw4 (fun _ h9 => h9) rfl dX6_rightUpTo_22 ?_
        refine lv_iload_n hx hb dX6_rightUpTo_25 rfl (lv_at hl 1 rfl) ?_
        obtain ⟨hv_2, eO⟩ := eO
        refine va_iald hx hb hK hP 3 0 rfl rfl hv_2 dX6_rightUpTo_26 ?_
        obtain ⟨hv_3, eO⟩ := eO
        refine vm_rwV (As := [.int (tx (Int32.toNatClampNeg x1_12))]) (rest := []) (T := TX6) (N := 11) (wc := [(h0, .inr (6, [.ref h1, .int states, .ref h2, .int ln, .ref h3, .int thr, .ref h4, .int rd_12, .int num_12, .int due_12, .long hash])), (h1, .inl (cI, 163, .inl z)), (h2, .inl (cI, 978, .inl hi)), (h3, .inl (cI, 60, .inl tx)), (h4, .inl (cI, 42, .inl pa_12))]) (w1 := [(h0, .inr (6, [.ref h1, .int states, .ref h2, .int ln, .ref h3, .int thr, .ref h4, .int ((f_X6_takes rd_12 num_12 due_12 pa_12 (tx (Int32.toNatClampNeg x1_12))).2.1), .int ((f_X6_takes rd_12 num_12 due_12 pa_12 (tx (Int32.toNatClampNeg x1_12))).2.2.1), .int ((f_X6_takes rd_12 num_12 due_12 pa_12 (tx (Int32.toNatClampNeg x1_12))).2.2.2.1), .long hash])), (h1, .inl (cI, 163, .inl z)), (h2, .inl (cI, 978, .inl hi)), (h3, .inl (cI, 60, .inl tx)), (h4, .inl (cI, 42, .inl ((f_X6_takes rd_12 num_12 due_12 pa_12 (tx (Int32.toNatClampNeg x1_12))).2.2.2.2)))]) ⟨hx, hb, hml, hown, hts⟩ hK hN hP hD hS hA hl.1 ⟨Nat.le_of_ble_eq_true rfl, Nat.le_of_ble_eq_true rfl⟩ (c_X6_takes l dC dI cI cB h0 h1 h2 h3 h4 _ states ln thr rd_12 num_12 due_12 hash z hi tx pa_12 (tx (Int32.toNatClampNeg x1_12)) hv_3) (cwV 1 hts gX6_rightUpTo_X6_takes rfl rfl rfl yd_X6_takes ⟨Nat.le_of_ble_eq_true rfl, Nat.le_of_ble_eq_true rfl⟩) [0, 1, 2, 3, 4] rfl rfl rfl 6 rfl rfl rfl rfl (Nat.le_of_ble_eq_true rfl) dX6_rightUpTo_27 (fun r30 H locs hw hP hD hS => ?_)
        have hP : va_P (dC, dI) vwCl [(h0, .inr (6, [.ref h1, .int states, .ref h2, .int ln, .ref h3, .int thr, .ref h4, .int ((f_X6_takes rd_12 num_12 due_12 pa_12 (tx (Int32.toNatClampNeg x1_12))).2.1), .int ((f_X6_takes rd_12 num_12 due_12 pa_12 (tx (Int32.toNatClampNeg x1_12))).2.2.1), .int ((f_X6_takes rd_12 num_12 due_12 pa_12 (tx (Int32.toNatClampNeg x1_12))).2.2.2.1), .long hash])), (h1, .inl (cI, 163, .inl z)), (h2, .inl (cI, 978, .inl hi)), (h3, .inl (cI, 60, .inl tx)), (h4, .inl (cI, 42, .inl ((f_X6_takes rd_12 num_12 due_12 pa_12 (tx (Int32.toNatClampNeg x1_12))).2.2.2.2)))] H := hP
        have hD : va_D A [(h0, .inr (6, [.ref h1, .int states, .ref h2, .int ln, .ref h3, .int thr, .ref h4, .int ((f_X6_takes rd_12 num_12 due_12 pa_12 (tx (Int32.toNatClampNeg x1_12))).2.1), .int ((f_X6_takes rd_12 num_12 due_12 pa_12 (tx (Int32.toNatClampNeg x1_12))).2.2.1), .int ((f_X6_takes rd_12 num_12 due_12 pa_12 (tx (Int32.toNatClampNeg x1_12))).2.2.2.1), .long hash])), (h1, .inl (cI, 163, .inl z)), (h2, .inl (cI, 978, .inl hi)), (h3, .inl (cI, 60, .inl tx)), (h4, .inl (cI, 42, .inl ((f_X6_takes rd_12 num_12 due_12 pa_12 (tx (Int32.toNatClampNeg x1_12))).2.2.2.2)))] := hD
        obtain ⟨y30, ey30⟩ : ∃ zz9, zz9 = (f_X6_takes rd_12 num_12 due_12 pa_12 (tx (Int32.toNatClampNeg x1_12))).1 := ⟨_, rfl⟩
        obtain rfl : r30 = vm_bi y30 := hw.trans (congrArg vm_bi ey30.symm)
        obtain ⟨rd_c30, erd_c30⟩ : ∃ zz9, zz9 = (f_X6_takes rd_12 num_12 due_12 pa_12 (tx (Int32.toNatClampNeg x1_12))).2.1 := ⟨_, rfl⟩
        rw [← erd_c30] at hP hD
        obtain ⟨num_c30, enum_c30⟩ : ∃ zz9, zz9 = (f_X6_takes rd_12 num_12 due_12 pa_12 (tx (Int32.toNatClampNeg x1_12))).2.2.1 := ⟨_, rfl⟩
        rw [← enum_c30] at hP hD
        obtain ⟨due_c30, edue_c30⟩ : ∃ zz9, zz9 = (f_X6_takes rd_12 num_12 due_12 pa_12 (tx (Int32.toNatClampNeg x1_12))).2.2.2.1 := ⟨_, rfl⟩
        rw [← edue_c30] at hP hD
        obtain ⟨pa_c30, epa_c30⟩ : ∃ zz9, zz9 = (f_X6_takes rd_12 num_12 due_12 pa_12 (tx (Int32.toNatClampNeg x1_12))).2.2.2.2 := ⟨_, rfl⟩
        rw [← epa_c30] at hP hD
        have eF : rr = f_X6_rightUpTo_c30 x1_12 (f_X6_rightUpTo_j12 ln tx n12) y30 rd_c30 num_c30 due_c30 pa_c30 := eF.trans (by rw [f_X6_rightUpTo_j12, if_neg cL12, ey30, erd_c30, enum_c30, edue_c30, epa_c30])
        have eO : o_X6_rightUpTo_c30 x1_12 (o_X6_rightUpTo_j12 ln tx n12) y30 rd_c30 num_c30 due_c30 pa_c30 := by rw [ey30, erd_c30, enum_c30, edue_c30, epa_c30]; exact eO
        rw [o_X6_rightUpTo_c30] at eO
        refine lv_if_eq (tgt := 39) hx hb dX6_rightUpTo_30 (by decide) (fun c_4 => ?_) (fun c_4 => ?_)
        · rw [if_pos c_4] at eO
          refine lv_iload_n hx hb dX6_rightUpTo_39 rfl (lv_at hl 1 rfl) ?_
          have e9 : rr = ((x1_12, rd_c30, num_c30, due_c30, pa_c30) : Int32 × Int32 × Int32 × Int32 × (Nat → Int32)) := eF.trans (by rw [f_X6_rightUpTo_c30, if_pos c_4])
          exact W.iret (v := x1_12) hx hb hr (fun t ht hW => ⟨⟨_, (), rfl, by rw [e9], (by rw [e9]; show va_P _ _ _ t.heap; rw [ht]; exact hP)⟩, hS.F ht⟩) hS.2.2 dX6_rightUpTo_40
        · rw [if_neg c_4] at eO
          refine lv_iinc (v := (x1_12 + 1)) (lv' := [(1, .int (x1_12 + 1)), (0, .ref h0)]) hx hb dX6_rightUpTo_33 hl (k := 1) rfl rfl (by decide) rfl (fun ls hl => ?_)
          refine lv_goto (tgt := 12) hx hb dX6_rightUpTo_36 (by decide) ?_
          exact ih12 (x1_12 + 1) rd_c30 num_c30 due_c30 pa_c30 (vm_up (vm_nle cL12) hm12) (vm_nn hi12 (vm_nle cL12)) (eF.trans (by rw [f_X6_rightUpTo_c30, if_neg c_4])) eO _ _ hP hD hS ls (lv_sub hl [1, 0] rfl)
  rw [o_X6_rightUpTo] at eO
  refine lv_aload_n hx hb dX6_rightUpTo_0 rfl (lv_at hl 0 rfl) ?_
  refine lv_iconst (v := 0) hx hb dX6_rightUpTo_1 (by decide) ?_
  refine va_put (D := (dC, dI)) (ci := 6) (v := .int 0) (ty := .int) (C := RX6) (T := TX6) (N := 11) hx hb hts iwsX60 tyX6 tyX6_ok nmX6 hown hK hP hD hS 0 rfl rfl 7 (by decide) kw1 (fun _ h9 => h9) rfl (by decide +kernel) rfl rfl (Nat.le_of_ble_eq_true rfl) dX6_rightUpTo_2 (fun H locs hP hD hS => ?_)
  have hP : va_P (dC, dI) vwCl [(h0, .inr (6, [.ref h1, .int states, .ref h2, .int ln, .ref h3, .int thr, .ref h4, .int 0, .int num, .int due, .long hash])), (h1, .inl (cI, 163, .inl z)), (h2, .inl (cI, 978, .inl hi)), (h3, .inl (cI, 60, .inl tx)), (h4, .inl (cI, 42, .inl pa))] H := hP
  have hD : va_D A [(h0, .inr (6, [.ref h1, .int states, .ref h2, .int ln, .ref h3, .int thr, .ref h4, .int 0, .int num, .int due, .long hash])), (h1, .inl (cI, 163, .inl z)), (h2, .inl (cI, 978, .inl hi)), (h3, .inl (cI, 60, .inl tx)), (h4, .inl (cI, 42, .inl pa))] := hD
  refine lv_aload_n hx hb dX6_rightUpTo_5 rfl (lv_at hl 0 rfl) ?_
  refine lv_iconst (v := 0) hx hb dX6_rightUpTo_6 (by decide) ?_
  refine va_put (D := (dC, dI)) (ci := 6) (v := .int 0) (ty := .int) (C := RX6) (T := TX6) (N := 11) hx hb hts iwsX60 tyX6 tyX6_ok nmX6 hown hK hP hD hS 0 rfl rfl 9 (by decide) kw2 (fun _ h9 => h9) rfl (by decide +kernel) rfl rfl (Nat.le_of_ble_eq_true rfl) dX6_rightUpTo_7 (fun H locs hP hD hS => ?_)
  have hP : va_P (dC, dI) vwCl [(h0, .inr (6, [.ref h1, .int states, .ref h2, .int ln, .ref h3, .int thr, .ref h4, .int 0, .int num, .int 0, .long hash])), (h1, .inl (cI, 163, .inl z)), (h2, .inl (cI, 978, .inl hi)), (h3, .inl (cI, 60, .inl tx)), (h4, .inl (cI, 42, .inl pa))] H := hP
  have hD : va_D A [(h0, .inr (6, [.ref h1, .int states, .ref h2, .int ln, .ref h3, .int thr, .ref h4, .int 0, .int num, .int 0, .long hash])), (h1, .inl (cI, 163, .inl z)), (h2, .inl (cI, 978, .inl hi)), (h3, .inl (cI, 60, .inl tx)), (h4, .inl (cI, 42, .inl pa))] := hD
  refine lv_iconst (v := 0) hx hb dX6_rightUpTo_10 (by decide) ?_
  refine lv_istore_n (lv' := [(1, .int 0), (0, .ref h0)]) hx hb dX6_rightUpTo_11 rfl hl (by decide) rfl (fun ls hl => ?_)
  exact hJ12 (((ln).toInt - ((0 : Int32)).toInt).toNat + 1) 0 0 num 0 pa (Nat.lt_succ_self _) (by decide) (eF.trans (by rw [f_X6_rightUpTo])) eO _ _ hP hD hS ls (lv_sub hl [1, 0] rfl)

def f_X6_firstError_c9 (y9 : Int32) (rd_c9 : Int32) (num_c9 : Int32) (due_c9 : Int32) (pa_c9 : Nat → Int32) : Int32 × Int32 × Int32 × Int32 × Int32 × (Nat → Int32) :=
  (y9, 0, rd_c9, num_c9, due_c9, pa_c9)
def f_X6_firstError (ln : Int32) (num : Int32) (tx : Nat → Int32) (pa : Nat → Int32) : Int32 × Int32 × Int32 × Int32 × Int32 × (Nat → Int32) :=
  f_X6_firstError_c9 ((f_X6_rightUpTo ln num tx pa).1) ((f_X6_rightUpTo ln num tx pa).2.1) ((f_X6_rightUpTo ln num tx pa).2.2.1) ((f_X6_rightUpTo ln num tx pa).2.2.2.1) ((f_X6_rightUpTo ln num tx pa).2.2.2.2)
def o_X6_firstError_c9 (y9 : Int32) (rd_c9 : Int32) (num_c9 : Int32) (due_c9 : Int32) (pa_c9 : Nat → Int32) : Prop :=
  True
def o_X6_firstError (ln : Int32) (num : Int32) (tx : Nat → Int32) (pa : Nat → Int32) : Prop :=
  o_X6_rightUpTo ln num tx pa ∧
  (o_X6_firstError_c9 ((f_X6_rightUpTo ln num tx pa).1) ((f_X6_rightUpTo ln num tx pa).2.1) ((f_X6_rightUpTo ln num tx pa).2.2.1) ((f_X6_rightUpTo ln num tx pa).2.2.2.1) ((f_X6_rightUpTo ln num tx pa).2.2.2.2))
theorem yd_X6_firstError : yX6_firstError.cls = RX6 ∧ yX6_firstError.cls ≠ "java/lang/invoke/MethodHandle" ∧ yX6_firstError.cls ≠ "java/lang/invoke/VarHandle" ∧ (parseMethodDescriptor yX6_firstError.desc).map (fun d => d.parameters.length) = some 0 := by decide +kernel
set_option maxHeartbeats 4000000 in
set_option maxRecDepth 100000 in
theorem c_X6_firstError (l : Launch) (dC : Nat → ClassId) (dI : Nat → Nat → Nat) (cI cB : ClassId) (h0 h1 h2 h3 h4 : Nat) (sz : Nat) (states : Int32) (ln : Int32) (thr : Int32) (rd : Int32) (num : Int32) (due : Int32) (hash : Int64) (z : Nat → Int32) (hi : Nat → Int32) (tx : Nat → Int32) (pa : Nat → Int32) (eO : o_X6_firstError ln num tx pa) : Met l yX6_firstError wsX6_firstError ({ frames := 5, cells := 0, slots := 0, locals := 107 }) (vm_prw [.ref h0] (dC, dI) [(h0, .inr (6, [.ref h1, .int states, .ref h2, .int ln, .ref h3, .int thr, .ref h4, .int rd, .int num, .int due, .long hash])), (h1, .inl (cI, 163, .inl z)), (h2, .inl (cI, 978, .inl hi)), (h3, .inl (cI, 60, .inl tx)), (h4, .inl (cI, 42, .inl pa))] cI cB sz) (va_Qi (fun (r9 : Int32) (_ : Unit) => r9 = (f_X6_firstError ln num tx pa).1) (fun _ t => va_P (dC, dI) vwCl [(h0, .inr (6, [.ref h1, .int states, .ref h2, .int ln, .ref h3, .int ((f_X6_firstError ln num tx pa).2.1), .ref h4, .int ((f_X6_firstError ln num tx pa).2.2.1), .int ((f_X6_firstError ln num tx pa).2.2.2.1), .int ((f_X6_firstError ln num tx pa).2.2.2.2.1), .long hash])), (h1, .inl (cI, 163, .inl z)), (h2, .inl (cI, 978, .inl hi)), (h3, .inl (cI, 60, .inl tx)), (h4, .inl (cI, 42, .inl ((f_X6_firstError ln num tx pa).2.2.2.2.2)))] t.heap) (va_A [(h0, .inr (6, [.ref h1, .int states, .ref h2, .int ln, .ref h3, .int thr, .ref h4, .int rd, .int num, .int due, .long hash])), (h1, .inl (cI, 163, .inl z)), (h2, .inl (cI, 978, .inl hi)), (h3, .inl (cI, 60, .inl tx)), (h4, .inl (cI, 42, .inl pa))] sz)) 0 0 (va_A [(h0, .inr (6, [.ref h1, .int states, .ref h2, .int ln, .ref h3, .int thr, .ref h4, .int rd, .int num, .int due, .long hash])), (h1, .inl (cI, 163, .inl z)), (h2, .inl (cI, 978, .inl hi)), (h3, .inl (cI, 60, .inl tx)), (h4, .inl (cI, 42, .inl pa))] sz) := by
  refine Met.ofW (cc := cX6_firstError) (maxL := 1) (ret := (some .int)) (by decide) rfl ?_
  intro p e s m args below meth c s₁ B hml hv
  obtain ⟨rfl, hsz, hP, hK, hN, hD0⟩ := hv
  have hx := B.exec
  have hb := B.bytes
  have hr := B.returns
  have hts := atoms_spec (ws := wsX6_firstError) B.pre
  have hown : s.vm.findClass RX6 = some m.cls := findClass_of_methodNamed B.named
  have hlocks := B.notSynchronized
  subst hsz
  have hD := hD0.self (sz := s.heap.size)
  generalize hAe : va_A [(h0, .inr (6, [.ref h1, .int states, .ref h2, .int ln, .ref h3, .int thr, .ref h4, .int rd, .int num, .int due, .long hash])), (h1, .inl (cI, 163, .inl z)), (h2, .inl (cI, 978, .inl hi)), (h3, .inl (cI, 60, .inl tx)), (h4, .inl (cI, 42, .inl pa))] s.heap.size = A at hD ⊢
  have hA : ∀ q : Nat, s.heap.size ≤ q → A q := fun q h => by rw [← hAe]; exact Or.inr h
  have hS : va_S A s.heap s.heap [] := va_S.rf
  have hP : va_P (dC, dI) vwCl [(h0, .inr (6, [.ref h1, .int states, .ref h2, .int ln, .ref h3, .int thr, .ref h4, .int rd, .int num, .int due, .long hash])), (h1, .inl (cI, 163, .inl z)), (h2, .inl (cI, 978, .inl hi)), (h3, .inl (cI, 60, .inl tx)), (h4, .inl (cI, 42, .inl pa))] s.heap := hP
  have kw1 := hts (.fieldLink RX6 22 "LapseMandatesModel" "thrown" "I") (List.mem_of_getElem? (i := 1) rfl)
  have iwsX60 : ∀ w ∈ wsX60, w ∈ wsX6_firstError := fun w h => List.mem_cons_of_mem _ (List.mem_append_right _ h)
  generalize hrr : f_X6_firstError ln num tx pa = rr
  have eF := hrr.symm
  have hl := lv_entry ([.ref h0]) (n := 1) (Nat.le_of_ble_eq_true rfl)
  rw [lg_entry_eq]
  generalize (lg_sl ([.ref h0]) ++ List.replicate (1 - (lg_sl ([.ref h0])).length) Slot.unset).toArray = ls at hl ⊢
  have hl : lv_has ls 1 [(0, .ref h0)] := hl
  rw [o_X6_firstError] at eO
  refine lv_aload_n hx hb dX6_firstError_0 rfl (lv_at hl 0 rfl) ?_
  refine lv_iconst (v := 0) hx hb dX6_firstError_1 (by decide) ?_
  refine va_put (D := (dC, dI)) (ci := 6) (v := .int 0) (ty := .int) (C := RX6) (T := TX6) (N := 11) hx hb hts iwsX60 tyX6 tyX6_ok nmX6 hown hK hP hD hS 0 rfl rfl 5 (by decide) kw1 (fun _ h9 => h9) rfl (by decide +kernel) rfl rfl (Nat.le_of_ble_eq_true rfl) dX6_firstError_2 (fun H locs hP hD hS => ?_)
  have hP : va_P (dC, dI) vwCl [(h0, .inr (6, [.ref h1, .int states, .ref h2, .int ln, .ref h3, .int 0, .ref h4, .int rd, .int num, .int due, .long hash])), (h1, .inl (cI, 163, .inl z)), (h2, .inl (cI, 978, .inl hi)), (h3, .inl (cI, 60, .inl tx)), (h4, .inl (cI, 42, .inl pa))] H := hP
  have hD : va_D A [(h0, .inr (6, [.ref h1, .int states, .ref h2, .int ln, .ref h3, .int 0, .ref h4, .int rd, .int num, .int due, .long hash])), (h1, .inl (cI, 163, .inl z)), (h2, .inl (cI, 978, .inl hi)), (h3, .inl (cI, 60, .inl tx)), (h4, .inl (cI, 42, .inl pa))] := hD
  refine lv_aload_n hx hb dX6_firstError_5 rfl (lv_at hl 0 rfl) ?_
  obtain ⟨hv_1, eO⟩ := eO
  refine vm_rwV (As := []) (rest := []) (T := TX6) (N := 11) (wc := [(h0, .inr (6, [.ref h1, .int states, .ref h2, .int ln, .ref h3, .int 0, .ref h4, .int rd, .int num, .int due, .long hash])), (h1, .inl (cI, 163, .inl z)), (h2, .inl (cI, 978, .inl hi)), (h3, .inl (cI, 60, .inl tx)), (h4, .inl (cI, 42, .inl pa))]) (w1 := [(h0, .inr (6, [.ref h1, .int states, .ref h2, .int ln, .ref h3, .int 0, .ref h4, .int ((f_X6_rightUpTo ln num tx pa).2.1), .int ((f_X6_rightUpTo ln num tx pa).2.2.1), .int ((f_X6_rightUpTo ln num tx pa).2.2.2.1), .long hash])), (h1, .inl (cI, 163, .inl z)), (h2, .inl (cI, 978, .inl hi)), (h3, .inl (cI, 60, .inl tx)), (h4, .inl (cI, 42, .inl ((f_X6_rightUpTo ln num tx pa).2.2.2.2)))]) ⟨hx, hb, hml, hown, hts⟩ hK hN hP hD hS hA hl.1 ⟨Nat.le_of_ble_eq_true rfl, Nat.le_of_ble_eq_true rfl⟩ (c_X6_rightUpTo l dC dI cI cB h0 h1 h2 h3 h4 _ states ln 0 rd num due hash z hi tx pa hv_1) (cwV 0 hts gX6_firstError_X6_rightUpTo rfl rfl rfl yd_X6_rightUpTo ⟨Nat.le_of_ble_eq_true rfl, Nat.le_of_ble_eq_true rfl⟩) [0, 1, 2, 3, 4] rfl rfl rfl 6 rfl rfl rfl rfl (Nat.le_of_ble_eq_true rfl) dX6_firstError_6 (fun r9 H locs hw hP hD hS => ?_)
  have hP : va_P (dC, dI) vwCl [(h0, .inr (6, [.ref h1, .int states, .ref h2, .int ln, .ref h3, .int 0, .ref h4, .int ((f_X6_rightUpTo ln num tx pa).2.1), .int ((f_X6_rightUpTo ln num tx pa).2.2.1), .int ((f_X6_rightUpTo ln num tx pa).2.2.2.1), .long hash])), (h1, .inl (cI, 163, .inl z)), (h2, .inl (cI, 978, .inl hi)), (h3, .inl (cI, 60, .inl tx)), (h4, .inl (cI, 42, .inl ((f_X6_rightUpTo ln num tx pa).2.2.2.2)))] H := hP
  have hD : va_D A [(h0, .inr (6, [.ref h1, .int states, .ref h2, .int ln, .ref h3, .int 0, .ref h4, .int ((f_X6_rightUpTo ln num tx pa).2.1), .int ((f_X6_rightUpTo ln num tx pa).2.2.1), .int ((f_X6_rightUpTo ln num tx pa).2.2.2.1), .long hash])), (h1, .inl (cI, 163, .inl z)), (h2, .inl (cI, 978, .inl hi)), (h3, .inl (cI, 60, .inl tx)), (h4, .inl (cI, 42, .inl ((f_X6_rightUpTo ln num tx pa).2.2.2.2)))] := hD
  obtain ⟨y9, ey9⟩ : ∃ zz9, zz9 = (f_X6_rightUpTo ln num tx pa).1 := ⟨_, rfl⟩
  obtain rfl : y9 = r9 := (hw.trans ey9.symm).symm
  obtain ⟨rd_c9, erd_c9⟩ : ∃ zz9, zz9 = (f_X6_rightUpTo ln num tx pa).2.1 := ⟨_, rfl⟩
  rw [← erd_c9] at hP hD
  obtain ⟨num_c9, enum_c9⟩ : ∃ zz9, zz9 = (f_X6_rightUpTo ln num tx pa).2.2.1 := ⟨_, rfl⟩
  rw [← enum_c9] at hP hD
  obtain ⟨due_c9, edue_c9⟩ : ∃ zz9, zz9 = (f_X6_rightUpTo ln num tx pa).2.2.2.1 := ⟨_, rfl⟩
  rw [← edue_c9] at hP hD
  obtain ⟨pa_c9, epa_c9⟩ : ∃ zz9, zz9 = (f_X6_rightUpTo ln num tx pa).2.2.2.2 := ⟨_, rfl⟩
  rw [← epa_c9] at hP hD
  have eF : rr = f_X6_firstError_c9 y9 rd_c9 num_c9 due_c9 pa_c9 := eF.trans (by rw [f_X6_firstError, ey9, erd_c9, enum_c9, edue_c9, epa_c9])
  have eO : o_X6_firstError_c9 y9 rd_c9 num_c9 due_c9 pa_c9 := by rw [ey9, erd_c9, enum_c9, edue_c9, epa_c9]; exact eO
  rw [o_X6_firstError_c9] at eO
  have e9 : rr = ((y9, 0, rd_c9, num_c9, due_c9, pa_c9) : Int32 × Int32 × Int32 × Int32 × Int32 × (Nat → Int32)) := eF.trans (by rw [f_X6_firstError_c9])
  exact W.iret (v := y9) hx hb hr (fun t ht hW => ⟨⟨_, (), rfl, by rw [e9], (by rw [e9]; show va_P _ _ _ t.heap; rw [ht]; exact hP)⟩, hS.F ht⟩) hS.2.2 dX6_firstError_9

def f_X6_carries_j96 (x4_96 : Bool) (s0_96 : Int32) (z_96 : Nat → Int32) : Bool × (Nat → Int32) :=
  (x4_96, z_96)
def f_X6_carries_c92 (s0_64 : Bool) (y92 : Int32) (z_c92 : Nat → Int32) : Bool × (Nat → Int32) :=
  f_X6_carries_j96 s0_64 y92 z_c92
def f_X6_carries_j64 (z : Nat → Int32) (pa : Nat → Int32) (p1 : Int32) (x3_64 : Bool) (s0_64 : Bool) : Bool × (Nat → Int32) :=
  if (vm_bi s0_64) = 0 then
    f_X6_carries_j96 s0_64 0 z
  else
    f_X6_carries_c92 s0_64 ((f_X6_asks z (pa (Int32.toNatClampNeg ((3 * p1) + 1))) (pa (Int32.toNatClampNeg ((3 * p1) + 2))) (vm_bi x3_64)).1) ((f_X6_asks z (pa (Int32.toNatClampNeg ((3 * p1) + 1))) (pa (Int32.toNatClampNeg ((3 * p1) + 2))) (vm_bi x3_64)).2)
def f_X6_carries_j63 (z : Nat → Int32) (pa : Nat → Int32) (p1 : Int32) (x3_63 : Bool) : Bool × (Nat → Int32) :=
  f_X6_carries_j64 z pa p1 x3_63 false
def f_X6_carries_j19 (z : Nat → Int32) (pa : Nat → Int32) (p1 : Int32) (s0_19 : Bool) : Bool × (Nat → Int32) :=
  if (vm_bi (f_X6_isMandate z (pa (Int32.toNatClampNeg ((3 * p1) + 1))))) = 0 then
    f_X6_carries_j63 z pa p1 s0_19
  else
    if (vm_bi (f_X6_canAsk z (pa (Int32.toNatClampNeg ((3 * p1) + 1))) (pa (Int32.toNatClampNeg ((3 * p1) + 2))) (vm_bi s0_19))) = 0 then
      f_X6_carries_j63 z pa p1 s0_19
    else
      f_X6_carries_j64 z pa p1 s0_19 true
def f_X6_carries (z : Nat → Int32) (pa : Nat → Int32) (p1 : Int32) : Bool × (Nat → Int32) :=
  if (pa (Int32.toNatClampNeg (3 * p1))) = 1 then
    f_X6_carries_j19 z pa p1 true
  else
    f_X6_carries_j19 z pa p1 false
def o_X6_carries_j96 (x4_96 : Bool) (s0_96 : Int32) (z_96 : Nat → Int32) : Prop :=
  True
def o_X6_carries_c92 (s0_64 : Bool) (y92 : Int32) (z_c92 : Nat → Int32) : Prop :=
  o_X6_carries_j96 s0_64 y92 z_c92
def o_X6_carries_j64 (z : Nat → Int32) (pa : Nat → Int32) (p1 : Int32) (x3_64 : Bool) (s0_64 : Bool) : Prop :=
  if (vm_bi s0_64) = 0 then
    o_X6_carries_j96 s0_64 0 z
  else
    vp_in ((3 * p1) + 1) 42 ∧
    (vp_in ((3 * p1) + 2) 42 ∧
    (o_X6_asks z (pa (Int32.toNatClampNeg ((3 * p1) + 1))) (pa (Int32.toNatClampNeg ((3 * p1) + 2))) (vm_bi x3_64) ∧
    (o_X6_carries_c92 s0_64 ((f_X6_asks z (pa (Int32.toNatClampNeg ((3 * p1) + 1))) (pa (Int32.toNatClampNeg ((3 * p1) + 2))) (vm_bi x3_64)).1) ((f_X6_asks z (pa (Int32.toNatClampNeg ((3 * p1) + 1))) (pa (Int32.toNatClampNeg ((3 * p1) + 2))) (vm_bi x3_64)).2))))
def o_X6_carries_j63 (z : Nat → Int32) (pa : Nat → Int32) (p1 : Int32) (x3_63 : Bool) : Prop :=
  o_X6_carries_j64 z pa p1 x3_63 false
def o_X6_carries_j19 (z : Nat → Int32) (pa : Nat → Int32) (p1 : Int32) (s0_19 : Bool) : Prop :=
  vp_in ((3 * p1) + 1) 42 ∧
  (if (vm_bi (f_X6_isMandate z (pa (Int32.toNatClampNeg ((3 * p1) + 1))))) = 0 then
    o_X6_carries_j63 z pa p1 s0_19
  else
    vp_in ((3 * p1) + 1) 42 ∧
    (vp_in ((3 * p1) + 2) 42 ∧
    (o_X6_canAsk z (pa (Int32.toNatClampNeg ((3 * p1) + 1))) (pa (Int32.toNatClampNeg ((3 * p1) + 2))) (vm_bi s0_19) ∧
    (if (vm_bi (f_X6_canAsk z (pa (Int32.toNatClampNeg ((3 * p1) + 1))) (pa (Int32.toNatClampNeg ((3 * p1) + 2))) (vm_bi s0_19))) = 0 then
      o_X6_carries_j63 z pa p1 s0_19
    else
      o_X6_carries_j64 z pa p1 s0_19 true))))
def o_X6_carries (z : Nat → Int32) (pa : Nat → Int32) (p1 : Int32) : Prop :=
  vp_in (3 * p1) 42 ∧
  (if (pa (Int32.toNatClampNeg (3 * p1))) = 1 then
    o_X6_carries_j19 z pa p1 true
  else
    o_X6_carries_j19 z pa p1 false)
theorem yd_X6_carries : yX6_carries.cls = RX6 ∧ yX6_carries.cls ≠ "java/lang/invoke/MethodHandle" ∧ yX6_carries.cls ≠ "java/lang/invoke/VarHandle" ∧ (parseMethodDescriptor yX6_carries.desc).map (fun d => d.parameters.length) = some 1 := by decide +kernel
set_option maxHeartbeats 4000000 in
set_option maxRecDepth 100000 in
theorem c_X6_carries (l : Launch) (dC : Nat → ClassId) (dI : Nat → Nat → Nat) (cI cB : ClassId) (h0 h1 h2 h3 h4 : Nat) (sz : Nat) (states : Int32) (ln : Int32) (thr : Int32) (rd : Int32) (num : Int32) (due : Int32) (hash : Int64) (z : Nat → Int32) (hi : Nat → Int32) (tx : Nat → Int32) (pa : Nat → Int32) (p1 : Int32) (eO : o_X6_carries z pa p1) : Met l yX6_carries wsX6_carries ({ frames := 5, cells := 0, slots := 0, locals := 112 }) (vm_prw [.ref h0, .int p1] (dC, dI) [(h0, .inr (6, [.ref h1, .int states, .ref h2, .int ln, .ref h3, .int thr, .ref h4, .int rd, .int num, .int due, .long hash])), (h1, .inl (cI, 163, .inl z)), (h2, .inl (cI, 978, .inl hi)), (h3, .inl (cI, 60, .inl tx)), (h4, .inl (cI, 42, .inl pa))] cI cB sz) (va_Qi (fun (r9 : Int32) (_ : Unit) => r9 = vm_bi ((f_X6_carries z pa p1).1)) (fun _ t => va_P (dC, dI) vwCl [(h0, .inr (6, [.ref h1, .int states, .ref h2, .int ln, .ref h3, .int thr, .ref h4, .int rd, .int num, .int due, .long hash])), (h1, .inl (cI, 163, .inl ((f_X6_carries z pa p1).2))), (h2, .inl (cI, 978, .inl hi)), (h3, .inl (cI, 60, .inl tx)), (h4, .inl (cI, 42, .inl pa))] t.heap) (va_A [(h0, .inr (6, [.ref h1, .int states, .ref h2, .int ln, .ref h3, .int thr, .ref h4, .int rd, .int num, .int due, .long hash])), (h1, .inl (cI, 163, .inl z)), (h2, .inl (cI, 978, .inl hi)), (h3, .inl (cI, 60, .inl tx)), (h4, .inl (cI, 42, .inl pa))] sz)) 0 0 (va_A [(h0, .inr (6, [.ref h1, .int states, .ref h2, .int ln, .ref h3, .int thr, .ref h4, .int rd, .int num, .int due, .long hash])), (h1, .inl (cI, 163, .inl z)), (h2, .inl (cI, 978, .inl hi)), (h3, .inl (cI, 60, .inl tx)), (h4, .inl (cI, 42, .inl pa))] sz) := by
  refine Met.ofW (cc := cX6_carries) (maxL := 6) (ret := (some .boolean)) (by decide) rfl ?_
  intro p e s m args below meth c s₁ B hml hv
  obtain ⟨rfl, hsz, hP, hK, hN, hD0⟩ := hv
  have hx := B.exec
  have hb := B.bytes
  have hr := B.returns
  have hts := atoms_spec (ws := wsX6_carries) B.pre
  have hown : s.vm.findClass RX6 = some m.cls := findClass_of_methodNamed B.named
  have hlocks := B.notSynchronized
  subst hsz
  have hD := hD0.self (sz := s.heap.size)
  generalize hAe : va_A [(h0, .inr (6, [.ref h1, .int states, .ref h2, .int ln, .ref h3, .int thr, .ref h4, .int rd, .int num, .int due, .long hash])), (h1, .inl (cI, 163, .inl z)), (h2, .inl (cI, 978, .inl hi)), (h3, .inl (cI, 60, .inl tx)), (h4, .inl (cI, 42, .inl pa))] s.heap.size = A at hD ⊢
  have hA : ∀ q : Nat, s.heap.size ≤ q → A q := fun q h => by rw [← hAe]; exact Or.inr h
  have hS : va_S A s.heap s.heap [] := va_S.rf
  have hP : va_P (dC, dI) vwCl [(h0, .inr (6, [.ref h1, .int states, .ref h2, .int ln, .ref h3, .int thr, .ref h4, .int rd, .int num, .int due, .long hash])), (h1, .inl (cI, 163, .inl z)), (h2, .inl (cI, 978, .inl hi)), (h3, .inl (cI, 60, .inl tx)), (h4, .inl (cI, 42, .inl pa))] s.heap := hP
  have kw1 := hts (.fieldLink RX6 19 "LapseMandatesModel" "parts" "[I") (List.mem_of_getElem? (i := 1) rfl)
  have iwsX60 : ∀ w ∈ wsX60, w ∈ wsX6_carries := fun w h => List.mem_cons_of_mem _ (List.mem_append_right _ h)
  generalize hrr : f_X6_carries z pa p1 = rr
  have eF := hrr.symm
  have hl := lv_entry ([.ref h0, .int p1]) (n := 6) (Nat.le_of_ble_eq_true rfl)
  rw [lg_entry_eq]
  generalize (lg_sl ([.ref h0, .int p1]) ++ List.replicate (6 - (lg_sl ([.ref h0, .int p1])).length) Slot.unset).toArray = ls at hl ⊢
  have hl : lv_has ls 6 [(0, .ref h0), (1, .int p1)] := hl
  have hJ96 : ∀ (x4_96 : Bool) (s0_96 : Int32) (z_96 : Nat → Int32), rr = f_X6_carries_j96 x4_96 s0_96 z_96 → o_X6_carries_j96 x4_96 s0_96 z_96 → ∀ (H : Heap) (locs : List Loc), va_P (dC, dI) vwCl [(h0, .inr (6, [.ref h1, .int states, .ref h2, .int ln, .ref h3, .int thr, .ref h4, .int rd, .int num, .int due, .long hash])), (h1, .inl (cI, 163, .inl z_96)), (h2, .inl (cI, 978, .inl hi)), (h3, .inl (cI, 60, .inl tx)), (h4, .inl (cI, 42, .inl pa))] H → va_D A [(h0, .inr (6, [.ref h1, .int states, .ref h2, .int ln, .ref h3, .int thr, .ref h4, .int rd, .int num, .int due, .long hash])), (h1, .inl (cI, 163, .inl z_96)), (h2, .inl (cI, 978, .inl hi)), (h3, .inl (cI, 60, .inl tx)), (h4, .inl (cI, 42, .inl pa))] → va_S A s.heap H locs → ∀ (ls : Array Slot), lv_has ls 6 [(4, .int (vm_bi x4_96))] → W p l e (headSpec wsX6_carries ({ frames := 5, cells := 0, slots := 0, locals := 112 })).room s m ([.ref h0, .int p1] : List Value).toArray below meth c H locs 0 0 (MQ below (va_Qi (fun (r9 : Int32) (_ : Unit) => r9 = vm_bi rr.1) (fun _ t => va_P (dC, dI) vwCl [(h0, .inr (6, [.ref h1, .int states, .ref h2, .int ln, .ref h3, .int thr, .ref h4, .int rd, .int num, .int due, .long hash])), (h1, .inl (cI, 163, .inl rr.2)), (h2, .inl (cI, 978, .inl hi)), (h3, .inl (cI, 60, .inl tx)), (h4, .inl (cI, 42, .inl pa))] t.heap) A) ([.ref h0, .int p1] : List Value).toArray s 0 0 A) (F0 m 96 ls [.int s0_96]) := by
    intro x4_96 s0_96 z_96 eF eO H locs hP hD hS ls hl
    rw [o_X6_carries_j96] at eO
    refine lv_istore (lv' := [(5, .int s0_96), (4, .int (vm_bi x4_96))]) hx hb dX6_carries_96 hl (by decide) rfl (fun ls hl => ?_)
    refine lv_iload hx hb dX6_carries_98 (lv_at hl 1 rfl) ?_
    have e9 : rr = ((x4_96, z_96) : Bool × (Nat → Int32)) := eF.trans (by rw [f_X6_carries_j96])
    exact W.zret (v := vm_bi x4_96) hx hb hr (vm_bi_nw _) (fun t ht hW => ⟨⟨_, (), rfl, by rw [e9] <;> rfl, (by rw [e9]; show va_P _ _ _ t.heap; rw [ht]; exact hP)⟩, hS.F ht⟩) hS.2.2 dX6_carries_100
  have hJ64 : ∀ (x3_64 : Bool) (s0_64 : Bool), rr = f_X6_carries_j64 z pa p1 x3_64 s0_64 → o_X6_carries_j64 z pa p1 x3_64 s0_64 → ∀ (H : Heap) (locs : List Loc), va_P (dC, dI) vwCl [(h0, .inr (6, [.ref h1, .int states, .ref h2, .int ln, .ref h3, .int thr, .ref h4, .int rd, .int num, .int due, .long hash])), (h1, .inl (cI, 163, .inl z)), (h2, .inl (cI, 978, .inl hi)), (h3, .inl (cI, 60, .inl tx)), (h4, .inl (cI, 42, .inl pa))] H → va_D A [(h0, .inr (6, [.ref h1, .int states, .ref h2, .int ln, .ref h3, .int thr, .ref h4, .int rd, .int num, .int due, .long hash])), (h1, .inl (cI, 163, .inl z)), (h2, .inl (cI, 978, .inl hi)), (h3, .inl (cI, 60, .inl tx)), (h4, .inl (cI, 42, .inl pa))] → va_S A s.heap H locs → ∀ (ls : Array Slot), lv_has ls 6 [(0, .ref h0), (2, .int (3 * p1)), (3, .int (vm_bi x3_64))] → W p l e (headSpec wsX6_carries ({ frames := 5, cells := 0, slots := 0, locals := 112 })).room s m ([.ref h0, .int p1] : List Value).toArray below meth c H locs 0 0 (MQ below (va_Qi (fun (r9 : Int32) (_ : Unit) => r9 = vm_bi rr.1) (fun _ t => va_P (dC, dI) vwCl [(h0, .inr (6, [.ref h1, .int states, .ref h2, .int ln, .ref h3, .int thr, .ref h4, .int rd, .int num, .int due, .long hash])), (h1, .inl (cI, 163, .inl rr.2)), (h2, .inl (cI, 978, .inl hi)), (h3, .inl (cI, 60, .inl tx)), (h4, .inl (cI, 42, .inl pa))] t.heap) A) ([.ref h0, .int p1] : List Value).toArray s 0 0 A) (F0 m 64 ls [.int (vm_bi s0_64)]) := by
    intro x3_64 s0_64 eF eO H locs hP hD hS ls hl
    rw [o_X6_carries_j64] at eO
    refine lv_istore (lv' := [(4, .int (vm_bi s0_64)), (0, .ref h0), (2, .int (3 * p1)), (3, .int (vm_bi x3_64))]) hx hb dX6_carries_64 hl (by decide) rfl (fun ls hl => ?_)
    refine lv_iload hx hb dX6_carries_66 (lv_at hl 0 rfl) ?_
    refine lv_if_eq (tgt := 95) hx hb dX6_carries_68 (by decide) (fun c_1 => ?_) (fun c_1 => ?_)
    · rw [if_pos c_1] at eO
      refine lv_iconst (v := 0) hx hb dX6_carries_95 (by decide) ?_
      exact hJ96 s0_64 0 z (eF.trans (by rw [f_X6_carries_j64, if_pos c_1])) eO _ _ hP hD hS ls (lv_sub hl [0] rfl)
    · rw [if_neg c_1] at eO
      refine lv_aload_n hx hb dX6_carries_71 rfl (lv_at hl 1 rfl) ?_
      refine lv_aload_n hx hb dX6_carries_72 rfl (lv_at hl 1 rfl) ?_
      refine va_get (D := (dC, dI)) (ci := 6) (v := .ref h4) (C := RX6) (T := TX6) (N := 11) hx hb hts iwsX60 hown hK hP 0 rfl rfl 6 (by decide) kw1 (fun _ h9 => h9) rfl dX6_carries_73 ?_
      refine lv_iload_n hx hb dX6_carries_76 rfl (lv_at hl 2 rfl) ?_
      refine lv_iconst (v := 1) hx hb dX6_carries_77 (by decide) ?_
      refine lv_iadd hx hb dX6_carries_78 ?_
      obtain ⟨hv_2, eO⟩ := eO
      refine va_iald hx hb hK hP 4 0 rfl rfl hv_2 dX6_carries_79 ?_
      refine lv_aload_n hx hb dX6_carries_80 rfl (lv_at hl 1 rfl) ?_
      refine va_get (D := (dC, dI)) (ci := 6) (v := .ref h4) (C := RX6) (T := TX6) (N := 11) hx hb hts iwsX60 hown hK hP 0 rfl rfl 6 (by decide) kw1 (fun _ h9 => h9) rfl dX6_carries_81 ?_
      refine lv_iload_n hx hb dX6_carries_84 rfl (lv_at hl 2 rfl) ?_
      refine lv_iconst (v := 2) hx hb dX6_carries_85 (by decide) ?_
      refine lv_iadd hx hb dX6_carries_86 ?_
      obtain ⟨hv_3, eO⟩ := eO
      refine va_iald hx hb hK hP 4 0 rfl rfl hv_3 dX6_carries_87 ?_
      refine lv_iload_n hx hb dX6_carries_88 rfl (lv_at hl 3 rfl) ?_
      obtain ⟨hv_4, eO⟩ := eO
      refine vm_rwV (As := [.int (pa (Int32.toNatClampNeg ((3 * p1) + 1))), .int (pa (Int32.toNatClampNeg ((3 * p1) + 2))), .int (vm_bi x3_64)]) (rest := []) (T := TX6) (N := 11) (wc := [(h0, .inr (6, [.ref h1, .int states, .ref h2, .int ln, .ref h3, .int thr, .ref h4, .int rd, .int num, .int due, .long hash])), (h1, .inl (cI, 163, .inl z)), (h2, .inl (cI, 978, .inl hi)), (h3, .inl (cI, 60, .inl tx)), (h4, .inl (cI, 42, .inl pa))]) (w1 := [(h0, .inr (6, [.ref h1, .int states, .ref h2, .int ln, .ref h3, .int thr, .ref h4, .int rd, .int num, .int due, .long hash])), (h1, .inl (cI, 163, .inl ((f_X6_asks z (pa (Int32.toNatClampNeg ((3 * p1) + 1))) (pa (Int32.toNatClampNeg ((3 * p1) + 2))) (vm_bi x3_64)).2))), (h2, .inl (cI, 978, .inl hi)), (h3, .inl (cI, 60, .inl tx)), (h4, .inl (cI, 42, .inl pa))]) ⟨hx, hb, hml, hown, hts⟩ hK hN hP hD hS hA hl.1 ⟨Nat.le_of_ble_eq_true rfl, Nat.le_of_ble_eq_true rfl⟩ (c_X6_asks l dC dI cI cB h0 h1 h2 h3 h4 _ states ln thr rd num due hash z hi tx pa (pa (Int32.toNatClampNeg ((3 * p1) + 1))) (pa (Int32.toNatClampNeg ((3 * p1) + 2))) (vm_bi x3_64) hv_4) (cwV 3 hts gX6_carries_X6_asks rfl rfl rfl yd_X6_asks ⟨Nat.le_of_ble_eq_true rfl, Nat.le_of_ble_eq_true rfl⟩) [0, 1, 2, 3, 4] rfl rfl rfl 6 rfl rfl rfl rfl (Nat.le_of_ble_eq_true rfl) dX6_carries_89 (fun r92 H locs hw hP hD hS => ?_)
      have hP : va_P (dC, dI) vwCl [(h0, .inr (6, [.ref h1, .int states, .ref h2, .int ln, .ref h3, .int thr, .ref h4, .int rd, .int num, .int due, .long hash])), (h1, .inl (cI, 163, .inl ((f_X6_asks z (pa (Int32.toNatClampNeg ((3 * p1) + 1))) (pa (Int32.toNatClampNeg ((3 * p1) + 2))) (vm_bi x3_64)).2))), (h2, .inl (cI, 978, .inl hi)), (h3, .inl (cI, 60, .inl tx)), (h4, .inl (cI, 42, .inl pa))] H := hP
      have hD : va_D A [(h0, .inr (6, [.ref h1, .int states, .ref h2, .int ln, .ref h3, .int thr, .ref h4, .int rd, .int num, .int due, .long hash])), (h1, .inl (cI, 163, .inl ((f_X6_asks z (pa (Int32.toNatClampNeg ((3 * p1) + 1))) (pa (Int32.toNatClampNeg ((3 * p1) + 2))) (vm_bi x3_64)).2))), (h2, .inl (cI, 978, .inl hi)), (h3, .inl (cI, 60, .inl tx)), (h4, .inl (cI, 42, .inl pa))] := hD
      obtain ⟨y92, ey92⟩ : ∃ zz9, zz9 = (f_X6_asks z (pa (Int32.toNatClampNeg ((3 * p1) + 1))) (pa (Int32.toNatClampNeg ((3 * p1) + 2))) (vm_bi x3_64)).1 := ⟨_, rfl⟩
      obtain rfl : y92 = r92 := (hw.trans ey92.symm).symm
      obtain ⟨z_c92, ez_c92⟩ : ∃ zz9, zz9 = (f_X6_asks z (pa (Int32.toNatClampNeg ((3 * p1) + 1))) (pa (Int32.toNatClampNeg ((3 * p1) + 2))) (vm_bi x3_64)).2 := ⟨_, rfl⟩
      rw [← ez_c92] at hP hD
      have eF : rr = f_X6_carries_c92 s0_64 y92 z_c92 := eF.trans (by rw [f_X6_carries_j64, if_neg c_1, ey92, ez_c92])
      have eO : o_X6_carries_c92 s0_64 y92 z_c92 := by rw [ey92, ez_c92]; exact eO
      rw [o_X6_carries_c92] at eO
      refine lv_goto (tgt := 96) hx hb dX6_carries_92 (by decide) ?_
      exact hJ96 s0_64 y92 z_c92 (eF.trans (by rw [f_X6_carries_c92])) eO _ _ hP hD hS ls (lv_sub hl [0] rfl)
  have hJ63 : ∀ (x3_63 : Bool), rr = f_X6_carries_j63 z pa p1 x3_63 → o_X6_carries_j63 z pa p1 x3_63 → ∀ (H : Heap) (locs : List Loc), va_P (dC, dI) vwCl [(h0, .inr (6, [.ref h1, .int states, .ref h2, .int ln, .ref h3, .int thr, .ref h4, .int rd, .int num, .int due, .long hash])), (h1, .inl (cI, 163, .inl z)), (h2, .inl (cI, 978, .inl hi)), (h3, .inl (cI, 60, .inl tx)), (h4, .inl (cI, 42, .inl pa))] H → va_D A [(h0, .inr (6, [.ref h1, .int states, .ref h2, .int ln, .ref h3, .int thr, .ref h4, .int rd, .int num, .int due, .long hash])), (h1, .inl (cI, 163, .inl z)), (h2, .inl (cI, 978, .inl hi)), (h3, .inl (cI, 60, .inl tx)), (h4, .inl (cI, 42, .inl pa))] → va_S A s.heap H locs → ∀ (ls : Array Slot), lv_has ls 6 [(0, .ref h0), (2, .int (3 * p1)), (3, .int (vm_bi x3_63))] → W p l e (headSpec wsX6_carries ({ frames := 5, cells := 0, slots := 0, locals := 112 })).room s m ([.ref h0, .int p1] : List Value).toArray below meth c H locs 0 0 (MQ below (va_Qi (fun (r9 : Int32) (_ : Unit) => r9 = vm_bi rr.1) (fun _ t => va_P (dC, dI) vwCl [(h0, .inr (6, [.ref h1, .int states, .ref h2, .int ln, .ref h3, .int thr, .ref h4, .int rd, .int num, .int due, .long hash])), (h1, .inl (cI, 163, .inl rr.2)), (h2, .inl (cI, 978, .inl hi)), (h3, .inl (cI, 60, .inl tx)), (h4, .inl (cI, 42, .inl pa))] t.heap) A) ([.ref h0, .int p1] : List Value).toArray s 0 0 A) (F0 m 63 ls []) := by
    intro x3_63 eF eO H locs hP hD hS ls hl
    rw [o_X6_carries_j63] at eO
    refine lv_iconst (v := 0) hx hb dX6_carries_63 (by decide) ?_
    exact hJ64 x3_63 false (eF.trans (by rw [f_X6_carries_j63])) eO _ _ hP hD hS ls (lv_sub hl [0, 1, 2] rfl)
  have hJ19 : ∀ (s0_19 : Bool), rr = f_X6_carries_j19 z pa p1 s0_19 → o_X6_carries_j19 z pa p1 s0_19 → ∀ (H : Heap) (locs : List Loc), va_P (dC, dI) vwCl [(h0, .inr (6, [.ref h1, .int states, .ref h2, .int ln, .ref h3, .int thr, .ref h4, .int rd, .int num, .int due, .long hash])), (h1, .inl (cI, 163, .inl z)), (h2, .inl (cI, 978, .inl hi)), (h3, .inl (cI, 60, .inl tx)), (h4, .inl (cI, 42, .inl pa))] H → va_D A [(h0, .inr (6, [.ref h1, .int states, .ref h2, .int ln, .ref h3, .int thr, .ref h4, .int rd, .int num, .int due, .long hash])), (h1, .inl (cI, 163, .inl z)), (h2, .inl (cI, 978, .inl hi)), (h3, .inl (cI, 60, .inl tx)), (h4, .inl (cI, 42, .inl pa))] → va_S A s.heap H locs → ∀ (ls : Array Slot), lv_has ls 6 [(0, .ref h0), (2, .int (3 * p1))] → W p l e (headSpec wsX6_carries ({ frames := 5, cells := 0, slots := 0, locals := 112 })).room s m ([.ref h0, .int p1] : List Value).toArray below meth c H locs 0 0 (MQ below (va_Qi (fun (r9 : Int32) (_ : Unit) => r9 = vm_bi rr.1) (fun _ t => va_P (dC, dI) vwCl [(h0, .inr (6, [.ref h1, .int states, .ref h2, .int ln, .ref h3, .int thr, .ref h4, .int rd, .int num, .int due, .long hash])), (h1, .inl (cI, 163, .inl rr.2)), (h2, .inl (cI, 978, .inl hi)), (h3, .inl (cI, 60, .inl tx)), (h4, .inl (cI, 42, .inl pa))] t.heap) A) ([.ref h0, .int p1] : List Value).toArray s 0 0 A) (F0 m 19 ls [.int (vm_bi s0_19)]) := by
    intro s0_19 eF eO H locs hP hD hS ls hl
    rw [o_X6_carries_j19] at eO
    refine lv_istore_n (lv' := [(3, .int (vm_bi s0_19)), (0, .ref h0), (2, .int (3 * p1))]) hx hb dX6_carries_19 rfl hl (by decide) rfl (fun ls hl => ?_)
    refine lv_aload_n hx hb dX6_carries_20 rfl (lv_at hl 1 rfl) ?_
    refine lv_aload_n hx hb dX6_carries_21 rfl (lv_at hl 1 rfl) ?_
    refine va_get (D := (dC, dI)) (ci := 6) (v := .ref h4) (C := RX6) (T := TX6) (N := 11) hx hb hts iwsX60 hown hK hP 0 rfl rfl 6 (by decide) kw1 (fun _ h9 => h9) rfl dX6_carries_22 ?_
    refine lv_iload_n hx hb dX6_carries_25 rfl (lv_at hl 2 rfl) ?_
    refine lv_iconst (v := 1) hx hb dX6_carries_26 (by decide) ?_
    refine lv_iadd hx hb dX6_carries_27 ?_
    obtain ⟨hv_5, eO⟩ := eO
    refine va_iald hx hb hK hP 4 0 rfl rfl hv_5 dX6_carries_28 ?_
    refine vm_roVx (v := vm_bi (f_X6_isMandate z (pa (Int32.toNatClampNeg ((3 * p1) + 1))))) (As := [.int (pa (Int32.toNatClampNeg ((3 * p1) + 1)))]) (rest := []) (T := TX6) (N := 11) (wc := [(h0, .inr (6, [.ref h1, .int states, .ref h2, .int ln, .ref h3, .int thr, .ref h4, .int rd, .int num, .int due, .long hash])), (h1, .inl (cI, 163, .inl z)), (h2, .inl (cI, 978, .inl hi)), (h3, .inl (cI, 60, .inl tx)), (h4, .inl (cI, 42, .inl pa))]) ⟨hx, hb, hml, hown, hts⟩ hK hN hP hl.1 ⟨Nat.le_of_ble_eq_true rfl, Nat.le_of_ble_eq_true rfl⟩ (c_X6_isMandate l dC dI cI cB h0 h1 h2 h3 h4 states ln thr rd num due hash z hi tx pa (pa (Int32.toNatClampNeg ((3 * p1) + 1)))) (cwV 1 hts gX6_carries_X6_isMandate rfl rfl rfl yd_X6_isMandate ⟨Nat.le_of_ble_eq_true rfl, Nat.le_of_ble_eq_true rfl⟩) [0, 1, 2, 3, 4] rfl 6 rfl rfl rfl rfl (Nat.le_of_ble_eq_true rfl) dX6_carries_29 ?_
    refine lv_if_eq (tgt := 63) hx hb dX6_carries_32 (by decide) (fun c_6 => ?_) (fun c_6 => ?_)
    · rw [if_pos c_6] at eO
      exact hJ63 s0_19 (eF.trans (by rw [f_X6_carries_j19, if_pos c_6])) eO _ _ hP hD hS ls (lv_sub hl [1, 2, 0] rfl)
    · rw [if_neg c_6] at eO
      refine lv_aload_n hx hb dX6_carries_35 rfl (lv_at hl 1 rfl) ?_
      refine lv_aload_n hx hb dX6_carries_36 rfl (lv_at hl 1 rfl) ?_
      refine va_get (D := (dC, dI)) (ci := 6) (v := .ref h4) (C := RX6) (T := TX6) (N := 11) hx hb hts iwsX60 hown hK hP 0 rfl rfl 6 (by decide) kw1 (fun _ h9 => h9) rfl dX6_carries_37 ?_
      refine lv_iload_n hx hb dX6_carries_40 rfl (lv_at hl 2 rfl) ?_
      refine lv_iconst (v := 1) hx hb dX6_carries_41 (by decide) ?_
      refine lv_iadd hx hb dX6_carries_42 ?_
      obtain ⟨hv_7, eO⟩ := eO
      refine va_iald hx hb hK hP 4 0 rfl rfl hv_7 dX6_carries_43 ?_
      refine lv_aload_n hx hb dX6_carries_44 rfl (lv_at hl 1 rfl) ?_
      refine va_get (D := (dC, dI)) (ci := 6) (v := .ref h4) (C := RX6) (T := TX6) (N := 11) hx hb hts iwsX60 hown hK hP 0 rfl rfl 6 (by decide) kw1 (fun _ h9 => h9) rfl dX6_carries_45 ?_
      refine lv_iload_n hx hb dX6_carries_48 rfl (lv_at hl 2 rfl) ?_
      refine lv_iconst (v := 2) hx hb dX6_carries_49 (by decide) ?_
      refine lv_iadd hx hb dX6_carries_50 ?_
      obtain ⟨hv_8, eO⟩ := eO
      refine va_iald hx hb hK hP 4 0 rfl rfl hv_8 dX6_carries_51 ?_
      refine lv_iload_n hx hb dX6_carries_52 rfl (lv_at hl 0 rfl) ?_
      obtain ⟨hv_9, eO⟩ := eO
      refine vm_roVx (v := vm_bi (f_X6_canAsk z (pa (Int32.toNatClampNeg ((3 * p1) + 1))) (pa (Int32.toNatClampNeg ((3 * p1) + 2))) (vm_bi s0_19))) (As := [.int (pa (Int32.toNatClampNeg ((3 * p1) + 1))), .int (pa (Int32.toNatClampNeg ((3 * p1) + 2))), .int (vm_bi s0_19)]) (rest := []) (T := TX6) (N := 11) (wc := [(h0, .inr (6, [.ref h1, .int states, .ref h2, .int ln, .ref h3, .int thr, .ref h4, .int rd, .int num, .int due, .long hash])), (h1, .inl (cI, 163, .inl z)), (h2, .inl (cI, 978, .inl hi)), (h3, .inl (cI, 60, .inl tx)), (h4, .inl (cI, 42, .inl pa))]) ⟨hx, hb, hml, hown, hts⟩ hK hN hP hl.1 ⟨Nat.le_of_ble_eq_true rfl, Nat.le_of_ble_eq_true rfl⟩ (c_X6_canAsk l dC dI cI cB h0 h1 h2 h3 h4 states ln thr rd num due hash z hi tx pa (pa (Int32.toNatClampNeg ((3 * p1) + 1))) (pa (Int32.toNatClampNeg ((3 * p1) + 2))) (vm_bi s0_19) hv_9) (cwV 3 hts gX6_carries_X6_canAsk rfl rfl rfl yd_X6_canAsk ⟨Nat.le_of_ble_eq_true rfl, Nat.le_of_ble_eq_true rfl⟩) [0, 1, 2, 3, 4] rfl 6 rfl rfl rfl rfl (Nat.le_of_ble_eq_true rfl) dX6_carries_53 ?_
      refine lv_if_eq (tgt := 63) hx hb dX6_carries_56 (by decide) (fun c_10 => ?_) (fun c_10 => ?_)
      · rw [if_pos c_10] at eO
        exact hJ63 s0_19 (eF.trans (by rw [f_X6_carries_j19, if_neg c_6, if_pos c_10])) eO _ _ hP hD hS ls (lv_sub hl [1, 2, 0] rfl)
      · rw [if_neg c_10] at eO
        refine lv_iconst (v := 1) hx hb dX6_carries_59 (by decide) ?_
        refine lv_goto (tgt := 64) hx hb dX6_carries_60 (by decide) ?_
        exact hJ64 s0_19 true (eF.trans (by rw [f_X6_carries_j19, if_neg c_6, if_neg c_10])) eO _ _ hP hD hS ls (lv_sub hl [1, 2, 0] rfl)
  rw [o_X6_carries] at eO
  refine lv_iconst (v := 3) hx hb dX6_carries_0 (by decide) ?_
  refine lv_iload_n hx hb dX6_carries_1 rfl (lv_at hl 1 rfl) ?_
  refine lv_imul hx hb dX6_carries_2 ?_
  refine lv_istore_n (lv' := [(2, .int (3 * p1)), (0, .ref h0), (1, .int p1)]) hx hb dX6_carries_3 rfl hl (by decide) rfl (fun ls hl => ?_)
  refine lv_aload_n hx hb dX6_carries_4 rfl (lv_at hl 1 rfl) ?_
  refine va_get (D := (dC, dI)) (ci := 6) (v := .ref h4) (C := RX6) (T := TX6) (N := 11) hx hb hts iwsX60 hown hK hP 0 rfl rfl 6 (by decide) kw1 (fun _ h9 => h9) rfl dX6_carries_5 ?_
  refine lv_iload_n hx hb dX6_carries_8 rfl (lv_at hl 0 rfl) ?_
  obtain ⟨hv_11, eO⟩ := eO
  refine va_iald hx hb hK hP 4 0 rfl rfl hv_11 dX6_carries_9 ?_
  refine lv_iconst (v := 1) hx hb dX6_carries_10 (by decide) ?_
  refine lv_icmp_ne (tgt := 18) hx hb dX6_carries_11 (by decide) (fun c_12 => ?_) (fun c_12 => ?_)
  · rw [if_neg c_12] at eO
    refine lv_iconst (v := 0) hx hb dX6_carries_18 (by decide) ?_
    exact hJ19 false (eF.trans (by rw [f_X6_carries, if_neg c_12])) eO _ _ hP hD hS ls (lv_sub hl [1, 0] rfl)
  · rw [if_pos c_12] at eO
    refine lv_iconst (v := 1) hx hb dX6_carries_14 (by decide) ?_
    refine lv_goto (tgt := 19) hx hb dX6_carries_15 (by decide) ?_
    exact hJ19 true (eF.trans (by rw [f_X6_carries, if_pos c_12])) eO _ _ hP hD hS ls (lv_sub hl [1, 0] rfl)

def f_X6_run_c79 (x2_66 : Int32) (states_66 : Int32) (thr_66 : Int32) (rd_66 : Int32) (num_66 : Int32) (due_66 : Int32) (hi_66 : Nat → Int32) (pa_66 : Nat → Int32) (kj66 : Int32 → Int32 → Int32 → Int32 → Int32 → Int32 → (Nat → Int32) → (Nat → Int32) → (Nat → Int32) → (Int32 × Int32 × Int32 × Int32 × Int32 × Int32 × Int32 × (Nat → Int32) × (Nat → Int32) × (Nat → Int32))) (y79 : Bool) (z_c79 : Nat → Int32) : Int32 × Int32 × Int32 × Int32 × Int32 × Int32 × Int32 × (Nat → Int32) × (Nat → Int32) × (Nat → Int32) :=
  if (vm_bi y79) = 0 then
    (x2_66, states_66, 0, thr_66, rd_66, num_66, due_66, z_c79, hi_66, pa_66)
  else
    kj66 (x2_66 + 1) states_66 thr_66 rd_66 num_66 due_66 z_c79 hi_66 pa_66
def f_X6_run_j66 : Nat → Int32 → Int32 → Int32 → Int32 → Int32 → Int32 → (Nat → Int32) → (Nat → Int32) → (Nat → Int32) → Int32 × Int32 × Int32 × Int32 × Int32 × Int32 × Int32 × (Nat → Int32) × (Nat → Int32) × (Nat → Int32)
  | 0, _, _, _, _, _, _, _, _, _ => (0, 0, 0, 0, 0, 0, 0, (fun _ => 0), (fun _ => 0), (fun _ => 0))
  | n66 + 1, x2_66, states_66, thr_66, rd_66, num_66, due_66, z_66, hi_66, pa_66 => if rd_66 < x2_66 then
      (x2_66, states_66, 0, thr_66, rd_66, num_66, due_66, z_66, hi_66, pa_66)
    else
      f_X6_run_c79 x2_66 states_66 thr_66 rd_66 num_66 due_66 hi_66 pa_66 (f_X6_run_j66 n66) ((f_X6_carries z_66 pa_66 x2_66).1) ((f_X6_carries z_66 pa_66 x2_66).2)
def f_X6_run_c59 (z : Nat → Int32) (s0_43 : Bool) (rd_43 : Int32) (num_43 : Int32) (due_43 : Int32) (pa_43 : Nat → Int32) (states_c59 : Int32) (hi_c59 : Nat → Int32) : Int32 × Int32 × Int32 × Int32 × Int32 × Int32 × Int32 × (Nat → Int32) × (Nat → Int32) × (Nat → Int32) :=
  f_X6_run_j66 1000 0 states_c59 (vm_bi s0_43) rd_43 num_43 due_43 z hi_c59 pa_43
def f_X6_run_j43 (states : Int32) (ln : Int32) (z : Nat → Int32) (hi : Nat → Int32) (s0_43 : Bool) (rd_43 : Int32) (num_43 : Int32) (due_43 : Int32) (pa_43 : Nat → Int32) : Int32 × Int32 × Int32 × Int32 × Int32 × Int32 × Int32 × (Nat → Int32) × (Nat → Int32) × (Nat → Int32) :=
  if (vm_bi s0_43) ≤ 0 then
    f_X6_run_c59 z s0_43 rd_43 num_43 due_43 pa_43 ((f_X6_save states z hi).1) ((f_X6_save states z hi).2)
  else
    (0, states, ln, vm_bi s0_43, rd_43, num_43, due_43, z, hi, pa_43)
def f_X6_run_j32 (states : Int32) (ln : Int32) (z : Nat → Int32) (hi : Nat → Int32) (s0_32 : Bool) (rd_32 : Int32) (num_32 : Int32) (due_32 : Int32) (pa_32 : Nat → Int32) : Int32 × Int32 × Int32 × Int32 × Int32 × Int32 × Int32 × (Nat → Int32) × (Nat → Int32) × (Nat → Int32) :=
  if (vm_bi s0_32) = 0 then
    f_X6_run_j43 states ln z hi true rd_32 num_32 due_32 pa_32
  else
    f_X6_run_j43 states ln z hi false rd_32 num_32 due_32 pa_32
def f_X6_run_j31 (states : Int32) (ln : Int32) (z : Nat → Int32) (hi : Nat → Int32) (rd_31 : Int32) (num_31 : Int32) (due_31 : Int32) (pa_31 : Nat → Int32) : Int32 × Int32 × Int32 × Int32 × Int32 × Int32 × Int32 × (Nat → Int32) × (Nat → Int32) × (Nat → Int32) :=
  f_X6_run_j32 states ln z hi false rd_31 num_31 due_31 pa_31
def f_X6_run_c4 (states : Int32) (ln : Int32) (z : Nat → Int32) (hi : Nat → Int32) (y4 : Int32) (rd_c4 : Int32) (num_c4 : Int32) (due_c4 : Int32) (pa_c4 : Nat → Int32) : Int32 × Int32 × Int32 × Int32 × Int32 × Int32 × Int32 × (Nat → Int32) × (Nat → Int32) × (Nat → Int32) :=
  if y4 = ln then
    if due_c4 = 2 then
      if num_c4 = (-1) then
        f_X6_run_j31 states ln z hi rd_c4 num_c4 due_c4 pa_c4
      else
        f_X6_run_j32 states ln z hi true rd_c4 num_c4 due_c4 pa_c4
    else
      f_X6_run_j31 states ln z hi rd_c4 num_c4 due_c4 pa_c4
  else
    f_X6_run_j31 states ln z hi rd_c4 num_c4 due_c4 pa_c4
def f_X6_run (states : Int32) (ln : Int32) (num : Int32) (z : Nat → Int32) (hi : Nat → Int32) (tx : Nat → Int32) (pa : Nat → Int32) : Int32 × Int32 × Int32 × Int32 × Int32 × Int32 × Int32 × (Nat → Int32) × (Nat → Int32) × (Nat → Int32) :=
  f_X6_run_c4 states ln z hi ((f_X6_rightUpTo ln num tx pa).1) ((f_X6_rightUpTo ln num tx pa).2.1) ((f_X6_rightUpTo ln num tx pa).2.2.1) ((f_X6_rightUpTo ln num tx pa).2.2.2.1) ((f_X6_rightUpTo ln num tx pa).2.2.2.2)
def o_X6_run_c79 (x2_66 : Int32) (states_66 : Int32) (thr_66 : Int32) (rd_66 : Int32) (num_66 : Int32) (due_66 : Int32) (hi_66 : Nat → Int32) (pa_66 : Nat → Int32) (koj66 : Int32 → Int32 → Int32 → Int32 → Int32 → Int32 → (Nat → Int32) → (Nat → Int32) → (Nat → Int32) → Prop) (y79 : Bool) (z_c79 : Nat → Int32) : Prop :=
  if (vm_bi y79) = 0 then
    True
  else
    koj66 (x2_66 + 1) states_66 thr_66 rd_66 num_66 due_66 z_c79 hi_66 pa_66
def o_X6_run_j66 : Nat → Int32 → Int32 → Int32 → Int32 → Int32 → Int32 → (Nat → Int32) → (Nat → Int32) → (Nat → Int32) → Prop
  | 0, _, _, _, _, _, _, _, _, _ => False
  | n66 + 1, x2_66, states_66, thr_66, rd_66, num_66, due_66, z_66, hi_66, pa_66 => if rd_66 < x2_66 then
      True
    else
      o_X6_carries z_66 pa_66 x2_66 ∧
      (o_X6_run_c79 x2_66 states_66 thr_66 rd_66 num_66 due_66 hi_66 pa_66 (o_X6_run_j66 n66) ((f_X6_carries z_66 pa_66 x2_66).1) ((f_X6_carries z_66 pa_66 x2_66).2))
def o_X6_run_c59 (z : Nat → Int32) (s0_43 : Bool) (rd_43 : Int32) (num_43 : Int32) (due_43 : Int32) (pa_43 : Nat → Int32) (states_c59 : Int32) (hi_c59 : Nat → Int32) : Prop :=
  o_X6_run_j66 1000 0 states_c59 (vm_bi s0_43) rd_43 num_43 due_43 z hi_c59 pa_43
def o_X6_run_j43 (states : Int32) (ln : Int32) (z : Nat → Int32) (hi : Nat → Int32) (s0_43 : Bool) (rd_43 : Int32) (num_43 : Int32) (due_43 : Int32) (pa_43 : Nat → Int32) : Prop :=
  if (vm_bi s0_43) ≤ 0 then
    o_X6_save states z hi ∧
    (o_X6_run_c59 z s0_43 rd_43 num_43 due_43 pa_43 ((f_X6_save states z hi).1) ((f_X6_save states z hi).2))
  else
    True
def o_X6_run_j32 (states : Int32) (ln : Int32) (z : Nat → Int32) (hi : Nat → Int32) (s0_32 : Bool) (rd_32 : Int32) (num_32 : Int32) (due_32 : Int32) (pa_32 : Nat → Int32) : Prop :=
  if (vm_bi s0_32) = 0 then
    o_X6_run_j43 states ln z hi true rd_32 num_32 due_32 pa_32
  else
    o_X6_run_j43 states ln z hi false rd_32 num_32 due_32 pa_32
def o_X6_run_j31 (states : Int32) (ln : Int32) (z : Nat → Int32) (hi : Nat → Int32) (rd_31 : Int32) (num_31 : Int32) (due_31 : Int32) (pa_31 : Nat → Int32) : Prop :=
  o_X6_run_j32 states ln z hi false rd_31 num_31 due_31 pa_31
def o_X6_run_c4 (states : Int32) (ln : Int32) (z : Nat → Int32) (hi : Nat → Int32) (y4 : Int32) (rd_c4 : Int32) (num_c4 : Int32) (due_c4 : Int32) (pa_c4 : Nat → Int32) : Prop :=
  if y4 = ln then
    if due_c4 = 2 then
      if num_c4 = (-1) then
        o_X6_run_j31 states ln z hi rd_c4 num_c4 due_c4 pa_c4
      else
        o_X6_run_j32 states ln z hi true rd_c4 num_c4 due_c4 pa_c4
    else
      o_X6_run_j31 states ln z hi rd_c4 num_c4 due_c4 pa_c4
  else
    o_X6_run_j31 states ln z hi rd_c4 num_c4 due_c4 pa_c4
def o_X6_run (states : Int32) (ln : Int32) (num : Int32) (z : Nat → Int32) (hi : Nat → Int32) (tx : Nat → Int32) (pa : Nat → Int32) : Prop :=
  o_X6_rightUpTo ln num tx pa ∧
  (o_X6_run_c4 states ln z hi ((f_X6_rightUpTo ln num tx pa).1) ((f_X6_rightUpTo ln num tx pa).2.1) ((f_X6_rightUpTo ln num tx pa).2.2.1) ((f_X6_rightUpTo ln num tx pa).2.2.2.1) ((f_X6_rightUpTo ln num tx pa).2.2.2.2))
theorem yd_X6_run : yX6_run.cls = RX6 ∧ yX6_run.cls ≠ "java/lang/invoke/MethodHandle" ∧ yX6_run.cls ≠ "java/lang/invoke/VarHandle" ∧ (parseMethodDescriptor yX6_run.desc).map (fun d => d.parameters.length) = some 0 := by decide +kernel
set_option maxHeartbeats 4000000 in
set_option maxRecDepth 100000 in
theorem c_X6_run (l : Launch) (dC : Nat → ClassId) (dI : Nat → Nat → Nat) (cI cB : ClassId) (h0 h1 h2 h3 h4 : Nat) (sz : Nat) (states : Int32) (ln : Int32) (thr : Int32) (rd : Int32) (num : Int32) (due : Int32) (hash : Int64) (z : Nat → Int32) (hi : Nat → Int32) (tx : Nat → Int32) (pa : Nat → Int32) (eO : o_X6_run states ln num z hi tx pa) : Met l yX6_run wsX6_run ({ frames := 6, cells := 0, slots := 0, locals := 137 }) (vm_prw [.ref h0] (dC, dI) [(h0, .inr (6, [.ref h1, .int states, .ref h2, .int ln, .ref h3, .int thr, .ref h4, .int rd, .int num, .int due, .long hash])), (h1, .inl (cI, 163, .inl z)), (h2, .inl (cI, 978, .inl hi)), (h3, .inl (cI, 60, .inl tx)), (h4, .inl (cI, 42, .inl pa))] cI cB sz) (va_Qi (fun (r9 : Int32) (_ : Unit) => r9 = (f_X6_run states ln num z hi tx pa).1) (fun _ t => va_P (dC, dI) vwCl [(h0, .inr (6, [.ref h1, .int ((f_X6_run states ln num z hi tx pa).2.1), .ref h2, .int ((f_X6_run states ln num z hi tx pa).2.2.1), .ref h3, .int ((f_X6_run states ln num z hi tx pa).2.2.2.1), .ref h4, .int ((f_X6_run states ln num z hi tx pa).2.2.2.2.1), .int ((f_X6_run states ln num z hi tx pa).2.2.2.2.2.1), .int ((f_X6_run states ln num z hi tx pa).2.2.2.2.2.2.1), .long hash])), (h1, .inl (cI, 163, .inl ((f_X6_run states ln num z hi tx pa).2.2.2.2.2.2.2.1))), (h2, .inl (cI, 978, .inl ((f_X6_run states ln num z hi tx pa).2.2.2.2.2.2.2.2.1))), (h3, .inl (cI, 60, .inl tx)), (h4, .inl (cI, 42, .inl ((f_X6_run states ln num z hi tx pa).2.2.2.2.2.2.2.2.2)))] t.heap) (va_A [(h0, .inr (6, [.ref h1, .int states, .ref h2, .int ln, .ref h3, .int thr, .ref h4, .int rd, .int num, .int due, .long hash])), (h1, .inl (cI, 163, .inl z)), (h2, .inl (cI, 978, .inl hi)), (h3, .inl (cI, 60, .inl tx)), (h4, .inl (cI, 42, .inl pa))] sz)) 0 0 (va_A [(h0, .inr (6, [.ref h1, .int states, .ref h2, .int ln, .ref h3, .int thr, .ref h4, .int rd, .int num, .int due, .long hash])), (h1, .inl (cI, 163, .inl z)), (h2, .inl (cI, 978, .inl hi)), (h3, .inl (cI, 60, .inl tx)), (h4, .inl (cI, 42, .inl pa))] sz) := by
  refine Met.ofW (cc := cX6_run) (maxL := 3) (ret := (some .int)) (by decide) rfl ?_
  intro p e s m args below meth c s₁ B hml hv
  obtain ⟨rfl, hsz, hP, hK, hN, hD0⟩ := hv
  have hx := B.exec
  have hb := B.bytes
  have hr := B.returns
  have hts := atoms_spec (ws := wsX6_run) B.pre
  have hown : s.vm.findClass RX6 = some m.cls := findClass_of_methodNamed B.named
  have hlocks := B.notSynchronized
  subst hsz
  have hD := hD0.self (sz := s.heap.size)
  generalize hAe : va_A [(h0, .inr (6, [.ref h1, .int states, .ref h2, .int ln, .ref h3, .int thr, .ref h4, .int rd, .int num, .int due, .long hash])), (h1, .inl (cI, 163, .inl z)), (h2, .inl (cI, 978, .inl hi)), (h3, .inl (cI, 60, .inl tx)), (h4, .inl (cI, 42, .inl pa))] s.heap.size = A at hD ⊢
  have hA : ∀ q : Nat, s.heap.size ≤ q → A q := fun q h => by rw [← hAe]; exact Or.inr h
  have hS : va_S A s.heap s.heap [] := va_S.rf
  have hP : va_P (dC, dI) vwCl [(h0, .inr (6, [.ref h1, .int states, .ref h2, .int ln, .ref h3, .int thr, .ref h4, .int rd, .int num, .int due, .long hash])), (h1, .inl (cI, 163, .inl z)), (h2, .inl (cI, 978, .inl hi)), (h3, .inl (cI, 60, .inl tx)), (h4, .inl (cI, 42, .inl pa))] s.heap := hP
  have kw1 := hts (.fieldLink RX6 139 "LapseMandatesModel" "length" "I") (List.mem_of_getElem? (i := 1) rfl)
  have kw2 := hts (.fieldLink RX6 145 "LapseMandatesModel" "due" "I") (List.mem_of_getElem? (i := 2) rfl)
  have kw3 := hts (.fieldLink RX6 142 "LapseMandatesModel" "number" "I") (List.mem_of_getElem? (i := 3) rfl)
  have kw4 := hts (.fieldLink RX6 22 "LapseMandatesModel" "thrown" "I") (List.mem_of_getElem? (i := 4) rfl)
  have kw5 := hts (.fieldLink RX6 148 "LapseMandatesModel" "read" "I") (List.mem_of_getElem? (i := 5) rfl)
  have iwsX60 : ∀ w ∈ wsX60, w ∈ wsX6_run := fun w h => List.mem_cons_of_mem _ (List.mem_append_right _ h)
  generalize hrr : f_X6_run states ln num z hi tx pa = rr
  have eF := hrr.symm
  have hl := lv_entry ([.ref h0]) (n := 3) (Nat.le_of_ble_eq_true rfl)
  rw [lg_entry_eq]
  generalize (lg_sl ([.ref h0]) ++ List.replicate (3 - (lg_sl ([.ref h0])).length) Slot.unset).toArray = ls at hl ⊢
  have hl : lv_has ls 3 [(0, .ref h0)] := hl
  have hJ66 : ∀ (n66 : Nat) (x2_66 : Int32) (states_66 : Int32) (thr_66 : Int32) (rd_66 : Int32) (num_66 : Int32) (due_66 : Int32) (z_66 : Nat → Int32) (hi_66 : Nat → Int32) (pa_66 : Nat → Int32), rr = f_X6_run_j66 n66 x2_66 states_66 thr_66 rd_66 num_66 due_66 z_66 hi_66 pa_66 → o_X6_run_j66 n66 x2_66 states_66 thr_66 rd_66 num_66 due_66 z_66 hi_66 pa_66 → ∀ (H : Heap) (locs : List Loc), va_P (dC, dI) vwCl [(h0, .inr (6, [.ref h1, .int states_66, .ref h2, .int 0, .ref h3, .int thr_66, .ref h4, .int rd_66, .int num_66, .int due_66, .long hash])), (h1, .inl (cI, 163, .inl z_66)), (h2, .inl (cI, 978, .inl hi_66)), (h3, .inl (cI, 60, .inl tx)), (h4, .inl (cI, 42, .inl pa_66))] H → va_D A [(h0, .inr (6, [.ref h1, .int states_66, .ref h2, .int 0, .ref h3, .int thr_66, .ref h4, .int rd_66, .int num_66, .int due_66, .long hash])), (h1, .inl (cI, 163, .inl z_66)), (h2, .inl (cI, 978, .inl hi_66)), (h3, .inl (cI, 60, .inl tx)), (h4, .inl (cI, 42, .inl pa_66))] → va_S A s.heap H locs → ∀ (ls : Array Slot), lv_has ls 3 [(0, .ref h0), (2, .int x2_66)] → W p l e (headSpec wsX6_run ({ frames := 6, cells := 0, slots := 0, locals := 137 })).room s m ([.ref h0] : List Value).toArray below meth c H locs 0 0 (MQ below (va_Qi (fun (r9 : Int32) (_ : Unit) => r9 = rr.1) (fun _ t => va_P (dC, dI) vwCl [(h0, .inr (6, [.ref h1, .int rr.2.1, .ref h2, .int rr.2.2.1, .ref h3, .int rr.2.2.2.1, .ref h4, .int rr.2.2.2.2.1, .int rr.2.2.2.2.2.1, .int rr.2.2.2.2.2.2.1, .long hash])), (h1, .inl (cI, 163, .inl rr.2.2.2.2.2.2.2.1)), (h2, .inl (cI, 978, .inl rr.2.2.2.2.2.2.2.2.1)), (h3, .inl (cI, 60, .inl tx)), (h4, .inl (cI, 42, .inl rr.2.2.2.2.2.2.2.2.2))] t.heap) A) ([.ref h0] : List Value).toArray s 0 0 A) (F0 m 66 ls []) := by
    intro n66
    induction n66 with
    | zero =>
      intro x2_66 states_66 thr_66 rd_66 num_66 due_66 z_66 hi_66 pa_66 eF eO
      exact False.elim eO
    | succ n66 ih66 =>
      intro x2_66 states_66 thr_66 rd_66 num_66 due_66 z_66 hi_66 pa_66 eF eO H locs hP hD hS ls hl
      rw [o_X6_run_j66] at eO
      refine lv_iload_n hx hb dX6_run_66 rfl (lv_at hl 1 rfl) ?_
      refine lv_aload_n hx hb dX6_run_67 rfl (lv_at hl 0 rfl) ?_
      refine va_get (D := (dC, dI)) (ci := 6) (v := .int rd_66) (C := RX6) (T := TX6) (N := 11) hx hb hts iwsX60 hown hK hP 0 rfl rfl 7 (by decide) kw5 (fun _ h9 => h9) rfl dX6_run_68 ?_
      refine lv_icmp_gt (tgt := 88) hx hb dX6_run_71 (by decide) (fun c_1 => ?_) (fun c_1 => ?_)
      · rw [if_pos c_1] at eO
        refine lv_iload_n hx hb dX6_run_88 rfl (lv_at hl 1 rfl) ?_
        have e9 : rr = ((x2_66, states_66, 0, thr_66, rd_66, num_66, due_66, z_66, hi_66, pa_66) : Int32 × Int32 × Int32 × Int32 × Int32 × Int32 × Int32 × (Nat → Int32) × (Nat → Int32) × (Nat → Int32)) := eF.trans (by rw [f_X6_run_j66, if_pos c_1])
        exact W.iret (v := x2_66) hx hb hr (fun t ht hW => ⟨⟨_, (), rfl, by rw [e9], (by rw [e9]; show va_P _ _ _ t.heap; rw [ht]; exact hP)⟩, hS.F ht⟩) hS.2.2 dX6_run_89
      · rw [if_neg c_1] at eO
        refine lv_aload_n hx hb dX6_run_74 rfl (lv_at hl 0 rfl) ?_
        refine lv_iload_n hx hb dX6_run_75 rfl (lv_at hl 1 rfl) ?_
        obtain ⟨hv_2, eO⟩ := eO
        refine vm_rwV (As := [.int x2_66]) (rest := []) (T := TX6) (N := 11) (wc := [(h0, .inr (6, [.ref h1, .int states_66, .ref h2, .int 0, .ref h3, .int thr_66, .ref h4, .int rd_66, .int num_66, .int due_66, .long hash])), (h1, .inl (cI, 163, .inl z_66)), (h2, .inl (cI, 978, .inl hi_66)), (h3, .inl (cI, 60, .inl tx)), (h4, .inl (cI, 42, .inl pa_66))]) (w1 := [(h0, .inr (6, [.ref h1, .int states_66, .ref h2, .int 0, .ref h3, .int thr_66, .ref h4, .int rd_66, .int num_66, .int due_66, .long hash])), (h1, .inl (cI, 163, .inl ((f_X6_carries z_66 pa_66 x2_66).2))), (h2, .inl (cI, 978, .inl hi_66)), (h3, .inl (cI, 60, .inl tx)), (h4, .inl (cI, 42, .inl pa_66))]) ⟨hx, hb, hml, hown, hts⟩ hK hN hP hD hS hA hl.1 ⟨Nat.le_of_ble_eq_true rfl, Nat.le_of_ble_eq_true rfl⟩ (c_X6_carries l dC dI cI cB h0 h1 h2 h3 h4 _ states_66 0 thr_66 rd_66 num_66 due_66 hash z_66 hi_66 tx pa_66 x2_66 hv_2) (cwV 1 hts gX6_run_X6_carries rfl rfl rfl yd_X6_carries ⟨Nat.le_of_ble_eq_true rfl, Nat.le_of_ble_eq_true rfl⟩) [0, 1, 2, 3, 4] rfl rfl rfl 6 rfl rfl rfl rfl (Nat.le_of_ble_eq_true rfl) dX6_run_76 (fun r79 H locs hw hP hD hS => ?_)
        have hP : va_P (dC, dI) vwCl [(h0, .inr (6, [.ref h1, .int states_66, .ref h2, .int 0, .ref h3, .int thr_66, .ref h4, .int rd_66, .int num_66, .int due_66, .long hash])), (h1, .inl (cI, 163, .inl ((f_X6_carries z_66 pa_66 x2_66).2))), (h2, .inl (cI, 978, .inl hi_66)), (h3, .inl (cI, 60, .inl tx)), (h4, .inl (cI, 42, .inl pa_66))] H := hP
        have hD : va_D A [(h0, .inr (6, [.ref h1, .int states_66, .ref h2, .int 0, .ref h3, .int thr_66, .ref h4, .int rd_66, .int num_66, .int due_66, .long hash])), (h1, .inl (cI, 163, .inl ((f_X6_carries z_66 pa_66 x2_66).2))), (h2, .inl (cI, 978, .inl hi_66)), (h3, .inl (cI, 60, .inl tx)), (h4, .inl (cI, 42, .inl pa_66))] := hD
        obtain ⟨y79, ey79⟩ : ∃ zz9, zz9 = (f_X6_carries z_66 pa_66 x2_66).1 := ⟨_, rfl⟩
        obtain rfl : r79 = vm_bi y79 := hw.trans (congrArg vm_bi ey79.symm)
        obtain ⟨z_c79, ez_c79⟩ : ∃ zz9, zz9 = (f_X6_carries z_66 pa_66 x2_66).2 := ⟨_, rfl⟩
        rw [← ez_c79] at hP hD
        have eF : rr = f_X6_run_c79 x2_66 states_66 thr_66 rd_66 num_66 due_66 hi_66 pa_66 (f_X6_run_j66 n66) y79 z_c79 := eF.trans (by rw [f_X6_run_j66, if_neg c_1, ey79, ez_c79])
        have eO : o_X6_run_c79 x2_66 states_66 thr_66 rd_66 num_66 due_66 hi_66 pa_66 (o_X6_run_j66 n66) y79 z_c79 := by rw [ey79, ez_c79]; exact eO
        rw [o_X6_run_c79] at eO
        refine lv_if_eq (tgt := 88) hx hb dX6_run_79 (by decide) (fun c_3 => ?_) (fun c_3 => ?_)
        · rw [if_pos c_3] at eO
          refine lv_iload_n hx hb dX6_run_88 rfl (lv_at hl 1 rfl) ?_
          have e9 : rr = ((x2_66, states_66, 0, thr_66, rd_66, num_66, due_66, z_c79, hi_66, pa_66) : Int32 × Int32 × Int32 × Int32 × Int32 × Int32 × Int32 × (Nat → Int32) × (Nat → Int32) × (Nat → Int32)) := eF.trans (by rw [f_X6_run_c79, if_pos c_3])
          exact W.iret (v := x2_66) hx hb hr (fun t ht hW => ⟨⟨_, (), rfl, by rw [e9], (by rw [e9]; show va_P _ _ _ t.heap; rw [ht]; exact hP)⟩, hS.F ht⟩) hS.2.2 dX6_run_89
        · rw [if_neg c_3] at eO
          refine lv_iinc (v := (x2_66 + 1)) (lv' := [(2, .int (x2_66 + 1)), (0, .ref h0)]) hx hb dX6_run_82 hl (k := 1) rfl rfl (by decide) rfl (fun ls hl => ?_)
          refine lv_goto (tgt := 66) hx hb dX6_run_85 (by decide) ?_
          exact ih66 (x2_66 + 1) states_66 thr_66 rd_66 num_66 due_66 z_c79 hi_66 pa_66 (eF.trans (by rw [f_X6_run_c79, if_neg c_3])) eO _ _ hP hD hS ls (lv_sub hl [1, 0] rfl)
  have hJ43 : ∀ (s0_43 : Bool) (rd_43 : Int32) (num_43 : Int32) (due_43 : Int32) (pa_43 : Nat → Int32), rr = f_X6_run_j43 states ln z hi s0_43 rd_43 num_43 due_43 pa_43 → o_X6_run_j43 states ln z hi s0_43 rd_43 num_43 due_43 pa_43 → ∀ (H : Heap) (locs : List Loc), va_P (dC, dI) vwCl [(h0, .inr (6, [.ref h1, .int states, .ref h2, .int ln, .ref h3, .int thr, .ref h4, .int rd_43, .int num_43, .int due_43, .long hash])), (h1, .inl (cI, 163, .inl z)), (h2, .inl (cI, 978, .inl hi)), (h3, .inl (cI, 60, .inl tx)), (h4, .inl (cI, 42, .inl pa_43))] H → va_D A [(h0, .inr (6, [.ref h1, .int states, .ref h2, .int ln, .ref h3, .int thr, .ref h4, .int rd_43, .int num_43, .int due_43, .long hash])), (h1, .inl (cI, 163, .inl z)), (h2, .inl (cI, 978, .inl hi)), (h3, .inl (cI, 60, .inl tx)), (h4, .inl (cI, 42, .inl pa_43))] → va_S A s.heap H locs → ∀ (ls : Array Slot), lv_has ls 3 [(0, .ref h0)] → W p l e (headSpec wsX6_run ({ frames := 6, cells := 0, slots := 0, locals := 137 })).room s m ([.ref h0] : List Value).toArray below meth c H locs 0 0 (MQ below (va_Qi (fun (r9 : Int32) (_ : Unit) => r9 = rr.1) (fun _ t => va_P (dC, dI) vwCl [(h0, .inr (6, [.ref h1, .int rr.2.1, .ref h2, .int rr.2.2.1, .ref h3, .int rr.2.2.2.1, .ref h4, .int rr.2.2.2.2.1, .int rr.2.2.2.2.2.1, .int rr.2.2.2.2.2.2.1, .long hash])), (h1, .inl (cI, 163, .inl rr.2.2.2.2.2.2.2.1)), (h2, .inl (cI, 978, .inl rr.2.2.2.2.2.2.2.2.1)), (h3, .inl (cI, 60, .inl tx)), (h4, .inl (cI, 42, .inl rr.2.2.2.2.2.2.2.2.2))] t.heap) A) ([.ref h0] : List Value).toArray s 0 0 A) (F0 m 43 ls [.int (vm_bi s0_43), .ref h0]) := by
    intro s0_43 rd_43 num_43 due_43 pa_43 eF eO H locs hP hD hS ls hl
    rw [o_X6_run_j43] at eO
    refine va_put (D := (dC, dI)) (ci := 6) (v := .int (vm_bi s0_43)) (ty := .int) (C := RX6) (T := TX6) (N := 11) hx hb hts iwsX60 tyX6 tyX6_ok nmX6 hown hK hP hD hS 0 rfl rfl 5 (by decide) kw4 (fun _ h9 => h9) rfl (by decide +kernel) rfl rfl (Nat.le_of_ble_eq_true rfl) dX6_run_43 (fun H locs hP hD hS => ?_)
    have hP : va_P (dC, dI) vwCl [(h0, .inr (6, [.ref h1, .int states, .ref h2, .int ln, .ref h3, .int (vm_bi s0_43), .ref h4, .int rd_43, .int num_43, .int due_43, .long hash])), (h1, .inl (cI, 163, .inl z)), (h2, .inl (cI, 978, .inl hi)), (h3, .inl (cI, 60, .inl tx)), (h4, .inl (cI, 42, .inl pa_43))] H := hP
    have hD : va_D A [(h0, .inr (6, [.ref h1, .int states, .ref h2, .int ln, .ref h3, .int (vm_bi s0_43), .ref h4, .int rd_43, .int num_43, .int due_43, .long hash])), (h1, .inl (cI, 163, .inl z)), (h2, .inl (cI, 978, .inl hi)), (h3, .inl (cI, 60, .inl tx)), (h4, .inl (cI, 42, .inl pa_43))] := hD
    refine lv_aload_n hx hb dX6_run_46 rfl (lv_at hl 0 rfl) ?_
    refine va_get (D := (dC, dI)) (ci := 6) (v := .int (vm_bi s0_43)) (C := RX6) (T := TX6) (N := 11) hx hb hts iwsX60 hown hK hP 0 rfl rfl 5 (by decide) kw4 (fun _ h9 => h9) rfl dX6_run_47 ?_
    refine lv_if_le (tgt := 55) hx hb dX6_run_50 (by decide) (fun c_4 => ?_) (fun c_4 => ?_)
    · rw [if_pos c_4] at eO
      refine lv_aload_n hx hb dX6_run_55 rfl (lv_at hl 0 rfl) ?_
      obtain ⟨hv_5, eO⟩ := eO
      refine vm_rwVv (As := []) (rest := []) (T := TX6) (N := 11) (wc := [(h0, .inr (6, [.ref h1, .int states, .ref h2, .int ln, .ref h3, .int (vm_bi s0_43), .ref h4, .int rd_43, .int num_43, .int due_43, .long hash])), (h1, .inl (cI, 163, .inl z)), (h2, .inl (cI, 978, .inl hi)), (h3, .inl (cI, 60, .inl tx)), (h4, .inl (cI, 42, .inl pa_43))]) (w1 := [(h0, .inr (6, [.ref h1, .int ((f_X6_save states z hi).1), .ref h2, .int ln, .ref h3, .int (vm_bi s0_43), .ref h4, .int rd_43, .int num_43, .int due_43, .long hash])), (h1, .inl (cI, 163, .inl z)), (h2, .inl (cI, 978, .inl ((f_X6_save states z hi).2))), (h3, .inl (cI, 60, .inl tx)), (h4, .inl (cI, 42, .inl pa_43))]) ⟨hx, hb, hml, hown, hts⟩ hK hN hP hD hS hA hl.1 ⟨Nat.le_of_ble_eq_true rfl, Nat.le_of_ble_eq_true rfl⟩ (c_X6_save l dC dI cI cB h0 h1 h2 h3 h4 _ states ln (vm_bi s0_43) rd_43 num_43 due_43 hash z hi tx pa_43 hv_5) (cwV 0 hts gX6_run_X6_save rfl rfl rfl yd_X6_save ⟨Nat.le_of_ble_eq_true rfl, Nat.le_of_ble_eq_true rfl⟩) [0, 1, 2, 3, 4] rfl rfl rfl 6 rfl rfl rfl rfl (Nat.le_of_ble_eq_true rfl) dX6_run_56 (fun H locs hP hD hS => ?_)
      have hP : va_P (dC, dI) vwCl [(h0, .inr (6, [.ref h1, .int ((f_X6_save states z hi).1), .ref h2, .int ln, .ref h3, .int (vm_bi s0_43), .ref h4, .int rd_43, .int num_43, .int due_43, .long hash])), (h1, .inl (cI, 163, .inl z)), (h2, .inl (cI, 978, .inl ((f_X6_save states z hi).2))), (h3, .inl (cI, 60, .inl tx)), (h4, .inl (cI, 42, .inl pa_43))] H := hP
      have hD : va_D A [(h0, .inr (6, [.ref h1, .int ((f_X6_save states z hi).1), .ref h2, .int ln, .ref h3, .int (vm_bi s0_43), .ref h4, .int rd_43, .int num_43, .int due_43, .long hash])), (h1, .inl (cI, 163, .inl z)), (h2, .inl (cI, 978, .inl ((f_X6_save states z hi).2))), (h3, .inl (cI, 60, .inl tx)), (h4, .inl (cI, 42, .inl pa_43))] := hD
      obtain ⟨states_c59, estates_c59⟩ : ∃ zz9, zz9 = (f_X6_save states z hi).1 := ⟨_, rfl⟩
      rw [← estates_c59] at hP hD
      obtain ⟨hi_c59, ehi_c59⟩ : ∃ zz9, zz9 = (f_X6_save states z hi).2 := ⟨_, rfl⟩
      rw [← ehi_c59] at hP hD
      have eF : rr = f_X6_run_c59 z s0_43 rd_43 num_43 due_43 pa_43 states_c59 hi_c59 := eF.trans (by rw [f_X6_run_j43, if_pos c_4, estates_c59, ehi_c59])
      have eO : o_X6_run_c59 z s0_43 rd_43 num_43 due_43 pa_43 states_c59 hi_c59 := by rw [estates_c59, ehi_c59]; exact eO
      rw [o_X6_run_c59] at eO
      refine lv_aload_n hx hb dX6_run_59 rfl (lv_at hl 0 rfl) ?_
      refine lv_iconst (v := 0) hx hb dX6_run_60 (by decide) ?_
      refine va_put (D := (dC, dI)) (ci := 6) (v := .int 0) (ty := .int) (C := RX6) (T := TX6) (N := 11) hx hb hts iwsX60 tyX6 tyX6_ok nmX6 hown hK hP hD hS 0 rfl rfl 3 (by decide) kw1 (fun _ h9 => h9) rfl (by decide +kernel) rfl rfl (Nat.le_of_ble_eq_true rfl) dX6_run_61 (fun H locs hP hD hS => ?_)
      have hP : va_P (dC, dI) vwCl [(h0, .inr (6, [.ref h1, .int states_c59, .ref h2, .int 0, .ref h3, .int (vm_bi s0_43), .ref h4, .int rd_43, .int num_43, .int due_43, .long hash])), (h1, .inl (cI, 163, .inl z)), (h2, .inl (cI, 978, .inl hi_c59)), (h3, .inl (cI, 60, .inl tx)), (h4, .inl (cI, 42, .inl pa_43))] H := hP
      have hD : va_D A [(h0, .inr (6, [.ref h1, .int states_c59, .ref h2, .int 0, .ref h3, .int (vm_bi s0_43), .ref h4, .int rd_43, .int num_43, .int due_43, .long hash])), (h1, .inl (cI, 163, .inl z)), (h2, .inl (cI, 978, .inl hi_c59)), (h3, .inl (cI, 60, .inl tx)), (h4, .inl (cI, 42, .inl pa_43))] := hD
      refine lv_iconst (v := 0) hx hb dX6_run_64 (by decide) ?_
      refine lv_istore_n (lv' := [(2, .int 0), (0, .ref h0)]) hx hb dX6_run_65 rfl hl (by decide) rfl (fun ls hl => ?_)
      exact hJ66 1000 0 states_c59 (vm_bi s0_43) rd_43 num_43 due_43 z hi_c59 pa_43 (eF.trans (by rw [f_X6_run_c59])) eO _ _ hP hD hS ls (lv_sub hl [1, 0] rfl)
    · rw [if_neg c_4] at eO
      refine lv_iconst (v := 0) hx hb dX6_run_53 (by decide) ?_
      have e9 : rr = ((0, states, ln, vm_bi s0_43, rd_43, num_43, due_43, z, hi, pa_43) : Int32 × Int32 × Int32 × Int32 × Int32 × Int32 × Int32 × (Nat → Int32) × (Nat → Int32) × (Nat → Int32)) := eF.trans (by rw [f_X6_run_j43, if_neg c_4])
      exact W.iret (v := 0) hx hb hr (fun t ht hW => ⟨⟨_, (), rfl, by rw [e9], (by rw [e9]; show va_P _ _ _ t.heap; rw [ht]; exact hP)⟩, hS.F ht⟩) hS.2.2 dX6_run_54
  have hJ32 : ∀ (s0_32 : Bool) (rd_32 : Int32) (num_32 : Int32) (due_32 : Int32) (pa_32 : Nat → Int32), rr = f_X6_run_j32 states ln z hi s0_32 rd_32 num_32 due_32 pa_32 → o_X6_run_j32 states ln z hi s0_32 rd_32 num_32 due_32 pa_32 → ∀ (H : Heap) (locs : List Loc), va_P (dC, dI) vwCl [(h0, .inr (6, [.ref h1, .int states, .ref h2, .int ln, .ref h3, .int thr, .ref h4, .int rd_32, .int num_32, .int due_32, .long hash])), (h1, .inl (cI, 163, .inl z)), (h2, .inl (cI, 978, .inl hi)), (h3, .inl (cI, 60, .inl tx)), (h4, .inl (cI, 42, .inl pa_32))] H → va_D A [(h0, .inr (6, [.ref h1, .int states, .ref h2, .int ln, .ref h3, .int thr, .ref h4, .int rd_32, .int num_32, .int due_32, .long hash])), (h1, .inl (cI, 163, .inl z)), (h2, .inl (cI, 978, .inl hi)), (h3, .inl (cI, 60, .inl tx)), (h4, .inl (cI, 42, .inl pa_32))] → va_S A s.heap H locs → ∀ (ls : Array Slot), lv_has ls 3 [(0, .ref h0)] → W p l e (headSpec wsX6_run ({ frames := 6, cells := 0, slots := 0, locals := 137 })).room s m ([.ref h0] : List Value).toArray below meth c H locs 0 0 (MQ below (va_Qi (fun (r9 : Int32) (_ : Unit) => r9 = rr.1) (fun _ t => va_P (dC, dI) vwCl [(h0, .inr (6, [.ref h1, .int rr.2.1, .ref h2, .int rr.2.2.1, .ref h3, .int rr.2.2.2.1, .ref h4, .int rr.2.2.2.2.1, .int rr.2.2.2.2.2.1, .int rr.2.2.2.2.2.2.1, .long hash])), (h1, .inl (cI, 163, .inl rr.2.2.2.2.2.2.2.1)), (h2, .inl (cI, 978, .inl rr.2.2.2.2.2.2.2.2.1)), (h3, .inl (cI, 60, .inl tx)), (h4, .inl (cI, 42, .inl rr.2.2.2.2.2.2.2.2.2))] t.heap) A) ([.ref h0] : List Value).toArray s 0 0 A) (F0 m 32 ls [.int (vm_bi s0_32)]) := by
    intro s0_32 rd_32 num_32 due_32 pa_32 eF eO H locs hP hD hS ls hl
    rw [o_X6_run_j32] at eO
    refine lv_istore_n (lv' := [(1, .int (vm_bi s0_32)), (0, .ref h0)]) hx hb dX6_run_32 rfl hl (by decide) rfl (fun ls hl => ?_)
    refine lv_aload_n hx hb dX6_run_33 rfl (lv_at hl 1 rfl) ?_
    refine lv_iload_n hx hb dX6_run_34 rfl (lv_at hl 0 rfl) ?_
    refine lv_if_eq (tgt := 42) hx hb dX6_run_35 (by decide) (fun c_6 => ?_) (fun c_6 => ?_)
    · rw [if_pos c_6] at eO
      refine lv_iconst (v := 1) hx hb dX6_run_42 (by decide) ?_
      exact hJ43 true rd_32 num_32 due_32 pa_32 (eF.trans (by rw [f_X6_run_j32, if_pos c_6])) eO _ _ hP hD hS ls (lv_sub hl [1] rfl)
    · rw [if_neg c_6] at eO
      refine lv_iconst (v := 0) hx hb dX6_run_38 (by decide) ?_
      refine lv_goto (tgt := 43) hx hb dX6_run_39 (by decide) ?_
      exact hJ43 false rd_32 num_32 due_32 pa_32 (eF.trans (by rw [f_X6_run_j32, if_neg c_6])) eO _ _ hP hD hS ls (lv_sub hl [1] rfl)
  have hJ31 : ∀ (rd_31 : Int32) (num_31 : Int32) (due_31 : Int32) (pa_31 : Nat → Int32), rr = f_X6_run_j31 states ln z hi rd_31 num_31 due_31 pa_31 → o_X6_run_j31 states ln z hi rd_31 num_31 due_31 pa_31 → ∀ (H : Heap) (locs : List Loc), va_P (dC, dI) vwCl [(h0, .inr (6, [.ref h1, .int states, .ref h2, .int ln, .ref h3, .int thr, .ref h4, .int rd_31, .int num_31, .int due_31, .long hash])), (h1, .inl (cI, 163, .inl z)), (h2, .inl (cI, 978, .inl hi)), (h3, .inl (cI, 60, .inl tx)), (h4, .inl (cI, 42, .inl pa_31))] H → va_D A [(h0, .inr (6, [.ref h1, .int states, .ref h2, .int ln, .ref h3, .int thr, .ref h4, .int rd_31, .int num_31, .int due_31, .long hash])), (h1, .inl (cI, 163, .inl z)), (h2, .inl (cI, 978, .inl hi)), (h3, .inl (cI, 60, .inl tx)), (h4, .inl (cI, 42, .inl pa_31))] → va_S A s.heap H locs → ∀ (ls : Array Slot), lv_has ls 3 [(0, .ref h0)] → W p l e (headSpec wsX6_run ({ frames := 6, cells := 0, slots := 0, locals := 137 })).room s m ([.ref h0] : List Value).toArray below meth c H locs 0 0 (MQ below (va_Qi (fun (r9 : Int32) (_ : Unit) => r9 = rr.1) (fun _ t => va_P (dC, dI) vwCl [(h0, .inr (6, [.ref h1, .int rr.2.1, .ref h2, .int rr.2.2.1, .ref h3, .int rr.2.2.2.1, .ref h4, .int rr.2.2.2.2.1, .int rr.2.2.2.2.2.1, .int rr.2.2.2.2.2.2.1, .long hash])), (h1, .inl (cI, 163, .inl rr.2.2.2.2.2.2.2.1)), (h2, .inl (cI, 978, .inl rr.2.2.2.2.2.2.2.2.1)), (h3, .inl (cI, 60, .inl tx)), (h4, .inl (cI, 42, .inl rr.2.2.2.2.2.2.2.2.2))] t.heap) A) ([.ref h0] : List Value).toArray s 0 0 A) (F0 m 31 ls []) := by
    intro rd_31 num_31 due_31 pa_31 eF eO H locs hP hD hS ls hl
    rw [o_X6_run_j31] at eO
    refine lv_iconst (v := 0) hx hb dX6_run_31 (by decide) ?_
    exact hJ32 false rd_31 num_31 due_31 pa_31 (eF.trans (by rw [f_X6_run_j31])) eO _ _ hP hD hS ls (lv_sub hl [0] rfl)
  rw [o_X6_run] at eO
  refine lv_aload_n hx hb dX6_run_0 rfl (lv_at hl 0 rfl) ?_
  obtain ⟨hv_7, eO⟩ := eO
  refine vm_rwV (As := []) (rest := []) (T := TX6) (N := 11) (wc := [(h0, .inr (6, [.ref h1, .int states, .ref h2, .int ln, .ref h3, .int thr, .ref h4, .int rd, .int num, .int due, .long hash])), (h1, .inl (cI, 163, .inl z)), (h2, .inl (cI, 978, .inl hi)), (h3, .inl (cI, 60, .inl tx)), (h4, .inl (cI, 42, .inl pa))]) (w1 := [(h0, .inr (6, [.ref h1, .int states, .ref h2, .int ln, .ref h3, .int thr, .ref h4, .int ((f_X6_rightUpTo ln num tx pa).2.1), .int ((f_X6_rightUpTo ln num tx pa).2.2.1), .int ((f_X6_rightUpTo ln num tx pa).2.2.2.1), .long hash])), (h1, .inl (cI, 163, .inl z)), (h2, .inl (cI, 978, .inl hi)), (h3, .inl (cI, 60, .inl tx)), (h4, .inl (cI, 42, .inl ((f_X6_rightUpTo ln num tx pa).2.2.2.2)))]) ⟨hx, hb, hml, hown, hts⟩ hK hN hP hD hS hA hl.1 ⟨Nat.le_of_ble_eq_true rfl, Nat.le_of_ble_eq_true rfl⟩ (c_X6_rightUpTo l dC dI cI cB h0 h1 h2 h3 h4 _ states ln thr rd num due hash z hi tx pa hv_7) (cwV 0 hts gX6_run_X6_rightUpTo rfl rfl rfl yd_X6_rightUpTo ⟨Nat.le_of_ble_eq_true rfl, Nat.le_of_ble_eq_true rfl⟩) [0, 1, 2, 3, 4] rfl rfl rfl 6 rfl rfl rfl rfl (Nat.le_of_ble_eq_true rfl) dX6_run_1 (fun r4 H locs hw hP hD hS => ?_)
  have hP : va_P (dC, dI) vwCl [(h0, .inr (6, [.ref h1, .int states, .ref h2, .int ln, .ref h3, .int thr, .ref h4, .int ((f_X6_rightUpTo ln num tx pa).2.1), .int ((f_X6_rightUpTo ln num tx pa).2.2.1), .int ((f_X6_rightUpTo ln num tx pa).2.2.2.1), .long hash])), (h1, .inl (cI, 163, .inl z)), (h2, .inl (cI, 978, .inl hi)), (h3, .inl (cI, 60, .inl tx)), (h4, .inl (cI, 42, .inl ((f_X6_rightUpTo ln num tx pa).2.2.2.2)))] H := hP
  have hD : va_D A [(h0, .inr (6, [.ref h1, .int states, .ref h2, .int ln, .ref h3, .int thr, .ref h4, .int ((f_X6_rightUpTo ln num tx pa).2.1), .int ((f_X6_rightUpTo ln num tx pa).2.2.1), .int ((f_X6_rightUpTo ln num tx pa).2.2.2.1), .long hash])), (h1, .inl (cI, 163, .inl z)), (h2, .inl (cI, 978, .inl hi)), (h3, .inl (cI, 60, .inl tx)), (h4, .inl (cI, 42, .inl ((f_X6_rightUpTo ln num tx pa).2.2.2.2)))] := hD
  obtain ⟨y4, ey4⟩ : ∃ zz9, zz9 = (f_X6_rightUpTo ln num tx pa).1 := ⟨_, rfl⟩
  obtain rfl : y4 = r4 := (hw.trans ey4.symm).symm
  obtain ⟨rd_c4, erd_c4⟩ : ∃ zz9, zz9 = (f_X6_rightUpTo ln num tx pa).2.1 := ⟨_, rfl⟩
  rw [← erd_c4] at hP hD
  obtain ⟨num_c4, enum_c4⟩ : ∃ zz9, zz9 = (f_X6_rightUpTo ln num tx pa).2.2.1 := ⟨_, rfl⟩
  rw [← enum_c4] at hP hD
  obtain ⟨due_c4, edue_c4⟩ : ∃ zz9, zz9 = (f_X6_rightUpTo ln num tx pa).2.2.2.1 := ⟨_, rfl⟩
  rw [← edue_c4] at hP hD
  obtain ⟨pa_c4, epa_c4⟩ : ∃ zz9, zz9 = (f_X6_rightUpTo ln num tx pa).2.2.2.2 := ⟨_, rfl⟩
  rw [← epa_c4] at hP hD
  have eF : rr = f_X6_run_c4 states ln z hi y4 rd_c4 num_c4 due_c4 pa_c4 := eF.trans (by rw [f_X6_run, ey4, erd_c4, enum_c4, edue_c4, epa_c4])
  have eO : o_X6_run_c4 states ln z hi y4 rd_c4 num_c4 due_c4 pa_c4 := by rw [ey4, erd_c4, enum_c4, edue_c4, epa_c4]; exact eO
  rw [o_X6_run_c4] at eO
  refine lv_aload_n hx hb dX6_run_4 rfl (lv_at hl 0 rfl) ?_
  refine va_get (D := (dC, dI)) (ci := 6) (v := .int ln) (C := RX6) (T := TX6) (N := 11) hx hb hts iwsX60 hown hK hP 0 rfl rfl 3 (by decide) kw1 (fun _ h9 => h9) rfl dX6_run_5 ?_
  refine lv_icmp_ne (tgt := 31) hx hb dX6_run_8 (by decide) (fun c_8 => ?_) (fun c_8 => ?_)
  · rw [if_neg c_8] at eO
    exact hJ31 rd_c4 num_c4 due_c4 pa_c4 (eF.trans (by rw [f_X6_run_c4, if_neg c_8])) eO _ _ hP hD hS ls (lv_sub hl [0] rfl)
  · rw [if_pos c_8] at eO
    refine lv_aload_n hx hb dX6_run_11 rfl (lv_at hl 0 rfl) ?_
    refine va_get (D := (dC, dI)) (ci := 6) (v := .int due_c4) (C := RX6) (T := TX6) (N := 11) hx hb hts iwsX60 hown hK hP 0 rfl rfl 9 (by decide) kw2 (fun _ h9 => h9) rfl dX6_run_12 ?_
    refine lv_iconst (v := 2) hx hb dX6_run_15 (by decide) ?_
    refine lv_icmp_ne (tgt := 31) hx hb dX6_run_16 (by decide) (fun c_9 => ?_) (fun c_9 => ?_)
    · rw [if_neg c_9] at eO
      exact hJ31 rd_c4 num_c4 due_c4 pa_c4 (eF.trans (by rw [f_X6_run_c4, if_pos c_8, if_neg c_9])) eO _ _ hP hD hS ls (lv_sub hl [0] rfl)
    · rw [if_pos c_9] at eO
      refine lv_aload_n hx hb dX6_run_19 rfl (lv_at hl 0 rfl) ?_
      refine va_get (D := (dC, dI)) (ci := 6) (v := .int num_c4) (C := RX6) (T := TX6) (N := 11) hx hb hts iwsX60 hown hK hP 0 rfl rfl 8 (by decide) kw3 (fun _ h9 => h9) rfl dX6_run_20 ?_
      refine lv_iconst (v := (-1)) hx hb dX6_run_23 (by decide) ?_
      refine lv_icmp_eq (tgt := 31) hx hb dX6_run_24 (by decide) (fun c_10 => ?_) (fun c_10 => ?_)
      · rw [if_pos c_10] at eO
        exact hJ31 rd_c4 num_c4 due_c4 pa_c4 (eF.trans (by rw [f_X6_run_c4, if_pos c_8, if_pos c_9, if_pos c_10])) eO _ _ hP hD hS ls (lv_sub hl [0] rfl)
      · rw [if_neg c_10] at eO
        refine lv_iconst (v := 1) hx hb dX6_run_27 (by decide) ?_
        refine lv_goto (tgt := 32) hx hb dX6_run_28 (by decide) ?_
        exact hJ32 true rd_c4 num_c4 due_c4 pa_c4 (eF.trans (by rw [f_X6_run_c4, if_pos c_8, if_pos c_9, if_neg c_10])) eO _ _ hP hD hS ls (lv_sub hl [0] rfl)

def f_X6_undo_j37 (states : Int32) (hi : Nat → Int32) : Nat → Int32 → Int32 → (Nat → Int32) → Int32 × Int32 × Int32 × (Nat → Int32)
  | 0, _, _, _ => (0, 0, 0, (fun _ => 0))
  | n37 + 1, x1_37, thr_37, z_37 => if 163 ≤ x1_37 then
      ((states - 1), (states - 1), thr_37, z_37)
    else
      f_X6_undo_j37 states hi n37 (x1_37 + 1) thr_37 (upd z_37 (Int32.toNatClampNeg x1_37) (hi (Int32.toNatClampNeg ((163 * (states - 1)) + x1_37))))
def f_X6_undo_j13 (states : Int32) (z : Nat → Int32) (hi : Nat → Int32) (s0_13 : Bool) : Int32 × Int32 × Int32 × (Nat → Int32) :=
  if (vm_bi s0_13) ≤ 0 then
    f_X6_undo_j37 states hi ((((163 : Int32)).toInt - ((0 : Int32)).toInt).toNat + 1) 0 (vm_bi s0_13) z
  else
    (0, states, vm_bi s0_13, z)
def f_X6_undo (states : Int32) (z : Nat → Int32) (hi : Nat → Int32) : Int32 × Int32 × Int32 × (Nat → Int32) :=
  if states ≤ 0 then
    f_X6_undo_j13 states z hi true
  else
    f_X6_undo_j13 states z hi false
def o_X6_undo_j37 (states : Int32) (hi : Nat → Int32) : Nat → Int32 → Int32 → (Nat → Int32) → Prop
  | 0, _, _, _ => True
  | n37 + 1, x1_37, thr_37, z_37 => if 163 ≤ x1_37 then
      True
    else
      vp_in ((163 * (states - 1)) + x1_37) 978 ∧
      (o_X6_undo_j37 states hi n37 (x1_37 + 1) thr_37 (upd z_37 (Int32.toNatClampNeg x1_37) (hi (Int32.toNatClampNeg ((163 * (states - 1)) + x1_37)))))
def o_X6_undo_j13 (states : Int32) (z : Nat → Int32) (hi : Nat → Int32) (s0_13 : Bool) : Prop :=
  if (vm_bi s0_13) ≤ 0 then
    o_X6_undo_j37 states hi ((((163 : Int32)).toInt - ((0 : Int32)).toInt).toNat + 1) 0 (vm_bi s0_13) z
  else
    True
def o_X6_undo (states : Int32) (z : Nat → Int32) (hi : Nat → Int32) : Prop :=
  if states ≤ 0 then
    o_X6_undo_j13 states z hi true
  else
    o_X6_undo_j13 states z hi false
theorem yd_X6_undo : yX6_undo.cls = RX6 ∧ yX6_undo.cls ≠ "java/lang/invoke/MethodHandle" ∧ yX6_undo.cls ≠ "java/lang/invoke/VarHandle" ∧ (parseMethodDescriptor yX6_undo.desc).map (fun d => d.parameters.length) = some 0 := by decide +kernel
set_option maxHeartbeats 4000000 in
set_option maxRecDepth 100000 in
theorem c_X6_undo (l : Launch) (dC : Nat → ClassId) (dI : Nat → Nat → Nat) (cI cB : ClassId) (h0 h1 h2 h3 h4 : Nat) (sz : Nat) (states : Int32) (ln : Int32) (thr : Int32) (rd : Int32) (num : Int32) (due : Int32) (hash : Int64) (z : Nat → Int32) (hi : Nat → Int32) (tx : Nat → Int32) (pa : Nat → Int32) (eO : o_X6_undo states z hi) : Met l yX6_undo wsX6_undo ({ frames := 0, cells := 0, slots := 0, locals := 0 }) (vm_prw [.ref h0] (dC, dI) [(h0, .inr (6, [.ref h1, .int states, .ref h2, .int ln, .ref h3, .int thr, .ref h4, .int rd, .int num, .int due, .long hash])), (h1, .inl (cI, 163, .inl z)), (h2, .inl (cI, 978, .inl hi)), (h3, .inl (cI, 60, .inl tx)), (h4, .inl (cI, 42, .inl pa))] cI cB sz) (va_Qi (fun (r9 : Int32) (_ : Unit) => r9 = (f_X6_undo states z hi).1) (fun _ t => va_P (dC, dI) vwCl [(h0, .inr (6, [.ref h1, .int ((f_X6_undo states z hi).2.1), .ref h2, .int ln, .ref h3, .int ((f_X6_undo states z hi).2.2.1), .ref h4, .int rd, .int num, .int due, .long hash])), (h1, .inl (cI, 163, .inl ((f_X6_undo states z hi).2.2.2))), (h2, .inl (cI, 978, .inl hi)), (h3, .inl (cI, 60, .inl tx)), (h4, .inl (cI, 42, .inl pa))] t.heap) (va_A [(h0, .inr (6, [.ref h1, .int states, .ref h2, .int ln, .ref h3, .int thr, .ref h4, .int rd, .int num, .int due, .long hash])), (h1, .inl (cI, 163, .inl z)), (h2, .inl (cI, 978, .inl hi)), (h3, .inl (cI, 60, .inl tx)), (h4, .inl (cI, 42, .inl pa))] sz)) 0 0 (va_A [(h0, .inr (6, [.ref h1, .int states, .ref h2, .int ln, .ref h3, .int thr, .ref h4, .int rd, .int num, .int due, .long hash])), (h1, .inl (cI, 163, .inl z)), (h2, .inl (cI, 978, .inl hi)), (h3, .inl (cI, 60, .inl tx)), (h4, .inl (cI, 42, .inl pa))] sz) := by
  refine Met.ofW (cc := cX6_undo) (maxL := 2) (ret := (some .int)) (by decide) rfl ?_
  intro p e s m args below meth c s₁ B hml hv
  obtain ⟨rfl, hsz, hP, hK, hN, hD0⟩ := hv
  have hx := B.exec
  have hb := B.bytes
  have hr := B.returns
  have hts := atoms_spec (ws := wsX6_undo) B.pre
  have hown : s.vm.findClass RX6 = some m.cls := findClass_of_methodNamed B.named
  have hlocks := B.notSynchronized
  subst hsz
  have hD := hD0.self (sz := s.heap.size)
  generalize hAe : va_A [(h0, .inr (6, [.ref h1, .int states, .ref h2, .int ln, .ref h3, .int thr, .ref h4, .int rd, .int num, .int due, .long hash])), (h1, .inl (cI, 163, .inl z)), (h2, .inl (cI, 978, .inl hi)), (h3, .inl (cI, 60, .inl tx)), (h4, .inl (cI, 42, .inl pa))] s.heap.size = A at hD ⊢
  have hA : ∀ q : Nat, s.heap.size ≤ q → A q := fun q h => by rw [← hAe]; exact Or.inr h
  have hS : va_S A s.heap s.heap [] := va_S.rf
  have hP : va_P (dC, dI) vwCl [(h0, .inr (6, [.ref h1, .int states, .ref h2, .int ln, .ref h3, .int thr, .ref h4, .int rd, .int num, .int due, .long hash])), (h1, .inl (cI, 163, .inl z)), (h2, .inl (cI, 978, .inl hi)), (h3, .inl (cI, 60, .inl tx)), (h4, .inl (cI, 42, .inl pa))] s.heap := hP
  have kw1 := hts (.fieldLink RX6 26 "LapseMandatesModel" "states" "I") (List.mem_of_getElem? (i := 1) rfl)
  have kw2 := hts (.fieldLink RX6 22 "LapseMandatesModel" "thrown" "I") (List.mem_of_getElem? (i := 2) rfl)
  have kw3 := hts (.fieldLink RX6 7 "LapseMandatesModel" "z" "[I") (List.mem_of_getElem? (i := 3) rfl)
  have kw4 := hts (.fieldLink RX6 13 "LapseMandatesModel" "history" "[I") (List.mem_of_getElem? (i := 4) rfl)
  have iwsX60 : ∀ w ∈ wsX60, w ∈ wsX6_undo := fun w h => List.mem_cons_of_mem _ (List.mem_append_right _ h)
  generalize hrr : f_X6_undo states z hi = rr
  have eF := hrr.symm
  have hl := lv_entry ([.ref h0]) (n := 2) (Nat.le_of_ble_eq_true rfl)
  rw [lg_entry_eq]
  generalize (lg_sl ([.ref h0]) ++ List.replicate (2 - (lg_sl ([.ref h0])).length) Slot.unset).toArray = ls at hl ⊢
  have hl : lv_has ls 2 [(0, .ref h0)] := hl
  have hJ37 : ∀ (n37 : Nat) (x1_37 : Int32) (thr_37 : Int32) (z_37 : Nat → Int32), (((163 : Int32)).toInt - (x1_37).toInt).toNat < n37 → 0 ≤ x1_37 → rr = f_X6_undo_j37 states hi n37 x1_37 thr_37 z_37 → o_X6_undo_j37 states hi n37 x1_37 thr_37 z_37 → ∀ (H : Heap) (locs : List Loc), va_P (dC, dI) vwCl [(h0, .inr (6, [.ref h1, .int (states - 1), .ref h2, .int ln, .ref h3, .int thr_37, .ref h4, .int rd, .int num, .int due, .long hash])), (h1, .inl (cI, 163, .inl z_37)), (h2, .inl (cI, 978, .inl hi)), (h3, .inl (cI, 60, .inl tx)), (h4, .inl (cI, 42, .inl pa))] H → va_D A [(h0, .inr (6, [.ref h1, .int (states - 1), .ref h2, .int ln, .ref h3, .int thr_37, .ref h4, .int rd, .int num, .int due, .long hash])), (h1, .inl (cI, 163, .inl z_37)), (h2, .inl (cI, 978, .inl hi)), (h3, .inl (cI, 60, .inl tx)), (h4, .inl (cI, 42, .inl pa))] → va_S A s.heap H locs → ∀ (ls : Array Slot), lv_has ls 2 [(0, .ref h0), (1, .int x1_37)] → W p l e (headSpec wsX6_undo ({ frames := 0, cells := 0, slots := 0, locals := 0 })).room s m ([.ref h0] : List Value).toArray below meth c H locs 0 0 (MQ below (va_Qi (fun (r9 : Int32) (_ : Unit) => r9 = rr.1) (fun _ t => va_P (dC, dI) vwCl [(h0, .inr (6, [.ref h1, .int rr.2.1, .ref h2, .int ln, .ref h3, .int rr.2.2.1, .ref h4, .int rd, .int num, .int due, .long hash])), (h1, .inl (cI, 163, .inl rr.2.2.2)), (h2, .inl (cI, 978, .inl hi)), (h3, .inl (cI, 60, .inl tx)), (h4, .inl (cI, 42, .inl pa))] t.heap) A) ([.ref h0] : List Value).toArray s 0 0 A) (F0 m 37 ls []) := by
    intro n37
    induction n37 with
    | zero =>
      intro x1_37 thr_37 z_37 hm37
      exact absurd hm37 (Nat.not_lt_zero _)
    | succ n37 ih37 =>
      intro x1_37 thr_37 z_37 hm37 hi37 eF eO H locs hP hD hS ls hl
      rw [o_X6_undo_j37] at eO
      refine lv_iload_n hx hb dX6_undo_37 rfl (lv_at hl 1 rfl) ?_
      refine lv_sipush (v := 163) hx hb dX6_undo_38 (by decide) ?_
      refine lv_icmp_ge (tgt := 71) hx hb dX6_undo_41 (by decide) (fun cL37 => ?_) (fun cL37 => ?_)
      · rw [if_pos cL37] at eO
        refine lv_aload_n hx hb dX6_undo_71 rfl (lv_at hl 0 rfl) ?_
        refine va_get (D := (dC, dI)) (ci := 6) (v := .int (states - 1)) (C := RX6) (T := TX6) (N := 11) hx hb hts iwsX60 hown hK hP 0 rfl rfl 1 (by decide) kw1 (fun _ h9 => h9) rfl dX6_undo_72 ?_
        have e9 : rr = (((states - 1), (states - 1), thr_37, z_37) : Int32 × Int32 × Int32 × (Nat → Int32)) := eF.trans (by rw [f_X6_undo_j37, if_pos cL37])
        exact W.iret (v := (states - 1)) hx hb hr (fun t ht hW => ⟨⟨_, (), rfl, by rw [e9], (by rw [e9]; show va_P _ _ _ t.heap; rw [ht]; exact hP)⟩, hS.F ht⟩) hS.2.2 dX6_undo_75
      · rw [if_neg cL37] at eO
        refine lv_aload_n hx hb dX6_undo_44 rfl (lv_at hl 0 rfl) ?_
        refine va_get (D := (dC, dI)) (ci := 6) (v := .ref h1) (C := RX6) (T := TX6) (N := 11) hx hb hts iwsX60 hown hK hP 0 rfl rfl 0 (by decide) kw3 (fun _ h9 => h9) rfl dX6_undo_45 ?_
        refine lv_iload_n hx hb dX6_undo_48 rfl (lv_at hl 1 rfl) ?_
        refine lv_aload_n hx hb dX6_undo_49 rfl (lv_at hl 0 rfl) ?_
        refine va_get (D := (dC, dI)) (ci := 6) (v := .ref h2) (C := RX6) (T := TX6) (N := 11) hx hb hts iwsX60 hown hK hP 0 rfl rfl 2 (by decide) kw4 (fun _ h9 => h9) rfl dX6_undo_50 ?_
        refine lv_sipush (v := 163) hx hb dX6_undo_53 (by decide) ?_
        refine lv_aload_n hx hb dX6_undo_56 rfl (lv_at hl 0 rfl) ?_
        refine va_get (D := (dC, dI)) (ci := 6) (v := .int (states - 1)) (C := RX6) (T := TX6) (N := 11) hx hb hts iwsX60 hown hK hP 0 rfl rfl 1 (by decide) kw1 (fun _ h9 => h9) rfl dX6_undo_57 ?_
        refine lv_imul hx hb dX6_undo_60 ?_
        refine lv_iload_n hx hb dX6_undo_61 rfl (lv_at hl 1 rfl) ?_
        refine lv_iadd hx hb dX6_undo_62 ?_
        obtain ⟨hv_2, eO⟩ := eO
        refine va_iald hx hb hK hP 2 0 rfl rfl hv_2 dX6_undo_63 ?_
        refine va_iast hx hb hK hP hD hS 1 0 rfl rfl (vm_in hi37 (vm_nle cL37) (by decide)) dX6_undo_64 (fun H locs hP hD hS => ?_)
        have hP : va_P (dC, dI) vwCl [(h0, .inr (6, [.ref h1, .int (states - 1), .ref h2, .int ln, .ref h3, .int thr_37, .ref h4, .int rd, .int num, .int due, .long hash])), (h1, .inl (cI, 163, .inl (upd z_37 (Int32.toNatClampNeg x1_37) (hi (Int32.toNatClampNeg ((163 * (states - 1)) + x1_37)))))), (h2, .inl (cI, 978, .inl hi)), (h3, .inl (cI, 60, .inl tx)), (h4, .inl (cI, 42, .inl pa))] H := hP
        have hD : va_D A [(h0, .inr (6, [.ref h1, .int (states - 1), .ref h2, .int ln, .ref h3, .int thr_37, .ref h4, .int rd, .int num, .int due, .long hash])), (h1, .inl (cI, 163, .inl (upd z_37 (Int32.toNatClampNeg x1_37) (hi (Int32.toNatClampNeg ((163 * (states - 1)) + x1_37)))))), (h2, .inl (cI, 978, .inl hi)), (h3, .inl (cI, 60, .inl tx)), (h4, .inl (cI, 42, .inl pa))] := hD
        refine lv_iinc (v := (x1_37 + 1)) (lv' := [(1, .int (x1_37 + 1)), (0, .ref h0)]) hx hb dX6_undo_65 hl (k := 1) rfl rfl (by decide) rfl (fun ls hl => ?_)
        refine lv_goto (tgt := 37) hx hb dX6_undo_68 (by decide) ?_
        exact ih37 (x1_37 + 1) thr_37 (upd z_37 (Int32.toNatClampNeg x1_37) (hi (Int32.toNatClampNeg ((163 * (states - 1)) + x1_37)))) (vm_up (vm_nle cL37) hm37) (vm_nn hi37 (vm_nle cL37)) (eF.trans (by rw [f_X6_undo_j37, if_neg cL37])) eO _ _ hP hD hS ls (lv_sub hl [1, 0] rfl)
  have hJ13 : ∀ (s0_13 : Bool), rr = f_X6_undo_j13 states z hi s0_13 → o_X6_undo_j13 states z hi s0_13 → ∀ (H : Heap) (locs : List Loc), va_P (dC, dI) vwCl [(h0, .inr (6, [.ref h1, .int states, .ref h2, .int ln, .ref h3, .int thr, .ref h4, .int rd, .int num, .int due, .long hash])), (h1, .inl (cI, 163, .inl z)), (h2, .inl (cI, 978, .inl hi)), (h3, .inl (cI, 60, .inl tx)), (h4, .inl (cI, 42, .inl pa))] H → va_D A [(h0, .inr (6, [.ref h1, .int states, .ref h2, .int ln, .ref h3, .int thr, .ref h4, .int rd, .int num, .int due, .long hash])), (h1, .inl (cI, 163, .inl z)), (h2, .inl (cI, 978, .inl hi)), (h3, .inl (cI, 60, .inl tx)), (h4, .inl (cI, 42, .inl pa))] → va_S A s.heap H locs → ∀ (ls : Array Slot), lv_has ls 2 [(0, .ref h0)] → W p l e (headSpec wsX6_undo ({ frames := 0, cells := 0, slots := 0, locals := 0 })).room s m ([.ref h0] : List Value).toArray below meth c H locs 0 0 (MQ below (va_Qi (fun (r9 : Int32) (_ : Unit) => r9 = rr.1) (fun _ t => va_P (dC, dI) vwCl [(h0, .inr (6, [.ref h1, .int rr.2.1, .ref h2, .int ln, .ref h3, .int rr.2.2.1, .ref h4, .int rd, .int num, .int due, .long hash])), (h1, .inl (cI, 163, .inl rr.2.2.2)), (h2, .inl (cI, 978, .inl hi)), (h3, .inl (cI, 60, .inl tx)), (h4, .inl (cI, 42, .inl pa))] t.heap) A) ([.ref h0] : List Value).toArray s 0 0 A) (F0 m 13 ls [.int (vm_bi s0_13), .ref h0]) := by
    intro s0_13 eF eO H locs hP hD hS ls hl
    rw [o_X6_undo_j13] at eO
    refine va_put (D := (dC, dI)) (ci := 6) (v := .int (vm_bi s0_13)) (ty := .int) (C := RX6) (T := TX6) (N := 11) hx hb hts iwsX60 tyX6 tyX6_ok nmX6 hown hK hP hD hS 0 rfl rfl 5 (by decide) kw2 (fun _ h9 => h9) rfl (by decide +kernel) rfl rfl (Nat.le_of_ble_eq_true rfl) dX6_undo_13 (fun H locs hP hD hS => ?_)
    have hP : va_P (dC, dI) vwCl [(h0, .inr (6, [.ref h1, .int states, .ref h2, .int ln, .ref h3, .int (vm_bi s0_13), .ref h4, .int rd, .int num, .int due, .long hash])), (h1, .inl (cI, 163, .inl z)), (h2, .inl (cI, 978, .inl hi)), (h3, .inl (cI, 60, .inl tx)), (h4, .inl (cI, 42, .inl pa))] H := hP
    have hD : va_D A [(h0, .inr (6, [.ref h1, .int states, .ref h2, .int ln, .ref h3, .int (vm_bi s0_13), .ref h4, .int rd, .int num, .int due, .long hash])), (h1, .inl (cI, 163, .inl z)), (h2, .inl (cI, 978, .inl hi)), (h3, .inl (cI, 60, .inl tx)), (h4, .inl (cI, 42, .inl pa))] := hD
    refine lv_aload_n hx hb dX6_undo_16 rfl (lv_at hl 0 rfl) ?_
    refine va_get (D := (dC, dI)) (ci := 6) (v := .int (vm_bi s0_13)) (C := RX6) (T := TX6) (N := 11) hx hb hts iwsX60 hown hK hP 0 rfl rfl 5 (by decide) kw2 (fun _ h9 => h9) rfl dX6_undo_17 ?_
    refine lv_if_le (tgt := 25) hx hb dX6_undo_20 (by decide) (fun c_3 => ?_) (fun c_3 => ?_)
    · rw [if_pos c_3] at eO
      refine lv_aload_n hx hb dX6_undo_25 rfl (lv_at hl 0 rfl) ?_
      refine lv_dup hx hb dX6_undo_26 rfl ?_
      refine va_get (D := (dC, dI)) (ci := 6) (v := .int states) (C := RX6) (T := TX6) (N := 11) hx hb hts iwsX60 hown hK hP 0 rfl rfl 1 (by decide) kw1 (fun _ h9 => h9) rfl dX6_undo_27 ?_
      refine lv_iconst (v := 1) hx hb dX6_undo_30 (by decide) ?_
      refine lv_isub hx hb dX6_undo_31 ?_
      refine va_put (D := (dC, dI)) (ci := 6) (v := .int (states - 1)) (ty := .int) (C := RX6) (T := TX6) (N := 11) hx hb hts iwsX60 tyX6 tyX6_ok nmX6 hown hK hP hD hS 0 rfl rfl 1 (by decide) kw1 (fun _ h9 => h9) rfl (by decide +kernel) rfl rfl (Nat.le_of_ble_eq_true rfl) dX6_undo_32 (fun H locs hP hD hS => ?_)
      have hP : va_P (dC, dI) vwCl [(h0, .inr (6, [.ref h1, .int (states - 1), .ref h2, .int ln, .ref h3, .int (vm_bi s0_13), .ref h4, .int rd, .int num, .int due, .long hash])), (h1, .inl (cI, 163, .inl z)), (h2, .inl (cI, 978, .inl hi)), (h3, .inl (cI, 60, .inl tx)), (h4, .inl (cI, 42, .inl pa))] H := hP
      have hD : va_D A [(h0, .inr (6, [.ref h1, .int (states - 1), .ref h2, .int ln, .ref h3, .int (vm_bi s0_13), .ref h4, .int rd, .int num, .int due, .long hash])), (h1, .inl (cI, 163, .inl z)), (h2, .inl (cI, 978, .inl hi)), (h3, .inl (cI, 60, .inl tx)), (h4, .inl (cI, 42, .inl pa))] := hD
      refine lv_iconst (v := 0) hx hb dX6_undo_35 (by decide) ?_
      refine lv_istore_n (lv' := [(1, .int 0), (0, .ref h0)]) hx hb dX6_undo_36 rfl hl (by decide) rfl (fun ls hl => ?_)
      exact hJ37 ((((163 : Int32)).toInt - ((0 : Int32)).toInt).toNat + 1) 0 (vm_bi s0_13) z (Nat.lt_succ_self _) (by decide) (eF.trans (by rw [f_X6_undo_j13, if_pos c_3])) eO _ _ hP hD hS ls (lv_sub hl [1, 0] rfl)
    · rw [if_neg c_3] at eO
      refine lv_iconst (v := 0) hx hb dX6_undo_23 (by decide) ?_
      have e9 : rr = ((0, states, vm_bi s0_13, z) : Int32 × Int32 × Int32 × (Nat → Int32)) := eF.trans (by rw [f_X6_undo_j13, if_neg c_3])
      exact W.iret (v := 0) hx hb hr (fun t ht hW => ⟨⟨_, (), rfl, by rw [e9], (by rw [e9]; show va_P _ _ _ t.heap; rw [ht]; exact hP)⟩, hS.F ht⟩) hS.2.2 dX6_undo_24
  rw [o_X6_undo] at eO
  refine lv_aload_n hx hb dX6_undo_0 rfl (lv_at hl 0 rfl) ?_
  refine lv_aload_n hx hb dX6_undo_1 rfl (lv_at hl 0 rfl) ?_
  refine va_get (D := (dC, dI)) (ci := 6) (v := .int states) (C := RX6) (T := TX6) (N := 11) hx hb hts iwsX60 hown hK hP 0 rfl rfl 1 (by decide) kw1 (fun _ h9 => h9) rfl dX6_undo_2 ?_
  refine lv_if_le (tgt := 12) hx hb dX6_undo_5 (by decide) (fun c_4 => ?_) (fun c_4 => ?_)
  · rw [if_pos c_4] at eO
    refine lv_iconst (v := 1) hx hb dX6_undo_12 (by decide) ?_
    exact hJ13 true (eF.trans (by rw [f_X6_undo, if_pos c_4])) eO _ _ hP hD hS ls (lv_sub hl [0] rfl)
  · rw [if_neg c_4] at eO
    refine lv_iconst (v := 0) hx hb dX6_undo_8 (by decide) ?_
    refine lv_goto (tgt := 13) hx hb dX6_undo_9 (by decide) ?_
    exact hJ13 false (eF.trans (by rw [f_X6_undo, if_neg c_4])) eO _ _ hP hD hS ls (lv_sub hl [0] rfl)

def f_X6_requestsBy_j30 (x2_4 : Int32) (x3_4 : Int32) (kj4 : Int32 → Int32 → Int32) (s0_30 : Bool) : Int32 :=
  kj4 (x2_4 + (vm_bi s0_30)) (x3_4 + 1)
def f_X6_requestsBy_j4 (z : Nat → Int32) (p1 : Int32) : Nat → Int32 → Int32 → Int32
  | 0, _, _ => 0
  | n4 + 1, x2_4, x3_4 => if (z (Int32.toNatClampNeg 4)) ≤ x3_4 then
      x2_4
    else
      if (f_X6_ofRequest z x3_4 0) = p1 then
        f_X6_requestsBy_j30 x2_4 x3_4 (f_X6_requestsBy_j4 z p1 n4) true
      else
        f_X6_requestsBy_j30 x2_4 x3_4 (f_X6_requestsBy_j4 z p1 n4) false
def f_X6_requestsBy (z : Nat → Int32) (p1 : Int32) : Int32 :=
  f_X6_requestsBy_j4 z p1 ((((z (Int32.toNatClampNeg 4))).toInt - ((0 : Int32)).toInt).toNat + 1) 0 0
def o_X6_requestsBy_j30 (x2_4 : Int32) (x3_4 : Int32) (koj4 : Int32 → Int32 → Prop) (s0_30 : Bool) : Prop :=
  koj4 (x2_4 + (vm_bi s0_30)) (x3_4 + 1)
def o_X6_requestsBy_j4 (z : Nat → Int32) (p1 : Int32) : Nat → Int32 → Int32 → Prop
  | 0, _, _ => True
  | n4 + 1, x2_4, x3_4 => if (z (Int32.toNatClampNeg 4)) ≤ x3_4 then
      True
    else
      o_X6_ofRequest z x3_4 0 ∧
      (if (f_X6_ofRequest z x3_4 0) = p1 then
        o_X6_requestsBy_j30 x2_4 x3_4 (o_X6_requestsBy_j4 z p1 n4) true
      else
        o_X6_requestsBy_j30 x2_4 x3_4 (o_X6_requestsBy_j4 z p1 n4) false)
def o_X6_requestsBy (z : Nat → Int32) (p1 : Int32) : Prop :=
  o_X6_requestsBy_j4 z p1 ((((z (Int32.toNatClampNeg 4))).toInt - ((0 : Int32)).toInt).toNat + 1) 0 0
theorem yd_X6_requestsBy : yX6_requestsBy.cls = RX6 ∧ yX6_requestsBy.cls ≠ "java/lang/invoke/MethodHandle" ∧ yX6_requestsBy.cls ≠ "java/lang/invoke/VarHandle" ∧ (parseMethodDescriptor yX6_requestsBy.desc).map (fun d => d.parameters.length) = some 1 := by decide +kernel
set_option maxHeartbeats 4000000 in
set_option maxRecDepth 100000 in
theorem c_X6_requestsBy (l : Launch) (dC : Nat → ClassId) (dI : Nat → Nat → Nat) (cI cB : ClassId) (h0 h1 h2 h3 h4 : Nat) (states : Int32) (ln : Int32) (thr : Int32) (rd : Int32) (num : Int32) (due : Int32) (hash : Int64) (z : Nat → Int32) (hi : Nat → Int32) (tx : Nat → Int32) (pa : Nat → Int32) (p1 : Int32) (eO : o_X6_requestsBy z p1) : Met l yX6_requestsBy wsX6_requestsBy ({ frames := 1, cells := 0, slots := 0, locals := 22 }) (vm_pre [.ref h0, .int p1] (dC, dI) [(h0, .inr (6, [.ref h1, .int states, .ref h2, .int ln, .ref h3, .int thr, .ref h4, .int rd, .int num, .int due, .long hash])), (h1, .inl (cI, 163, .inl z)), (h2, .inl (cI, 978, .inl hi)), (h3, .inl (cI, 60, .inl tx)), (h4, .inl (cI, 42, .inl pa))] cI cB) (vp_Si (fun r9 : Int32 => r9 = (f_X6_requestsBy z p1))) 0 0 (fun _ => False) := by
  refine Met.ofW (cc := cX6_requestsBy) (maxL := 4) (ret := (some .int)) (by decide) rfl ?_
  intro p e s m args below meth c s₁ B hml hv
  obtain ⟨rfl, hP, hK, hN⟩ := hv
  have hx := B.exec
  have hb := B.bytes
  have hr := B.returns
  have hts := atoms_spec (ws := wsX6_requestsBy) B.pre
  have hown : s.vm.findClass RX6 = some m.cls := findClass_of_methodNamed B.named
  have hlocks := B.notSynchronized
  have kw1 := hts (.fieldLink RX6 7 "LapseMandatesModel" "z" "[I") (List.mem_of_getElem? (i := 1) rfl)
  have iwsX60 : ∀ w ∈ wsX60, w ∈ wsX6_requestsBy := fun w h => List.mem_cons_of_mem _ (List.mem_append_right _ h)
  generalize hrr : f_X6_requestsBy z p1 = rr
  have eF := hrr.symm
  have hl := lv_entry ([.ref h0, .int p1]) (n := 4) (Nat.le_of_ble_eq_true rfl)
  rw [lg_entry_eq]
  generalize (lg_sl ([.ref h0, .int p1]) ++ List.replicate (4 - (lg_sl ([.ref h0, .int p1])).length) Slot.unset).toArray = ls at hl ⊢
  have hl : lv_has ls 4 [(0, .ref h0), (1, .int p1)] := hl
  have hJ4 : ∀ (n4 : Nat) (x2_4 : Int32) (x3_4 : Int32), (((z (Int32.toNatClampNeg 4))).toInt - (x3_4).toInt).toNat < n4 → 0 ≤ x3_4 → rr = f_X6_requestsBy_j4 z p1 n4 x2_4 x3_4 → o_X6_requestsBy_j4 z p1 n4 x2_4 x3_4 → ∀ (ls : Array Slot), lv_has ls 4 [(0, .ref h0), (1, .int p1), (2, .int x2_4), (3, .int x3_4)] → W p l e (headSpec wsX6_requestsBy ({ frames := 1, cells := 0, slots := 0, locals := 22 })).room s m ([.ref h0, .int p1] : List Value).toArray below meth c s.heap [] 0 0 (MQ below (vp_Si (fun r9 : Int32 => r9 = rr)) ([.ref h0, .int p1] : List Value).toArray s 0 0 (fun _ => False)) (F0 m 4 ls []) := by
    intro n4
    induction n4 with
    | zero =>
      intro x2_4 x3_4 hm4
      exact absurd hm4 (Nat.not_lt_zero _)
    | succ n4 ih4 =>
      intro x2_4 x3_4 hm4 hi4 eF eO ls hl
      rw [o_X6_requestsBy_j4] at eO
      have hJ30 : ∀ (s0_30 : Bool), ¬ (z (Int32.toNatClampNeg 4)) ≤ x3_4 → rr = f_X6_requestsBy_j30 x2_4 x3_4 (f_X6_requestsBy_j4 z p1 n4) s0_30 → o_X6_requestsBy_j30 x2_4 x3_4 (o_X6_requestsBy_j4 z p1 n4) s0_30 → ∀ (ls : Array Slot), lv_has ls 4 [(0, .ref h0), (1, .int p1), (3, .int x3_4)] → W p l e (headSpec wsX6_requestsBy ({ frames := 1, cells := 0, slots := 0, locals := 22 })).room s m ([.ref h0, .int p1] : List Value).toArray below meth c s.heap [] 0 0 (MQ below (vp_Si (fun r9 : Int32 => r9 = rr)) ([.ref h0, .int p1] : List Value).toArray s 0 0 (fun _ => False)) (F0 m 30 ls [.int (vm_bi s0_30), .int x2_4]) := by
        intro s0_30 cL4 eF eO ls hl
        rw [o_X6_requestsBy_j30] at eO
        refine lv_iadd hx hb dX6_requestsBy_30 ?_
        refine lv_istore_n (lv' := [(2, .int (x2_4 + (vm_bi s0_30))), (0, .ref h0), (1, .int p1), (3, .int x3_4)]) hx hb dX6_requestsBy_31 rfl hl (by decide) rfl (fun ls hl => ?_)
        refine lv_iinc (v := (x3_4 + 1)) (lv' := [(3, .int (x3_4 + 1)), (2, .int (x2_4 + (vm_bi s0_30))), (0, .ref h0), (1, .int p1)]) hx hb dX6_requestsBy_32 hl (k := 3) rfl rfl (by decide) rfl (fun ls hl => ?_)
        refine lv_goto (tgt := 4) hx hb dX6_requestsBy_35 (by decide) ?_
        exact ih4 (x2_4 + (vm_bi s0_30)) (x3_4 + 1) (vm_up (vm_nle cL4) hm4) (vm_nn hi4 (vm_nle cL4)) (eF.trans (by rw [f_X6_requestsBy_j30])) eO ls (lv_sub hl [2, 3, 1, 0] rfl)
      refine lv_iload_n hx hb dX6_requestsBy_4 rfl (lv_at hl 3 rfl) ?_
      refine lv_aload_n hx hb dX6_requestsBy_5 rfl (lv_at hl 0 rfl) ?_
      refine va_get (D := (dC, dI)) (ci := 6) (v := .ref h1) (C := RX6) (T := TX6) (N := 11) hx hb hts iwsX60 hown hK hP 0 rfl rfl 0 (by decide) kw1 (fun _ h9 => h9) rfl dX6_requestsBy_6 ?_
      refine lv_iconst (v := 4) hx hb dX6_requestsBy_9 (by decide) ?_
      refine va_iald hx hb hK hP 1 0 rfl rfl (by unfold vp_in; decide) dX6_requestsBy_10 ?_
      refine lv_icmp_ge (tgt := 38) hx hb dX6_requestsBy_11 (by decide) (fun cL4 => ?_) (fun cL4 => ?_)
      · rw [if_pos cL4] at eO
        refine lv_iload_n hx hb dX6_requestsBy_38 rfl (lv_at hl 2 rfl) ?_
        have e9 : rr = x2_4 := eF.trans (by rw [f_X6_requestsBy_j4, if_pos cL4])
        exact W.iret (v := x2_4) hx hb hr (fun t ht hW => ⟨_, rfl, e9.symm, ht⟩) (fun _ hq => by cases hq) dX6_requestsBy_39
      · rw [if_neg cL4] at eO
        refine lv_iload_n hx hb dX6_requestsBy_14 rfl (lv_at hl 2 rfl) ?_
        refine lv_aload_n hx hb dX6_requestsBy_15 rfl (lv_at hl 0 rfl) ?_
        refine lv_iload_n hx hb dX6_requestsBy_16 rfl (lv_at hl 3 rfl) ?_
        refine lv_iconst (v := 0) hx hb dX6_requestsBy_17 (by decide) ?_
        obtain ⟨hv_2, eO⟩ := eO
        refine vm_roVx (v := (f_X6_ofRequest z x3_4 0)) (As := [.int x3_4, .int 0]) (rest := [.int x2_4]) (T := TX6) (N := 11) (wc := [(h0, .inr (6, [.ref h1, .int states, .ref h2, .int ln, .ref h3, .int thr, .ref h4, .int rd, .int num, .int due, .long hash])), (h1, .inl (cI, 163, .inl z)), (h2, .inl (cI, 978, .inl hi)), (h3, .inl (cI, 60, .inl tx)), (h4, .inl (cI, 42, .inl pa))]) ⟨hx, hb, hml, hown, hts⟩ hK hN hP hl.1 ⟨Nat.le_of_ble_eq_true rfl, Nat.le_of_ble_eq_true rfl⟩ (c_X6_ofRequest l dC dI cI cB h0 h1 h2 h3 h4 states ln thr rd num due hash z hi tx pa x3_4 0 hv_2) (cwV 2 hts gX6_requestsBy_X6_ofRequest rfl rfl rfl yd_X6_ofRequest ⟨Nat.le_of_ble_eq_true rfl, Nat.le_of_ble_eq_true rfl⟩) [0, 1, 2, 3, 4] rfl 6 rfl rfl rfl rfl (Nat.le_of_ble_eq_true rfl) dX6_requestsBy_18 ?_
        refine lv_iload_n hx hb dX6_requestsBy_21 rfl (lv_at hl 1 rfl) ?_
        refine lv_icmp_ne (tgt := 29) hx hb dX6_requestsBy_22 (by decide) (fun c_3 => ?_) (fun c_3 => ?_)
        · rw [if_neg c_3] at eO
          refine lv_iconst (v := 0) hx hb dX6_requestsBy_29 (by decide) ?_
          exact hJ30 false cL4 (eF.trans (by rw [f_X6_requestsBy_j4, if_neg cL4, if_neg c_3])) eO ls (lv_sub hl [0, 1, 3] rfl)
        · rw [if_pos c_3] at eO
          refine lv_iconst (v := 1) hx hb dX6_requestsBy_25 (by decide) ?_
          refine lv_goto (tgt := 30) hx hb dX6_requestsBy_26 (by decide) ?_
          exact hJ30 true cL4 (eF.trans (by rw [f_X6_requestsBy_j4, if_neg cL4, if_pos c_3])) eO ls (lv_sub hl [0, 1, 3] rfl)
  rw [o_X6_requestsBy] at eO
  refine lv_iconst (v := 0) hx hb dX6_requestsBy_0 (by decide) ?_
  refine lv_istore_n (lv' := [(2, .int 0), (0, .ref h0), (1, .int p1)]) hx hb dX6_requestsBy_1 rfl hl (by decide) rfl (fun ls hl => ?_)
  refine lv_iconst (v := 0) hx hb dX6_requestsBy_2 (by decide) ?_
  refine lv_istore_n (lv' := [(3, .int 0), (2, .int 0), (0, .ref h0), (1, .int p1)]) hx hb dX6_requestsBy_3 rfl hl (by decide) rfl (fun ls hl => ?_)
  exact hJ4 ((((z (Int32.toNatClampNeg 4))).toInt - ((0 : Int32)).toInt).toNat + 1) 0 0 (Nat.lt_succ_self _) (by decide) (eF.trans (by rw [f_X6_requestsBy])) eO ls (lv_sub hl [2, 3, 1, 0] rfl)

def f_X6_mandateNow (z : Nat → Int32) (p1 : Int32) (p2 : Int32) : Int32 :=
  if p2.toInt < 8 ∨ 11 < p2.toInt then
    (f_X6_of z p1 p2)
  else
    if p2.toInt = 8 then
      (f_X6_chainOf z p1)
    else
      if p2.toInt = 9 then
        (f_X6_ones ((f_X6_standingUnder z p1) &&& ((1 <<< (p1 &&& 31)) ^^^ (-1))))
      else
        if p2.toInt = 10 then
          (f_X6_requestsBy z p1)
        else
          (f_X6_of z p1 8)
def o_X6_mandateNow (z : Nat → Int32) (p1 : Int32) (p2 : Int32) : Prop :=
  if p2.toInt < 8 ∨ 11 < p2.toInt then
    o_X6_of z p1 p2 ∧
    (True)
  else
    if p2.toInt = 8 then
      o_X6_chainOf z p1 ∧
      (True)
    else
      if p2.toInt = 9 then
        o_X6_standingUnder z p1 ∧
        (True)
      else
        if p2.toInt = 10 then
          o_X6_requestsBy z p1 ∧
          (True)
        else
          o_X6_of z p1 8 ∧
          (True)
theorem yd_X6_mandateNow : yX6_mandateNow.cls = RX6 ∧ yX6_mandateNow.cls ≠ "java/lang/invoke/MethodHandle" ∧ yX6_mandateNow.cls ≠ "java/lang/invoke/VarHandle" ∧ (parseMethodDescriptor yX6_mandateNow.desc).map (fun d => d.parameters.length) = some 2 := by decide +kernel
set_option maxHeartbeats 4000000 in
set_option maxRecDepth 100000 in
theorem c_X6_mandateNow (l : Launch) (dC : Nat → ClassId) (dI : Nat → Nat → Nat) (cI cB : ClassId) (h0 h1 h2 h3 h4 : Nat) (states : Int32) (ln : Int32) (thr : Int32) (rd : Int32) (num : Int32) (due : Int32) (hash : Int64) (z : Nat → Int32) (hi : Nat → Int32) (tx : Nat → Int32) (pa : Nat → Int32) (p1 : Int32) (p2 : Int32) (eO : o_X6_mandateNow z p1 p2) : Met l yX6_mandateNow wsX6_mandateNow ({ frames := 3, cells := 0, slots := 0, locals := 69 }) (vm_pre [.ref h0, .int p1, .int p2] (dC, dI) [(h0, .inr (6, [.ref h1, .int states, .ref h2, .int ln, .ref h3, .int thr, .ref h4, .int rd, .int num, .int due, .long hash])), (h1, .inl (cI, 163, .inl z)), (h2, .inl (cI, 978, .inl hi)), (h3, .inl (cI, 60, .inl tx)), (h4, .inl (cI, 42, .inl pa))] cI cB) (vp_Si (fun r9 : Int32 => r9 = (f_X6_mandateNow z p1 p2))) 0 0 (fun _ => False) := by
  refine Met.ofW (cc := cX6_mandateNow) (maxL := 3) (ret := (some .int)) (by decide) rfl ?_
  intro p e s m args below meth c s₁ B hml hv
  obtain ⟨rfl, hP, hK, hN⟩ := hv
  have hx := B.exec
  have hb := B.bytes
  have hr := B.returns
  have hts := atoms_spec (ws := wsX6_mandateNow) B.pre
  have hown : s.vm.findClass RX6 = some m.cls := findClass_of_methodNamed B.named
  have hlocks := B.notSynchronized
  generalize hrr : f_X6_mandateNow z p1 p2 = rr
  have eF := hrr.symm
  have hl := lv_entry ([.ref h0, .int p1, .int p2]) (n := 3) (Nat.le_of_ble_eq_true rfl)
  rw [lg_entry_eq]
  generalize (lg_sl ([.ref h0, .int p1, .int p2]) ++ List.replicate (3 - (lg_sl ([.ref h0, .int p1, .int p2])).length) Slot.unset).toArray = ls at hl ⊢
  have hl : lv_has ls 3 [(0, .ref h0), (1, .int p1), (2, .int p2)] := hl
  rw [o_X6_mandateNow] at eO
  refine lv_iload_n hx hb dX6_mandateNow_0 rfl (lv_at hl 2 rfl) ?_
  by_cases c_1 : p2.toInt < 8 ∨ 11 < p2.toInt
  · rw [if_pos c_1] at eO
    refine lv_tableOut (tgt := 67) hx hb dX6_mandateNow_1 c_1 (by decide) ?_
    refine lv_aload_n hx hb dX6_mandateNow_67 rfl (lv_at hl 0 rfl) ?_
    refine lv_iload_n hx hb dX6_mandateNow_68 rfl (lv_at hl 1 rfl) ?_
    refine lv_iload_n hx hb dX6_mandateNow_69 rfl (lv_at hl 2 rfl) ?_
    obtain ⟨hv_2, eO⟩ := eO
    refine vm_roVx (v := (f_X6_of z p1 p2)) (As := [.int p1, .int p2]) (rest := []) (T := TX6) (N := 11) (wc := [(h0, .inr (6, [.ref h1, .int states, .ref h2, .int ln, .ref h3, .int thr, .ref h4, .int rd, .int num, .int due, .long hash])), (h1, .inl (cI, 163, .inl z)), (h2, .inl (cI, 978, .inl hi)), (h3, .inl (cI, 60, .inl tx)), (h4, .inl (cI, 42, .inl pa))]) ⟨hx, hb, hml, hown, hts⟩ hK hN hP hl.1 ⟨Nat.le_of_ble_eq_true rfl, Nat.le_of_ble_eq_true rfl⟩ (c_X6_of l dC dI cI cB h0 h1 h2 h3 h4 states ln thr rd num due hash z hi tx pa p1 p2 hv_2) (cwV 2 hts gX6_mandateNow_X6_of rfl rfl rfl yd_X6_of ⟨Nat.le_of_ble_eq_true rfl, Nat.le_of_ble_eq_true rfl⟩) [0, 1, 2, 3, 4] rfl 6 rfl rfl rfl rfl (Nat.le_of_ble_eq_true rfl) dX6_mandateNow_70 ?_
    have e9 : rr = (f_X6_of z p1 p2) := eF.trans (by rw [f_X6_mandateNow, if_pos c_1])
    exact W.iret (v := (f_X6_of z p1 p2)) hx hb hr (fun t ht hW => ⟨_, rfl, e9.symm, ht⟩) (fun _ hq => by cases hq) dX6_mandateNow_73
  · rw [if_neg c_1] at eO
    have c_1_a : ¬ p2.toInt < 8 := fun q => c_1 (Or.inl q)
    have c_1_b : ¬ 11 < p2.toInt := fun q => c_1 (Or.inr q)
    by_cases c_3 : p2.toInt = 8
    · rw [if_pos c_3] at eO
      refine lv_tableIn (off := 31) (tgt := 32) hx hb dX6_mandateNow_1 c_1_a c_1_b (by rw [c_3]; rfl) (by decide) ?_
      refine lv_aload_n hx hb dX6_mandateNow_32 rfl (lv_at hl 0 rfl) ?_
      refine lv_iload_n hx hb dX6_mandateNow_33 rfl (lv_at hl 1 rfl) ?_
      obtain ⟨hv_4, eO⟩ := eO
      refine vm_roVx (v := (f_X6_chainOf z p1)) (As := [.int p1]) (rest := []) (T := TX6) (N := 11) (wc := [(h0, .inr (6, [.ref h1, .int states, .ref h2, .int ln, .ref h3, .int thr, .ref h4, .int rd, .int num, .int due, .long hash])), (h1, .inl (cI, 163, .inl z)), (h2, .inl (cI, 978, .inl hi)), (h3, .inl (cI, 60, .inl tx)), (h4, .inl (cI, 42, .inl pa))]) ⟨hx, hb, hml, hown, hts⟩ hK hN hP hl.1 ⟨Nat.le_of_ble_eq_true rfl, Nat.le_of_ble_eq_true rfl⟩ (c_X6_chainOf l dC dI cI cB h0 h1 h2 h3 h4 states ln thr rd num due hash z hi tx pa p1 hv_4) (cwV 1 hts gX6_mandateNow_X6_chainOf rfl rfl rfl yd_X6_chainOf ⟨Nat.le_of_ble_eq_true rfl, Nat.le_of_ble_eq_true rfl⟩) [0, 1, 2, 3, 4] rfl 6 rfl rfl rfl rfl (Nat.le_of_ble_eq_true rfl) dX6_mandateNow_34 ?_
      have e9 : rr = (f_X6_chainOf z p1) := eF.trans (by rw [f_X6_mandateNow, if_neg c_1, if_pos c_3])
      exact W.iret (v := (f_X6_chainOf z p1)) hx hb hr (fun t ht hW => ⟨_, rfl, e9.symm, ht⟩) (fun _ hq => by cases hq) dX6_mandateNow_37
    · rw [if_neg c_3] at eO
      by_cases c_5 : p2.toInt = 9
      · rw [if_pos c_5] at eO
        refine lv_tableIn (off := 37) (tgt := 38) hx hb dX6_mandateNow_1 c_1_a c_1_b (by rw [c_5]; rfl) (by decide) ?_
        refine lv_aload_n hx hb dX6_mandateNow_38 rfl (lv_at hl 0 rfl) ?_
        refine lv_iload_n hx hb dX6_mandateNow_39 rfl (lv_at hl 1 rfl) ?_
        obtain ⟨hv_6, eO⟩ := eO
        refine vm_roVx (v := (f_X6_standingUnder z p1)) (As := [.int p1]) (rest := []) (T := TX6) (N := 11) (wc := [(h0, .inr (6, [.ref h1, .int states, .ref h2, .int ln, .ref h3, .int thr, .ref h4, .int rd, .int num, .int due, .long hash])), (h1, .inl (cI, 163, .inl z)), (h2, .inl (cI, 978, .inl hi)), (h3, .inl (cI, 60, .inl tx)), (h4, .inl (cI, 42, .inl pa))]) ⟨hx, hb, hml, hown, hts⟩ hK hN hP hl.1 ⟨Nat.le_of_ble_eq_true rfl, Nat.le_of_ble_eq_true rfl⟩ (c_X6_standingUnder l dC dI cI cB h0 h1 h2 h3 h4 states ln thr rd num due hash z hi tx pa p1 hv_6) (cwV 1 hts gX6_mandateNow_X6_standingUnder rfl rfl rfl yd_X6_standingUnder ⟨Nat.le_of_ble_eq_true rfl, Nat.le_of_ble_eq_true rfl⟩) [0, 1, 2, 3, 4] rfl 6 rfl rfl rfl rfl (Nat.le_of_ble_eq_true rfl) dX6_mandateNow_40 ?_
        refine lv_iconst (v := 1) hx hb dX6_mandateNow_43 (by decide) ?_
        refine lv_iload_n hx hb dX6_mandateNow_44 rfl (lv_at hl 1 rfl) ?_
        refine lv_ishl hx hb dX6_mandateNow_45 ?_
        refine lv_iconst (v := (-1)) hx hb dX6_mandateNow_46 (by decide) ?_
        refine lv_ixor hx hb dX6_mandateNow_47 ?_
        refine lv_iand hx hb dX6_mandateNow_48 ?_
        refine vm_roSx (v := (f_X6_ones ((f_X6_standingUnder z p1) &&& ((1 <<< (p1 &&& 31)) ^^^ (-1))))) (As := [.int ((f_X6_standingUnder z p1) &&& ((1 <<< (p1 &&& 31)) ^^^ (-1)))]) (rest := []) ⟨hx, hb, hml, hown, hts⟩ hK hN hP hl.1 ⟨Nat.le_of_ble_eq_true rfl, Nat.le_of_ble_eq_true rfl⟩ (c_X6_ones l dC dI cI cB ((f_X6_standingUnder z p1) &&& ((1 <<< (p1 &&& 31)) ^^^ (-1)))) (va_cwS 1 hts gX6_mandateNow_X6_ones rfl rfl rfl yd_X6_ones ⟨Nat.le_of_ble_eq_true rfl, Nat.le_of_ble_eq_true rfl⟩) rfl rfl (Nat.le_of_ble_eq_true rfl) dX6_mandateNow_49 ?_
        have e9 : rr = (f_X6_ones ((f_X6_standingUnder z p1) &&& ((1 <<< (p1 &&& 31)) ^^^ (-1)))) := eF.trans (by rw [f_X6_mandateNow, if_neg c_1, if_neg c_3, if_pos c_5])
        exact W.iret (v := (f_X6_ones ((f_X6_standingUnder z p1) &&& ((1 <<< (p1 &&& 31)) ^^^ (-1))))) hx hb hr (fun t ht hW => ⟨_, rfl, e9.symm, ht⟩) (fun _ hq => by cases hq) dX6_mandateNow_52
      · rw [if_neg c_5] at eO
        by_cases c_7 : p2.toInt = 10
        · rw [if_pos c_7] at eO
          refine lv_tableIn (off := 52) (tgt := 53) hx hb dX6_mandateNow_1 c_1_a c_1_b (by rw [c_7]; rfl) (by decide) ?_
          refine lv_aload_n hx hb dX6_mandateNow_53 rfl (lv_at hl 0 rfl) ?_
          refine lv_iload_n hx hb dX6_mandateNow_54 rfl (lv_at hl 1 rfl) ?_
          obtain ⟨hv_8, eO⟩ := eO
          refine vm_roVx (v := (f_X6_requestsBy z p1)) (As := [.int p1]) (rest := []) (T := TX6) (N := 11) (wc := [(h0, .inr (6, [.ref h1, .int states, .ref h2, .int ln, .ref h3, .int thr, .ref h4, .int rd, .int num, .int due, .long hash])), (h1, .inl (cI, 163, .inl z)), (h2, .inl (cI, 978, .inl hi)), (h3, .inl (cI, 60, .inl tx)), (h4, .inl (cI, 42, .inl pa))]) ⟨hx, hb, hml, hown, hts⟩ hK hN hP hl.1 ⟨Nat.le_of_ble_eq_true rfl, Nat.le_of_ble_eq_true rfl⟩ (c_X6_requestsBy l dC dI cI cB h0 h1 h2 h3 h4 states ln thr rd num due hash z hi tx pa p1 hv_8) (cwV 1 hts gX6_mandateNow_X6_requestsBy rfl rfl rfl yd_X6_requestsBy ⟨Nat.le_of_ble_eq_true rfl, Nat.le_of_ble_eq_true rfl⟩) [0, 1, 2, 3, 4] rfl 6 rfl rfl rfl rfl (Nat.le_of_ble_eq_true rfl) dX6_mandateNow_55 ?_
          have e9 : rr = (f_X6_requestsBy z p1) := eF.trans (by rw [f_X6_mandateNow, if_neg c_1, if_neg c_3, if_neg c_5, if_pos c_7])
          exact W.iret (v := (f_X6_requestsBy z p1)) hx hb hr (fun t ht hW => ⟨_, rfl, e9.symm, ht⟩) (fun _ hq => by cases hq) dX6_mandateNow_58
        · rw [if_neg c_7] at eO
          have c_9 : p2.toInt = 11 := by omega
          refine lv_tableIn (off := 58) (tgt := 59) hx hb dX6_mandateNow_1 c_1_a c_1_b (by rw [c_9]; rfl) (by decide) ?_
          refine lv_aload_n hx hb dX6_mandateNow_59 rfl (lv_at hl 0 rfl) ?_
          refine lv_iload_n hx hb dX6_mandateNow_60 rfl (lv_at hl 1 rfl) ?_
          refine lv_bipush (v := 8) hx hb dX6_mandateNow_61 (by decide) ?_
          obtain ⟨hv_10, eO⟩ := eO
          refine vm_roVx (v := (f_X6_of z p1 8)) (As := [.int p1, .int 8]) (rest := []) (T := TX6) (N := 11) (wc := [(h0, .inr (6, [.ref h1, .int states, .ref h2, .int ln, .ref h3, .int thr, .ref h4, .int rd, .int num, .int due, .long hash])), (h1, .inl (cI, 163, .inl z)), (h2, .inl (cI, 978, .inl hi)), (h3, .inl (cI, 60, .inl tx)), (h4, .inl (cI, 42, .inl pa))]) ⟨hx, hb, hml, hown, hts⟩ hK hN hP hl.1 ⟨Nat.le_of_ble_eq_true rfl, Nat.le_of_ble_eq_true rfl⟩ (c_X6_of l dC dI cI cB h0 h1 h2 h3 h4 states ln thr rd num due hash z hi tx pa p1 8 hv_10) (cwV 2 hts gX6_mandateNow_X6_of rfl rfl rfl yd_X6_of ⟨Nat.le_of_ble_eq_true rfl, Nat.le_of_ble_eq_true rfl⟩) [0, 1, 2, 3, 4] rfl 6 rfl rfl rfl rfl (Nat.le_of_ble_eq_true rfl) dX6_mandateNow_63 ?_
          have e9 : rr = (f_X6_of z p1 8) := eF.trans (by rw [f_X6_mandateNow, if_neg c_1, if_neg c_3, if_neg c_5, if_neg c_7])
          exact W.iret (v := (f_X6_of z p1 8)) hx hb hr (fun t ht hW => ⟨_, rfl, e9.symm, ht⟩) (fun _ hq => by cases hq) dX6_mandateNow_66

def f_X6_mandate_j28 (z : Nat → Int32) (p1 : Int32) (p2 : Int32) (s0_28 : Int32) : Int32 × Int32 :=
  if s0_28 ≤ 0 then
    ((f_X6_mandateNow z p1 p2), s0_28)
  else
    (0, s0_28)
def f_X6_mandate (z : Nat → Int32) (p1 : Int32) (p2 : Int32) : Int32 × Int32 :=
  if (vm_bi (f_X6_isMandate z p1)) = 0 then
    f_X6_mandate_j28 z p1 p2 1
  else
    if (vm_bi (f_X6_within p2 0 11)) = 0 then
      f_X6_mandate_j28 z p1 p2 2
    else
      f_X6_mandate_j28 z p1 p2 0
def o_X6_mandate_j28 (z : Nat → Int32) (p1 : Int32) (p2 : Int32) (s0_28 : Int32) : Prop :=
  if s0_28 ≤ 0 then
    o_X6_mandateNow z p1 p2 ∧
    (True)
  else
    True
def o_X6_mandate (z : Nat → Int32) (p1 : Int32) (p2 : Int32) : Prop :=
  if (vm_bi (f_X6_isMandate z p1)) = 0 then
    o_X6_mandate_j28 z p1 p2 1
  else
    if (vm_bi (f_X6_within p2 0 11)) = 0 then
      o_X6_mandate_j28 z p1 p2 2
    else
      o_X6_mandate_j28 z p1 p2 0
theorem yd_X6_mandate : yX6_mandate.cls = RX6 ∧ yX6_mandate.cls ≠ "java/lang/invoke/MethodHandle" ∧ yX6_mandate.cls ≠ "java/lang/invoke/VarHandle" ∧ (parseMethodDescriptor yX6_mandate.desc).map (fun d => d.parameters.length) = some 2 := by decide +kernel
set_option maxHeartbeats 4000000 in
set_option maxRecDepth 100000 in
theorem c_X6_mandate (l : Launch) (dC : Nat → ClassId) (dI : Nat → Nat → Nat) (cI cB : ClassId) (h0 h1 h2 h3 h4 : Nat) (sz : Nat) (states : Int32) (ln : Int32) (thr : Int32) (rd : Int32) (num : Int32) (due : Int32) (hash : Int64) (z : Nat → Int32) (hi : Nat → Int32) (tx : Nat → Int32) (pa : Nat → Int32) (p1 : Int32) (p2 : Int32) (eO : o_X6_mandate z p1 p2) : Met l yX6_mandate wsX6_mandate ({ frames := 4, cells := 0, slots := 0, locals := 91 }) (vm_prw [.ref h0, .int p1, .int p2] (dC, dI) [(h0, .inr (6, [.ref h1, .int states, .ref h2, .int ln, .ref h3, .int thr, .ref h4, .int rd, .int num, .int due, .long hash])), (h1, .inl (cI, 163, .inl z)), (h2, .inl (cI, 978, .inl hi)), (h3, .inl (cI, 60, .inl tx)), (h4, .inl (cI, 42, .inl pa))] cI cB sz) (va_Qi (fun (r9 : Int32) (_ : Unit) => r9 = (f_X6_mandate z p1 p2).1) (fun _ t => va_P (dC, dI) vwCl [(h0, .inr (6, [.ref h1, .int states, .ref h2, .int ln, .ref h3, .int ((f_X6_mandate z p1 p2).2), .ref h4, .int rd, .int num, .int due, .long hash])), (h1, .inl (cI, 163, .inl z)), (h2, .inl (cI, 978, .inl hi)), (h3, .inl (cI, 60, .inl tx)), (h4, .inl (cI, 42, .inl pa))] t.heap) (va_A [(h0, .inr (6, [.ref h1, .int states, .ref h2, .int ln, .ref h3, .int thr, .ref h4, .int rd, .int num, .int due, .long hash])), (h1, .inl (cI, 163, .inl z)), (h2, .inl (cI, 978, .inl hi)), (h3, .inl (cI, 60, .inl tx)), (h4, .inl (cI, 42, .inl pa))] sz)) 0 0 (va_A [(h0, .inr (6, [.ref h1, .int states, .ref h2, .int ln, .ref h3, .int thr, .ref h4, .int rd, .int num, .int due, .long hash])), (h1, .inl (cI, 163, .inl z)), (h2, .inl (cI, 978, .inl hi)), (h3, .inl (cI, 60, .inl tx)), (h4, .inl (cI, 42, .inl pa))] sz) := by
  refine Met.ofW (cc := cX6_mandate) (maxL := 3) (ret := (some .int)) (by decide) rfl ?_
  intro p e s m args below meth c s₁ B hml hv
  obtain ⟨rfl, hsz, hP, hK, hN, hD0⟩ := hv
  have hx := B.exec
  have hb := B.bytes
  have hr := B.returns
  have hts := atoms_spec (ws := wsX6_mandate) B.pre
  have hown : s.vm.findClass RX6 = some m.cls := findClass_of_methodNamed B.named
  have hlocks := B.notSynchronized
  subst hsz
  have hD := hD0.self (sz := s.heap.size)
  generalize hAe : va_A [(h0, .inr (6, [.ref h1, .int states, .ref h2, .int ln, .ref h3, .int thr, .ref h4, .int rd, .int num, .int due, .long hash])), (h1, .inl (cI, 163, .inl z)), (h2, .inl (cI, 978, .inl hi)), (h3, .inl (cI, 60, .inl tx)), (h4, .inl (cI, 42, .inl pa))] s.heap.size = A at hD ⊢
  have hA : ∀ q : Nat, s.heap.size ≤ q → A q := fun q h => by rw [← hAe]; exact Or.inr h
  have hS : va_S A s.heap s.heap [] := va_S.rf
  have hP : va_P (dC, dI) vwCl [(h0, .inr (6, [.ref h1, .int states, .ref h2, .int ln, .ref h3, .int thr, .ref h4, .int rd, .int num, .int due, .long hash])), (h1, .inl (cI, 163, .inl z)), (h2, .inl (cI, 978, .inl hi)), (h3, .inl (cI, 60, .inl tx)), (h4, .inl (cI, 42, .inl pa))] s.heap := hP
  have kw1 := hts (.fieldLink RX6 22 "LapseMandatesModel" "thrown" "I") (List.mem_of_getElem? (i := 1) rfl)
  have iwsX60 : ∀ w ∈ wsX60, w ∈ wsX6_mandate := fun w h => List.mem_cons_of_mem _ (List.mem_append_right _ h)
  generalize hrr : f_X6_mandate z p1 p2 = rr
  have eF := hrr.symm
  have hl := lv_entry ([.ref h0, .int p1, .int p2]) (n := 3) (Nat.le_of_ble_eq_true rfl)
  rw [lg_entry_eq]
  generalize (lg_sl ([.ref h0, .int p1, .int p2]) ++ List.replicate (3 - (lg_sl ([.ref h0, .int p1, .int p2])).length) Slot.unset).toArray = ls at hl ⊢
  have hl : lv_has ls 3 [(0, .ref h0), (1, .int p1), (2, .int p2)] := hl
  have hJ28 : ∀ (s0_28 : Int32), rr = f_X6_mandate_j28 z p1 p2 s0_28 → o_X6_mandate_j28 z p1 p2 s0_28 → ∀ (H : Heap) (locs : List Loc), va_P (dC, dI) vwCl [(h0, .inr (6, [.ref h1, .int states, .ref h2, .int ln, .ref h3, .int thr, .ref h4, .int rd, .int num, .int due, .long hash])), (h1, .inl (cI, 163, .inl z)), (h2, .inl (cI, 978, .inl hi)), (h3, .inl (cI, 60, .inl tx)), (h4, .inl (cI, 42, .inl pa))] H → va_D A [(h0, .inr (6, [.ref h1, .int states, .ref h2, .int ln, .ref h3, .int thr, .ref h4, .int rd, .int num, .int due, .long hash])), (h1, .inl (cI, 163, .inl z)), (h2, .inl (cI, 978, .inl hi)), (h3, .inl (cI, 60, .inl tx)), (h4, .inl (cI, 42, .inl pa))] → va_S A s.heap H locs → ∀ (ls : Array Slot), lv_has ls 3 [(0, .ref h0), (1, .int p1), (2, .int p2)] → W p l e (headSpec wsX6_mandate ({ frames := 4, cells := 0, slots := 0, locals := 91 })).room s m ([.ref h0, .int p1, .int p2] : List Value).toArray below meth c H locs 0 0 (MQ below (va_Qi (fun (r9 : Int32) (_ : Unit) => r9 = rr.1) (fun _ t => va_P (dC, dI) vwCl [(h0, .inr (6, [.ref h1, .int states, .ref h2, .int ln, .ref h3, .int rr.2, .ref h4, .int rd, .int num, .int due, .long hash])), (h1, .inl (cI, 163, .inl z)), (h2, .inl (cI, 978, .inl hi)), (h3, .inl (cI, 60, .inl tx)), (h4, .inl (cI, 42, .inl pa))] t.heap) A) ([.ref h0, .int p1, .int p2] : List Value).toArray s 0 0 A) (F0 m 28 ls [.int s0_28, .ref h0]) := by
    intro s0_28 eF eO H locs hP hD hS ls hl
    rw [o_X6_mandate_j28] at eO
    refine va_put (D := (dC, dI)) (ci := 6) (v := .int s0_28) (ty := .int) (C := RX6) (T := TX6) (N := 11) hx hb hts iwsX60 tyX6 tyX6_ok nmX6 hown hK hP hD hS 0 rfl rfl 5 (by decide) kw1 (fun _ h9 => h9) rfl (by decide +kernel) rfl rfl (Nat.le_of_ble_eq_true rfl) dX6_mandate_28 (fun H locs hP hD hS => ?_)
    have hP : va_P (dC, dI) vwCl [(h0, .inr (6, [.ref h1, .int states, .ref h2, .int ln, .ref h3, .int s0_28, .ref h4, .int rd, .int num, .int due, .long hash])), (h1, .inl (cI, 163, .inl z)), (h2, .inl (cI, 978, .inl hi)), (h3, .inl (cI, 60, .inl tx)), (h4, .inl (cI, 42, .inl pa))] H := hP
    have hD : va_D A [(h0, .inr (6, [.ref h1, .int states, .ref h2, .int ln, .ref h3, .int s0_28, .ref h4, .int rd, .int num, .int due, .long hash])), (h1, .inl (cI, 163, .inl z)), (h2, .inl (cI, 978, .inl hi)), (h3, .inl (cI, 60, .inl tx)), (h4, .inl (cI, 42, .inl pa))] := hD
    refine lv_aload_n hx hb dX6_mandate_31 rfl (lv_at hl 0 rfl) ?_
    refine va_get (D := (dC, dI)) (ci := 6) (v := .int s0_28) (C := RX6) (T := TX6) (N := 11) hx hb hts iwsX60 hown hK hP 0 rfl rfl 5 (by decide) kw1 (fun _ h9 => h9) rfl dX6_mandate_32 ?_
    refine lv_if_le (tgt := 42) hx hb dX6_mandate_35 (by decide) (fun c_1 => ?_) (fun c_1 => ?_)
    · rw [if_pos c_1] at eO
      refine lv_aload_n hx hb dX6_mandate_42 rfl (lv_at hl 0 rfl) ?_
      refine lv_iload_n hx hb dX6_mandate_43 rfl (lv_at hl 1 rfl) ?_
      refine lv_iload_n hx hb dX6_mandate_44 rfl (lv_at hl 2 rfl) ?_
      obtain ⟨hv_2, eO⟩ := eO
      refine vm_roVx (v := (f_X6_mandateNow z p1 p2)) (As := [.int p1, .int p2]) (rest := []) (T := TX6) (N := 11) (wc := [(h0, .inr (6, [.ref h1, .int states, .ref h2, .int ln, .ref h3, .int s0_28, .ref h4, .int rd, .int num, .int due, .long hash])), (h1, .inl (cI, 163, .inl z)), (h2, .inl (cI, 978, .inl hi)), (h3, .inl (cI, 60, .inl tx)), (h4, .inl (cI, 42, .inl pa))]) ⟨hx, hb, hml, hown, hts⟩ hK hN hP hl.1 ⟨Nat.le_of_ble_eq_true rfl, Nat.le_of_ble_eq_true rfl⟩ (c_X6_mandateNow l dC dI cI cB h0 h1 h2 h3 h4 states ln s0_28 rd num due hash z hi tx pa p1 p2 hv_2) (cwV 2 hts gX6_mandate_X6_mandateNow rfl rfl rfl yd_X6_mandateNow ⟨Nat.le_of_ble_eq_true rfl, Nat.le_of_ble_eq_true rfl⟩) [0, 1, 2, 3, 4] rfl 6 rfl rfl rfl rfl (Nat.le_of_ble_eq_true rfl) dX6_mandate_45 ?_
      have e9 : rr = (((f_X6_mandateNow z p1 p2), s0_28) : Int32 × Int32) := eF.trans (by rw [f_X6_mandate_j28, if_pos c_1])
      exact W.iret (v := (f_X6_mandateNow z p1 p2)) hx hb hr (fun t ht hW => ⟨⟨_, (), rfl, by rw [e9], (by rw [e9]; show va_P _ _ _ t.heap; rw [ht]; exact hP)⟩, hS.F ht⟩) hS.2.2 dX6_mandate_48
    · rw [if_neg c_1] at eO
      refine lv_iconst (v := 0) hx hb dX6_mandate_38 (by decide) ?_
      refine lv_goto (tgt := 48) hx hb dX6_mandate_39 (by decide) ?_
      have e9 : rr = ((0, s0_28) : Int32 × Int32) := eF.trans (by rw [f_X6_mandate_j28, if_neg c_1])
      exact W.iret (v := 0) hx hb hr (fun t ht hW => ⟨⟨_, (), rfl, by rw [e9], (by rw [e9]; show va_P _ _ _ t.heap; rw [ht]; exact hP)⟩, hS.F ht⟩) hS.2.2 dX6_mandate_48
  rw [o_X6_mandate] at eO
  refine lv_aload_n hx hb dX6_mandate_0 rfl (lv_at hl 0 rfl) ?_
  refine lv_aload_n hx hb dX6_mandate_1 rfl (lv_at hl 0 rfl) ?_
  refine lv_iload_n hx hb dX6_mandate_2 rfl (lv_at hl 1 rfl) ?_
  refine vm_roVx (v := vm_bi (f_X6_isMandate z p1)) (As := [.int p1]) (rest := [.ref h0]) (T := TX6) (N := 11) (wc := [(h0, .inr (6, [.ref h1, .int states, .ref h2, .int ln, .ref h3, .int thr, .ref h4, .int rd, .int num, .int due, .long hash])), (h1, .inl (cI, 163, .inl z)), (h2, .inl (cI, 978, .inl hi)), (h3, .inl (cI, 60, .inl tx)), (h4, .inl (cI, 42, .inl pa))]) ⟨hx, hb, hml, hown, hts⟩ hK hN hP hl.1 ⟨Nat.le_of_ble_eq_true rfl, Nat.le_of_ble_eq_true rfl⟩ (c_X6_isMandate l dC dI cI cB h0 h1 h2 h3 h4 states ln thr rd num due hash z hi tx pa p1) (cwV 1 hts gX6_mandate_X6_isMandate rfl rfl rfl yd_X6_isMandate ⟨Nat.le_of_ble_eq_true rfl, Nat.le_of_ble_eq_true rfl⟩) [0, 1, 2, 3, 4] rfl 6 rfl rfl rfl rfl (Nat.le_of_ble_eq_true rfl) dX6_mandate_3 ?_
  refine lv_if_ne (tgt := 13) hx hb dX6_mandate_6 (by decide) (fun c_3 => ?_) (fun c_3 => ?_)
  · rw [if_neg c_3] at eO
    refine lv_iload_n hx hb dX6_mandate_13 rfl (lv_at hl 2 rfl) ?_
    refine lv_iconst (v := 0) hx hb dX6_mandate_14 (by decide) ?_
    refine lv_bipush (v := 11) hx hb dX6_mandate_15 (by decide) ?_
    refine vm_roSx (v := vm_bi (f_X6_within p2 0 11)) (As := [.int p2, .int 0, .int 11]) (rest := [.ref h0]) ⟨hx, hb, hml, hown, hts⟩ hK hN hP hl.1 ⟨Nat.le_of_ble_eq_true rfl, Nat.le_of_ble_eq_true rfl⟩ (c_X6_within l dC dI cI cB p2 0 11) (va_cwS 3 hts gX6_mandate_X6_within rfl rfl rfl yd_X6_within ⟨Nat.le_of_ble_eq_true rfl, Nat.le_of_ble_eq_true rfl⟩) rfl rfl (Nat.le_of_ble_eq_true rfl) dX6_mandate_17 ?_
    refine lv_if_eq (tgt := 27) hx hb dX6_mandate_20 (by decide) (fun c_4 => ?_) (fun c_4 => ?_)
    · rw [if_pos c_4] at eO
      refine lv_iconst (v := 2) hx hb dX6_mandate_27 (by decide) ?_
      exact hJ28 2 (eF.trans (by rw [f_X6_mandate, if_neg c_3, if_pos c_4])) eO _ _ hP hD hS ls (lv_sub hl [0, 1, 2] rfl)
    · rw [if_neg c_4] at eO
      refine lv_iconst (v := 0) hx hb dX6_mandate_23 (by decide) ?_
      refine lv_goto (tgt := 28) hx hb dX6_mandate_24 (by decide) ?_
      exact hJ28 0 (eF.trans (by rw [f_X6_mandate, if_neg c_3, if_neg c_4])) eO _ _ hP hD hS ls (lv_sub hl [0, 1, 2] rfl)
  · rw [if_pos c_3] at eO
    refine lv_iconst (v := 1) hx hb dX6_mandate_9 (by decide) ?_
    refine lv_goto (tgt := 28) hx hb dX6_mandate_10 (by decide) ?_
    exact hJ28 1 (eF.trans (by rw [f_X6_mandate, if_pos c_3])) eO _ _ hP hD hS ls (lv_sub hl [0, 1, 2] rfl)

def f_X6_requestNow (z : Nat → Int32) (p1 : Int32) (p2 : Int32) : Int32 :=
  if 6 ≤ p2 then
    (f_X6_approversOf z p1)
  else
    (f_X6_ofRequest z p1 p2)
def o_X6_requestNow (z : Nat → Int32) (p1 : Int32) (p2 : Int32) : Prop :=
  if 6 ≤ p2 then
    o_X6_approversOf z p1 ∧
    (True)
  else
    o_X6_ofRequest z p1 p2 ∧
    (True)
theorem yd_X6_requestNow : yX6_requestNow.cls = RX6 ∧ yX6_requestNow.cls ≠ "java/lang/invoke/MethodHandle" ∧ yX6_requestNow.cls ≠ "java/lang/invoke/VarHandle" ∧ (parseMethodDescriptor yX6_requestNow.desc).map (fun d => d.parameters.length) = some 2 := by decide +kernel
set_option maxHeartbeats 4000000 in
set_option maxRecDepth 100000 in
theorem c_X6_requestNow (l : Launch) (dC : Nat → ClassId) (dI : Nat → Nat → Nat) (cI cB : ClassId) (h0 h1 h2 h3 h4 : Nat) (states : Int32) (ln : Int32) (thr : Int32) (rd : Int32) (num : Int32) (due : Int32) (hash : Int64) (z : Nat → Int32) (hi : Nat → Int32) (tx : Nat → Int32) (pa : Nat → Int32) (p1 : Int32) (p2 : Int32) (eO : o_X6_requestNow z p1 p2) : Met l yX6_requestNow wsX6_requestNow ({ frames := 4, cells := 0, slots := 0, locals := 92 }) (vm_pre [.ref h0, .int p1, .int p2] (dC, dI) [(h0, .inr (6, [.ref h1, .int states, .ref h2, .int ln, .ref h3, .int thr, .ref h4, .int rd, .int num, .int due, .long hash])), (h1, .inl (cI, 163, .inl z)), (h2, .inl (cI, 978, .inl hi)), (h3, .inl (cI, 60, .inl tx)), (h4, .inl (cI, 42, .inl pa))] cI cB) (vp_Si (fun r9 : Int32 => r9 = (f_X6_requestNow z p1 p2))) 0 0 (fun _ => False) := by
  refine Met.ofW (cc := cX6_requestNow) (maxL := 3) (ret := (some .int)) (by decide) rfl ?_
  intro p e s m args below meth c s₁ B hml hv
  obtain ⟨rfl, hP, hK, hN⟩ := hv
  have hx := B.exec
  have hb := B.bytes
  have hr := B.returns
  have hts := atoms_spec (ws := wsX6_requestNow) B.pre
  have hown : s.vm.findClass RX6 = some m.cls := findClass_of_methodNamed B.named
  have hlocks := B.notSynchronized
  generalize hrr : f_X6_requestNow z p1 p2 = rr
  have eF := hrr.symm
  have hl := lv_entry ([.ref h0, .int p1, .int p2]) (n := 3) (Nat.le_of_ble_eq_true rfl)
  rw [lg_entry_eq]
  generalize (lg_sl ([.ref h0, .int p1, .int p2]) ++ List.replicate (3 - (lg_sl ([.ref h0, .int p1, .int p2])).length) Slot.unset).toArray = ls at hl ⊢
  have hl : lv_has ls 3 [(0, .ref h0), (1, .int p1), (2, .int p2)] := hl
  rw [o_X6_requestNow] at eO
  refine lv_iload_n hx hb dX6_requestNow_0 rfl (lv_at hl 2 rfl) ?_
  refine lv_bipush (v := 6) hx hb dX6_requestNow_1 (by decide) ?_
  refine lv_icmp_ge (tgt := 15) hx hb dX6_requestNow_3 (by decide) (fun c_1 => ?_) (fun c_1 => ?_)
  · rw [if_pos c_1] at eO
    refine lv_aload_n hx hb dX6_requestNow_15 rfl (lv_at hl 0 rfl) ?_
    refine lv_iload_n hx hb dX6_requestNow_16 rfl (lv_at hl 1 rfl) ?_
    obtain ⟨hv_2, eO⟩ := eO
    refine vm_roVx (v := (f_X6_approversOf z p1)) (As := [.int p1]) (rest := []) (T := TX6) (N := 11) (wc := [(h0, .inr (6, [.ref h1, .int states, .ref h2, .int ln, .ref h3, .int thr, .ref h4, .int rd, .int num, .int due, .long hash])), (h1, .inl (cI, 163, .inl z)), (h2, .inl (cI, 978, .inl hi)), (h3, .inl (cI, 60, .inl tx)), (h4, .inl (cI, 42, .inl pa))]) ⟨hx, hb, hml, hown, hts⟩ hK hN hP hl.1 ⟨Nat.le_of_ble_eq_true rfl, Nat.le_of_ble_eq_true rfl⟩ (c_X6_approversOf l dC dI cI cB h0 h1 h2 h3 h4 states ln thr rd num due hash z hi tx pa p1 hv_2) (cwV 1 hts gX6_requestNow_X6_approversOf rfl rfl rfl yd_X6_approversOf ⟨Nat.le_of_ble_eq_true rfl, Nat.le_of_ble_eq_true rfl⟩) [0, 1, 2, 3, 4] rfl 6 rfl rfl rfl rfl (Nat.le_of_ble_eq_true rfl) dX6_requestNow_17 ?_
    have e9 : rr = (f_X6_approversOf z p1) := eF.trans (by rw [f_X6_requestNow, if_pos c_1])
    exact W.iret (v := (f_X6_approversOf z p1)) hx hb hr (fun t ht hW => ⟨_, rfl, e9.symm, ht⟩) (fun _ hq => by cases hq) dX6_requestNow_20
  · rw [if_neg c_1] at eO
    refine lv_aload_n hx hb dX6_requestNow_6 rfl (lv_at hl 0 rfl) ?_
    refine lv_iload_n hx hb dX6_requestNow_7 rfl (lv_at hl 1 rfl) ?_
    refine lv_iload_n hx hb dX6_requestNow_8 rfl (lv_at hl 2 rfl) ?_
    obtain ⟨hv_3, eO⟩ := eO
    refine vm_roVx (v := (f_X6_ofRequest z p1 p2)) (As := [.int p1, .int p2]) (rest := []) (T := TX6) (N := 11) (wc := [(h0, .inr (6, [.ref h1, .int states, .ref h2, .int ln, .ref h3, .int thr, .ref h4, .int rd, .int num, .int due, .long hash])), (h1, .inl (cI, 163, .inl z)), (h2, .inl (cI, 978, .inl hi)), (h3, .inl (cI, 60, .inl tx)), (h4, .inl (cI, 42, .inl pa))]) ⟨hx, hb, hml, hown, hts⟩ hK hN hP hl.1 ⟨Nat.le_of_ble_eq_true rfl, Nat.le_of_ble_eq_true rfl⟩ (c_X6_ofRequest l dC dI cI cB h0 h1 h2 h3 h4 states ln thr rd num due hash z hi tx pa p1 p2 hv_3) (cwV 2 hts gX6_requestNow_X6_ofRequest rfl rfl rfl yd_X6_ofRequest ⟨Nat.le_of_ble_eq_true rfl, Nat.le_of_ble_eq_true rfl⟩) [0, 1, 2, 3, 4] rfl 6 rfl rfl rfl rfl (Nat.le_of_ble_eq_true rfl) dX6_requestNow_9 ?_
    refine lv_goto (tgt := 20) hx hb dX6_requestNow_12 (by decide) ?_
    have e9 : rr = (f_X6_ofRequest z p1 p2) := eF.trans (by rw [f_X6_requestNow, if_neg c_1])
    exact W.iret (v := (f_X6_ofRequest z p1 p2)) hx hb hr (fun t ht hW => ⟨_, rfl, e9.symm, ht⟩) (fun _ hq => by cases hq) dX6_requestNow_20

def f_X6_request_j28 (z : Nat → Int32) (p1 : Int32) (p2 : Int32) (s0_28 : Int32) : Int32 × Int32 :=
  if s0_28 ≤ 0 then
    ((f_X6_requestNow z p1 p2), s0_28)
  else
    (0, s0_28)
def f_X6_request (z : Nat → Int32) (p1 : Int32) (p2 : Int32) : Int32 × Int32 :=
  if (vm_bi (f_X6_isRequest z p1)) = 0 then
    f_X6_request_j28 z p1 p2 1
  else
    if (vm_bi (f_X6_within p2 0 6)) = 0 then
      f_X6_request_j28 z p1 p2 2
    else
      f_X6_request_j28 z p1 p2 0
def o_X6_request_j28 (z : Nat → Int32) (p1 : Int32) (p2 : Int32) (s0_28 : Int32) : Prop :=
  if s0_28 ≤ 0 then
    o_X6_requestNow z p1 p2 ∧
    (True)
  else
    True
def o_X6_request (z : Nat → Int32) (p1 : Int32) (p2 : Int32) : Prop :=
  if (vm_bi (f_X6_isRequest z p1)) = 0 then
    o_X6_request_j28 z p1 p2 1
  else
    if (vm_bi (f_X6_within p2 0 6)) = 0 then
      o_X6_request_j28 z p1 p2 2
    else
      o_X6_request_j28 z p1 p2 0
theorem yd_X6_request : yX6_request.cls = RX6 ∧ yX6_request.cls ≠ "java/lang/invoke/MethodHandle" ∧ yX6_request.cls ≠ "java/lang/invoke/VarHandle" ∧ (parseMethodDescriptor yX6_request.desc).map (fun d => d.parameters.length) = some 2 := by decide +kernel
set_option maxHeartbeats 4000000 in
set_option maxRecDepth 100000 in
theorem c_X6_request (l : Launch) (dC : Nat → ClassId) (dI : Nat → Nat → Nat) (cI cB : ClassId) (h0 h1 h2 h3 h4 : Nat) (sz : Nat) (states : Int32) (ln : Int32) (thr : Int32) (rd : Int32) (num : Int32) (due : Int32) (hash : Int64) (z : Nat → Int32) (hi : Nat → Int32) (tx : Nat → Int32) (pa : Nat → Int32) (p1 : Int32) (p2 : Int32) (eO : o_X6_request z p1 p2) : Met l yX6_request wsX6_request ({ frames := 5, cells := 0, slots := 0, locals := 114 }) (vm_prw [.ref h0, .int p1, .int p2] (dC, dI) [(h0, .inr (6, [.ref h1, .int states, .ref h2, .int ln, .ref h3, .int thr, .ref h4, .int rd, .int num, .int due, .long hash])), (h1, .inl (cI, 163, .inl z)), (h2, .inl (cI, 978, .inl hi)), (h3, .inl (cI, 60, .inl tx)), (h4, .inl (cI, 42, .inl pa))] cI cB sz) (va_Qi (fun (r9 : Int32) (_ : Unit) => r9 = (f_X6_request z p1 p2).1) (fun _ t => va_P (dC, dI) vwCl [(h0, .inr (6, [.ref h1, .int states, .ref h2, .int ln, .ref h3, .int ((f_X6_request z p1 p2).2), .ref h4, .int rd, .int num, .int due, .long hash])), (h1, .inl (cI, 163, .inl z)), (h2, .inl (cI, 978, .inl hi)), (h3, .inl (cI, 60, .inl tx)), (h4, .inl (cI, 42, .inl pa))] t.heap) (va_A [(h0, .inr (6, [.ref h1, .int states, .ref h2, .int ln, .ref h3, .int thr, .ref h4, .int rd, .int num, .int due, .long hash])), (h1, .inl (cI, 163, .inl z)), (h2, .inl (cI, 978, .inl hi)), (h3, .inl (cI, 60, .inl tx)), (h4, .inl (cI, 42, .inl pa))] sz)) 0 0 (va_A [(h0, .inr (6, [.ref h1, .int states, .ref h2, .int ln, .ref h3, .int thr, .ref h4, .int rd, .int num, .int due, .long hash])), (h1, .inl (cI, 163, .inl z)), (h2, .inl (cI, 978, .inl hi)), (h3, .inl (cI, 60, .inl tx)), (h4, .inl (cI, 42, .inl pa))] sz) := by
  refine Met.ofW (cc := cX6_request) (maxL := 3) (ret := (some .int)) (by decide) rfl ?_
  intro p e s m args below meth c s₁ B hml hv
  obtain ⟨rfl, hsz, hP, hK, hN, hD0⟩ := hv
  have hx := B.exec
  have hb := B.bytes
  have hr := B.returns
  have hts := atoms_spec (ws := wsX6_request) B.pre
  have hown : s.vm.findClass RX6 = some m.cls := findClass_of_methodNamed B.named
  have hlocks := B.notSynchronized
  subst hsz
  have hD := hD0.self (sz := s.heap.size)
  generalize hAe : va_A [(h0, .inr (6, [.ref h1, .int states, .ref h2, .int ln, .ref h3, .int thr, .ref h4, .int rd, .int num, .int due, .long hash])), (h1, .inl (cI, 163, .inl z)), (h2, .inl (cI, 978, .inl hi)), (h3, .inl (cI, 60, .inl tx)), (h4, .inl (cI, 42, .inl pa))] s.heap.size = A at hD ⊢
  have hA : ∀ q : Nat, s.heap.size ≤ q → A q := fun q h => by rw [← hAe]; exact Or.inr h
  have hS : va_S A s.heap s.heap [] := va_S.rf
  have hP : va_P (dC, dI) vwCl [(h0, .inr (6, [.ref h1, .int states, .ref h2, .int ln, .ref h3, .int thr, .ref h4, .int rd, .int num, .int due, .long hash])), (h1, .inl (cI, 163, .inl z)), (h2, .inl (cI, 978, .inl hi)), (h3, .inl (cI, 60, .inl tx)), (h4, .inl (cI, 42, .inl pa))] s.heap := hP
  have kw1 := hts (.fieldLink RX6 22 "LapseMandatesModel" "thrown" "I") (List.mem_of_getElem? (i := 1) rfl)
  have iwsX60 : ∀ w ∈ wsX60, w ∈ wsX6_request := fun w h => List.mem_cons_of_mem _ (List.mem_append_right _ h)
  generalize hrr : f_X6_request z p1 p2 = rr
  have eF := hrr.symm
  have hl := lv_entry ([.ref h0, .int p1, .int p2]) (n := 3) (Nat.le_of_ble_eq_true rfl)
  rw [lg_entry_eq]
  generalize (lg_sl ([.ref h0, .int p1, .int p2]) ++ List.replicate (3 - (lg_sl ([.ref h0, .int p1, .int p2])).length) Slot.unset).toArray = ls at hl ⊢
  have hl : lv_has ls 3 [(0, .ref h0), (1, .int p1), (2, .int p2)] := hl
  have hJ28 : ∀ (s0_28 : Int32), rr = f_X6_request_j28 z p1 p2 s0_28 → o_X6_request_j28 z p1 p2 s0_28 → ∀ (H : Heap) (locs : List Loc), va_P (dC, dI) vwCl [(h0, .inr (6, [.ref h1, .int states, .ref h2, .int ln, .ref h3, .int thr, .ref h4, .int rd, .int num, .int due, .long hash])), (h1, .inl (cI, 163, .inl z)), (h2, .inl (cI, 978, .inl hi)), (h3, .inl (cI, 60, .inl tx)), (h4, .inl (cI, 42, .inl pa))] H → va_D A [(h0, .inr (6, [.ref h1, .int states, .ref h2, .int ln, .ref h3, .int thr, .ref h4, .int rd, .int num, .int due, .long hash])), (h1, .inl (cI, 163, .inl z)), (h2, .inl (cI, 978, .inl hi)), (h3, .inl (cI, 60, .inl tx)), (h4, .inl (cI, 42, .inl pa))] → va_S A s.heap H locs → ∀ (ls : Array Slot), lv_has ls 3 [(0, .ref h0), (1, .int p1), (2, .int p2)] → W p l e (headSpec wsX6_request ({ frames := 5, cells := 0, slots := 0, locals := 114 })).room s m ([.ref h0, .int p1, .int p2] : List Value).toArray below meth c H locs 0 0 (MQ below (va_Qi (fun (r9 : Int32) (_ : Unit) => r9 = rr.1) (fun _ t => va_P (dC, dI) vwCl [(h0, .inr (6, [.ref h1, .int states, .ref h2, .int ln, .ref h3, .int rr.2, .ref h4, .int rd, .int num, .int due, .long hash])), (h1, .inl (cI, 163, .inl z)), (h2, .inl (cI, 978, .inl hi)), (h3, .inl (cI, 60, .inl tx)), (h4, .inl (cI, 42, .inl pa))] t.heap) A) ([.ref h0, .int p1, .int p2] : List Value).toArray s 0 0 A) (F0 m 28 ls [.int s0_28, .ref h0]) := by
    intro s0_28 eF eO H locs hP hD hS ls hl
    rw [o_X6_request_j28] at eO
    refine va_put (D := (dC, dI)) (ci := 6) (v := .int s0_28) (ty := .int) (C := RX6) (T := TX6) (N := 11) hx hb hts iwsX60 tyX6 tyX6_ok nmX6 hown hK hP hD hS 0 rfl rfl 5 (by decide) kw1 (fun _ h9 => h9) rfl (by decide +kernel) rfl rfl (Nat.le_of_ble_eq_true rfl) dX6_request_28 (fun H locs hP hD hS => ?_)
    have hP : va_P (dC, dI) vwCl [(h0, .inr (6, [.ref h1, .int states, .ref h2, .int ln, .ref h3, .int s0_28, .ref h4, .int rd, .int num, .int due, .long hash])), (h1, .inl (cI, 163, .inl z)), (h2, .inl (cI, 978, .inl hi)), (h3, .inl (cI, 60, .inl tx)), (h4, .inl (cI, 42, .inl pa))] H := hP
    have hD : va_D A [(h0, .inr (6, [.ref h1, .int states, .ref h2, .int ln, .ref h3, .int s0_28, .ref h4, .int rd, .int num, .int due, .long hash])), (h1, .inl (cI, 163, .inl z)), (h2, .inl (cI, 978, .inl hi)), (h3, .inl (cI, 60, .inl tx)), (h4, .inl (cI, 42, .inl pa))] := hD
    refine lv_aload_n hx hb dX6_request_31 rfl (lv_at hl 0 rfl) ?_
    refine va_get (D := (dC, dI)) (ci := 6) (v := .int s0_28) (C := RX6) (T := TX6) (N := 11) hx hb hts iwsX60 hown hK hP 0 rfl rfl 5 (by decide) kw1 (fun _ h9 => h9) rfl dX6_request_32 ?_
    refine lv_if_le (tgt := 42) hx hb dX6_request_35 (by decide) (fun c_1 => ?_) (fun c_1 => ?_)
    · rw [if_pos c_1] at eO
      refine lv_aload_n hx hb dX6_request_42 rfl (lv_at hl 0 rfl) ?_
      refine lv_iload_n hx hb dX6_request_43 rfl (lv_at hl 1 rfl) ?_
      refine lv_iload_n hx hb dX6_request_44 rfl (lv_at hl 2 rfl) ?_
      obtain ⟨hv_2, eO⟩ := eO
      refine vm_roVx (v := (f_X6_requestNow z p1 p2)) (As := [.int p1, .int p2]) (rest := []) (T := TX6) (N := 11) (wc := [(h0, .inr (6, [.ref h1, .int states, .ref h2, .int ln, .ref h3, .int s0_28, .ref h4, .int rd, .int num, .int due, .long hash])), (h1, .inl (cI, 163, .inl z)), (h2, .inl (cI, 978, .inl hi)), (h3, .inl (cI, 60, .inl tx)), (h4, .inl (cI, 42, .inl pa))]) ⟨hx, hb, hml, hown, hts⟩ hK hN hP hl.1 ⟨Nat.le_of_ble_eq_true rfl, Nat.le_of_ble_eq_true rfl⟩ (c_X6_requestNow l dC dI cI cB h0 h1 h2 h3 h4 states ln s0_28 rd num due hash z hi tx pa p1 p2 hv_2) (cwV 2 hts gX6_request_X6_requestNow rfl rfl rfl yd_X6_requestNow ⟨Nat.le_of_ble_eq_true rfl, Nat.le_of_ble_eq_true rfl⟩) [0, 1, 2, 3, 4] rfl 6 rfl rfl rfl rfl (Nat.le_of_ble_eq_true rfl) dX6_request_45 ?_
      have e9 : rr = (((f_X6_requestNow z p1 p2), s0_28) : Int32 × Int32) := eF.trans (by rw [f_X6_request_j28, if_pos c_1])
      exact W.iret (v := (f_X6_requestNow z p1 p2)) hx hb hr (fun t ht hW => ⟨⟨_, (), rfl, by rw [e9], (by rw [e9]; show va_P _ _ _ t.heap; rw [ht]; exact hP)⟩, hS.F ht⟩) hS.2.2 dX6_request_48
    · rw [if_neg c_1] at eO
      refine lv_iconst (v := 0) hx hb dX6_request_38 (by decide) ?_
      refine lv_goto (tgt := 48) hx hb dX6_request_39 (by decide) ?_
      have e9 : rr = ((0, s0_28) : Int32 × Int32) := eF.trans (by rw [f_X6_request_j28, if_neg c_1])
      exact W.iret (v := 0) hx hb hr (fun t ht hW => ⟨⟨_, (), rfl, by rw [e9], (by rw [e9]; show va_P _ _ _ t.heap; rw [ht]; exact hP)⟩, hS.F ht⟩) hS.2.2 dX6_request_48
  rw [o_X6_request] at eO
  refine lv_aload_n hx hb dX6_request_0 rfl (lv_at hl 0 rfl) ?_
  refine lv_aload_n hx hb dX6_request_1 rfl (lv_at hl 0 rfl) ?_
  refine lv_iload_n hx hb dX6_request_2 rfl (lv_at hl 1 rfl) ?_
  refine vm_roVx (v := vm_bi (f_X6_isRequest z p1)) (As := [.int p1]) (rest := [.ref h0]) (T := TX6) (N := 11) (wc := [(h0, .inr (6, [.ref h1, .int states, .ref h2, .int ln, .ref h3, .int thr, .ref h4, .int rd, .int num, .int due, .long hash])), (h1, .inl (cI, 163, .inl z)), (h2, .inl (cI, 978, .inl hi)), (h3, .inl (cI, 60, .inl tx)), (h4, .inl (cI, 42, .inl pa))]) ⟨hx, hb, hml, hown, hts⟩ hK hN hP hl.1 ⟨Nat.le_of_ble_eq_true rfl, Nat.le_of_ble_eq_true rfl⟩ (c_X6_isRequest l dC dI cI cB h0 h1 h2 h3 h4 states ln thr rd num due hash z hi tx pa p1) (cwV 1 hts gX6_request_X6_isRequest rfl rfl rfl yd_X6_isRequest ⟨Nat.le_of_ble_eq_true rfl, Nat.le_of_ble_eq_true rfl⟩) [0, 1, 2, 3, 4] rfl 6 rfl rfl rfl rfl (Nat.le_of_ble_eq_true rfl) dX6_request_3 ?_
  refine lv_if_ne (tgt := 13) hx hb dX6_request_6 (by decide) (fun c_3 => ?_) (fun c_3 => ?_)
  · rw [if_neg c_3] at eO
    refine lv_iload_n hx hb dX6_request_13 rfl (lv_at hl 2 rfl) ?_
    refine lv_iconst (v := 0) hx hb dX6_request_14 (by decide) ?_
    refine lv_bipush (v := 6) hx hb dX6_request_15 (by decide) ?_
    refine vm_roSx (v := vm_bi (f_X6_within p2 0 6)) (As := [.int p2, .int 0, .int 6]) (rest := [.ref h0]) ⟨hx, hb, hml, hown, hts⟩ hK hN hP hl.1 ⟨Nat.le_of_ble_eq_true rfl, Nat.le_of_ble_eq_true rfl⟩ (c_X6_within l dC dI cI cB p2 0 6) (va_cwS 3 hts gX6_request_X6_within rfl rfl rfl yd_X6_within ⟨Nat.le_of_ble_eq_true rfl, Nat.le_of_ble_eq_true rfl⟩) rfl rfl (Nat.le_of_ble_eq_true rfl) dX6_request_17 ?_
    refine lv_if_eq (tgt := 27) hx hb dX6_request_20 (by decide) (fun c_4 => ?_) (fun c_4 => ?_)
    · rw [if_pos c_4] at eO
      refine lv_iconst (v := 2) hx hb dX6_request_27 (by decide) ?_
      exact hJ28 2 (eF.trans (by rw [f_X6_request, if_neg c_3, if_pos c_4])) eO _ _ hP hD hS ls (lv_sub hl [0, 1, 2] rfl)
    · rw [if_neg c_4] at eO
      refine lv_iconst (v := 0) hx hb dX6_request_23 (by decide) ?_
      refine lv_goto (tgt := 28) hx hb dX6_request_24 (by decide) ?_
      exact hJ28 0 (eF.trans (by rw [f_X6_request, if_neg c_3, if_neg c_4])) eO _ _ hP hD hS ls (lv_sub hl [0, 1, 2] rfl)
  · rw [if_pos c_3] at eO
    refine lv_iconst (v := 1) hx hb dX6_request_9 (by decide) ?_
    refine lv_goto (tgt := 28) hx hb dX6_request_10 (by decide) ?_
    exact hJ28 1 (eF.trans (by rw [f_X6_request, if_pos c_3])) eO _ _ hP hD hS ls (lv_sub hl [0, 1, 2] rfl)

def f_X6_heldBy_j39 (x3_5 : Int32) (x4_5 : Int32) (kj5 : Int32 → Int32 → Int32) (s0_39 : Int32) : Int32 :=
  kj5 (x3_5 + s0_39) (x4_5 + 1)
def f_X6_heldBy_j5 (z : Nat → Int32) (p1 : Int32) (p2 : Int32) : Nat → Int32 → Int32 → Int32
  | 0, _, _ => 0
  | n5 + 1, x3_5, x4_5 => if (z (Int32.toNatClampNeg 3)) ≤ x4_5 then
      x3_5
    else
      if (f_X6_of z x4_5 1) = p1 then
        f_X6_heldBy_j39 x3_5 x4_5 (f_X6_heldBy_j5 z p1 p2 n5) (f_X6_of z x4_5 p2)
      else
        f_X6_heldBy_j39 x3_5 x4_5 (f_X6_heldBy_j5 z p1 p2 n5) 0
def f_X6_heldBy (z : Nat → Int32) (p1 : Int32) (p2 : Int32) : Int32 :=
  f_X6_heldBy_j5 z p1 p2 ((((z (Int32.toNatClampNeg 3))).toInt - ((0 : Int32)).toInt).toNat + 1) 0 0
def o_X6_heldBy_j39 (x3_5 : Int32) (x4_5 : Int32) (koj5 : Int32 → Int32 → Prop) (s0_39 : Int32) : Prop :=
  koj5 (x3_5 + s0_39) (x4_5 + 1)
def o_X6_heldBy_j5 (z : Nat → Int32) (p1 : Int32) (p2 : Int32) : Nat → Int32 → Int32 → Prop
  | 0, _, _ => True
  | n5 + 1, x3_5, x4_5 => if (z (Int32.toNatClampNeg 3)) ≤ x4_5 then
      True
    else
      o_X6_of z x4_5 1 ∧
      (if (f_X6_of z x4_5 1) = p1 then
        o_X6_of z x4_5 p2 ∧
        (o_X6_heldBy_j39 x3_5 x4_5 (o_X6_heldBy_j5 z p1 p2 n5) (f_X6_of z x4_5 p2))
      else
        o_X6_heldBy_j39 x3_5 x4_5 (o_X6_heldBy_j5 z p1 p2 n5) 0)
def o_X6_heldBy (z : Nat → Int32) (p1 : Int32) (p2 : Int32) : Prop :=
  o_X6_heldBy_j5 z p1 p2 ((((z (Int32.toNatClampNeg 3))).toInt - ((0 : Int32)).toInt).toNat + 1) 0 0
theorem yd_X6_heldBy : yX6_heldBy.cls = RX6 ∧ yX6_heldBy.cls ≠ "java/lang/invoke/MethodHandle" ∧ yX6_heldBy.cls ≠ "java/lang/invoke/VarHandle" ∧ (parseMethodDescriptor yX6_heldBy.desc).map (fun d => d.parameters.length) = some 2 := by decide +kernel
set_option maxHeartbeats 4000000 in
set_option maxRecDepth 100000 in
theorem c_X6_heldBy (l : Launch) (dC : Nat → ClassId) (dI : Nat → Nat → Nat) (cI cB : ClassId) (h0 h1 h2 h3 h4 : Nat) (states : Int32) (ln : Int32) (thr : Int32) (rd : Int32) (num : Int32) (due : Int32) (hash : Int64) (z : Nat → Int32) (hi : Nat → Int32) (tx : Nat → Int32) (pa : Nat → Int32) (p1 : Int32) (p2 : Int32) (eO : o_X6_heldBy z p1 p2) : Met l yX6_heldBy wsX6_heldBy ({ frames := 1, cells := 0, slots := 0, locals := 22 }) (vm_pre [.ref h0, .int p1, .int p2] (dC, dI) [(h0, .inr (6, [.ref h1, .int states, .ref h2, .int ln, .ref h3, .int thr, .ref h4, .int rd, .int num, .int due, .long hash])), (h1, .inl (cI, 163, .inl z)), (h2, .inl (cI, 978, .inl hi)), (h3, .inl (cI, 60, .inl tx)), (h4, .inl (cI, 42, .inl pa))] cI cB) (vp_Si (fun r9 : Int32 => r9 = (f_X6_heldBy z p1 p2))) 0 0 (fun _ => False) := by
  refine Met.ofW (cc := cX6_heldBy) (maxL := 5) (ret := (some .int)) (by decide) rfl ?_
  intro p e s m args below meth c s₁ B hml hv
  obtain ⟨rfl, hP, hK, hN⟩ := hv
  have hx := B.exec
  have hb := B.bytes
  have hr := B.returns
  have hts := atoms_spec (ws := wsX6_heldBy) B.pre
  have hown : s.vm.findClass RX6 = some m.cls := findClass_of_methodNamed B.named
  have hlocks := B.notSynchronized
  have kw1 := hts (.fieldLink RX6 7 "LapseMandatesModel" "z" "[I") (List.mem_of_getElem? (i := 1) rfl)
  have iwsX60 : ∀ w ∈ wsX60, w ∈ wsX6_heldBy := fun w h => List.mem_cons_of_mem _ (List.mem_append_right _ h)
  generalize hrr : f_X6_heldBy z p1 p2 = rr
  have eF := hrr.symm
  have hl := lv_entry ([.ref h0, .int p1, .int p2]) (n := 5) (Nat.le_of_ble_eq_true rfl)
  rw [lg_entry_eq]
  generalize (lg_sl ([.ref h0, .int p1, .int p2]) ++ List.replicate (5 - (lg_sl ([.ref h0, .int p1, .int p2])).length) Slot.unset).toArray = ls at hl ⊢
  have hl : lv_has ls 5 [(0, .ref h0), (1, .int p1), (2, .int p2)] := hl
  have hJ5 : ∀ (n5 : Nat) (x3_5 : Int32) (x4_5 : Int32), (((z (Int32.toNatClampNeg 3))).toInt - (x4_5).toInt).toNat < n5 → 0 ≤ x4_5 → rr = f_X6_heldBy_j5 z p1 p2 n5 x3_5 x4_5 → o_X6_heldBy_j5 z p1 p2 n5 x3_5 x4_5 → ∀ (ls : Array Slot), lv_has ls 5 [(0, .ref h0), (1, .int p1), (2, .int p2), (3, .int x3_5), (4, .int x4_5)] → W p l e (headSpec wsX6_heldBy ({ frames := 1, cells := 0, slots := 0, locals := 22 })).room s m ([.ref h0, .int p1, .int p2] : List Value).toArray below meth c s.heap [] 0 0 (MQ below (vp_Si (fun r9 : Int32 => r9 = rr)) ([.ref h0, .int p1, .int p2] : List Value).toArray s 0 0 (fun _ => False)) (F0 m 5 ls []) := by
    intro n5
    induction n5 with
    | zero =>
      intro x3_5 x4_5 hm5
      exact absurd hm5 (Nat.not_lt_zero _)
    | succ n5 ih5 =>
      intro x3_5 x4_5 hm5 hi5 eF eO ls hl
      rw [o_X6_heldBy_j5] at eO
      have hJ39 : ∀ (s0_39 : Int32), ¬ (z (Int32.toNatClampNeg 3)) ≤ x4_5 → rr = f_X6_heldBy_j39 x3_5 x4_5 (f_X6_heldBy_j5 z p1 p2 n5) s0_39 → o_X6_heldBy_j39 x3_5 x4_5 (o_X6_heldBy_j5 z p1 p2 n5) s0_39 → ∀ (ls : Array Slot), lv_has ls 5 [(0, .ref h0), (1, .int p1), (2, .int p2), (4, .int x4_5)] → W p l e (headSpec wsX6_heldBy ({ frames := 1, cells := 0, slots := 0, locals := 22 })).room s m ([.ref h0, .int p1, .int p2] : List Value).toArray below meth c s.heap [] 0 0 (MQ below (vp_Si (fun r9 : Int32 => r9 = rr)) ([.ref h0, .int p1, .int p2] : List Value).toArray s 0 0 (fun _ => False)) (F0 m 39 ls [.int s0_39, .int x3_5]) := by
        intro s0_39 cL5 eF eO ls hl
        rw [o_X6_heldBy_j39] at eO
        refine lv_iadd hx hb dX6_heldBy_39 ?_
        refine lv_istore_n (lv' := [(3, .int (x3_5 + s0_39)), (0, .ref h0), (1, .int p1), (2, .int p2), (4, .int x4_5)]) hx hb dX6_heldBy_40 rfl hl (by decide) rfl (fun ls hl => ?_)
        refine lv_iinc (v := (x4_5 + 1)) (lv' := [(4, .int (x4_5 + 1)), (3, .int (x3_5 + s0_39)), (0, .ref h0), (1, .int p1), (2, .int p2)]) hx hb dX6_heldBy_41 hl (k := 4) rfl rfl (by decide) rfl (fun ls hl => ?_)
        refine lv_goto (tgt := 5) hx hb dX6_heldBy_44 (by decide) ?_
        exact ih5 (x3_5 + s0_39) (x4_5 + 1) (vm_up (vm_nle cL5) hm5) (vm_nn hi5 (vm_nle cL5)) (eF.trans (by rw [f_X6_heldBy_j39])) eO ls (lv_sub hl [2, 3, 4, 1, 0] rfl)
      refine lv_iload hx hb dX6_heldBy_5 (lv_at hl 4 rfl) ?_
      refine lv_aload_n hx hb dX6_heldBy_7 rfl (lv_at hl 0 rfl) ?_
      refine va_get (D := (dC, dI)) (ci := 6) (v := .ref h1) (C := RX6) (T := TX6) (N := 11) hx hb hts iwsX60 hown hK hP 0 rfl rfl 0 (by decide) kw1 (fun _ h9 => h9) rfl dX6_heldBy_8 ?_
      refine lv_iconst (v := 3) hx hb dX6_heldBy_11 (by decide) ?_
      refine va_iald hx hb hK hP 1 0 rfl rfl (by unfold vp_in; decide) dX6_heldBy_12 ?_
      refine lv_icmp_ge (tgt := 47) hx hb dX6_heldBy_13 (by decide) (fun cL5 => ?_) (fun cL5 => ?_)
      · rw [if_pos cL5] at eO
        refine lv_iload_n hx hb dX6_heldBy_47 rfl (lv_at hl 3 rfl) ?_
        have e9 : rr = x3_5 := eF.trans (by rw [f_X6_heldBy_j5, if_pos cL5])
        exact W.iret (v := x3_5) hx hb hr (fun t ht hW => ⟨_, rfl, e9.symm, ht⟩) (fun _ hq => by cases hq) dX6_heldBy_48
      · rw [if_neg cL5] at eO
        refine lv_iload_n hx hb dX6_heldBy_16 rfl (lv_at hl 3 rfl) ?_
        refine lv_aload_n hx hb dX6_heldBy_17 rfl (lv_at hl 0 rfl) ?_
        refine lv_iload hx hb dX6_heldBy_18 (lv_at hl 4 rfl) ?_
        refine lv_iconst (v := 1) hx hb dX6_heldBy_20 (by decide) ?_
        obtain ⟨hv_2, eO⟩ := eO
        refine vm_roVx (v := (f_X6_of z x4_5 1)) (As := [.int x4_5, .int 1]) (rest := [.int x3_5]) (T := TX6) (N := 11) (wc := [(h0, .inr (6, [.ref h1, .int states, .ref h2, .int ln, .ref h3, .int thr, .ref h4, .int rd, .int num, .int due, .long hash])), (h1, .inl (cI, 163, .inl z)), (h2, .inl (cI, 978, .inl hi)), (h3, .inl (cI, 60, .inl tx)), (h4, .inl (cI, 42, .inl pa))]) ⟨hx, hb, hml, hown, hts⟩ hK hN hP hl.1 ⟨Nat.le_of_ble_eq_true rfl, Nat.le_of_ble_eq_true rfl⟩ (c_X6_of l dC dI cI cB h0 h1 h2 h3 h4 states ln thr rd num due hash z hi tx pa x4_5 1 hv_2) (cwV 2 hts gX6_heldBy_X6_of rfl rfl rfl yd_X6_of ⟨Nat.le_of_ble_eq_true rfl, Nat.le_of_ble_eq_true rfl⟩) [0, 1, 2, 3, 4] rfl 6 rfl rfl rfl rfl (Nat.le_of_ble_eq_true rfl) dX6_heldBy_21 ?_
        refine lv_iload_n hx hb dX6_heldBy_24 rfl (lv_at hl 1 rfl) ?_
        refine lv_icmp_ne (tgt := 38) hx hb dX6_heldBy_25 (by decide) (fun c_3 => ?_) (fun c_3 => ?_)
        · rw [if_neg c_3] at eO
          refine lv_iconst (v := 0) hx hb dX6_heldBy_38 (by decide) ?_
          exact hJ39 0 cL5 (eF.trans (by rw [f_X6_heldBy_j5, if_neg cL5, if_neg c_3])) eO ls (lv_sub hl [0, 1, 2, 4] rfl)
        · rw [if_pos c_3] at eO
          refine lv_aload_n hx hb dX6_heldBy_28 rfl (lv_at hl 0 rfl) ?_
          refine lv_iload hx hb dX6_heldBy_29 (lv_at hl 4 rfl) ?_
          refine lv_iload_n hx hb dX6_heldBy_31 rfl (lv_at hl 2 rfl) ?_
          obtain ⟨hv_4, eO⟩ := eO
          refine vm_roVx (v := (f_X6_of z x4_5 p2)) (As := [.int x4_5, .int p2]) (rest := [.int x3_5]) (T := TX6) (N := 11) (wc := [(h0, .inr (6, [.ref h1, .int states, .ref h2, .int ln, .ref h3, .int thr, .ref h4, .int rd, .int num, .int due, .long hash])), (h1, .inl (cI, 163, .inl z)), (h2, .inl (cI, 978, .inl hi)), (h3, .inl (cI, 60, .inl tx)), (h4, .inl (cI, 42, .inl pa))]) ⟨hx, hb, hml, hown, hts⟩ hK hN hP hl.1 ⟨Nat.le_of_ble_eq_true rfl, Nat.le_of_ble_eq_true rfl⟩ (c_X6_of l dC dI cI cB h0 h1 h2 h3 h4 states ln thr rd num due hash z hi tx pa x4_5 p2 hv_4) (cwV 2 hts gX6_heldBy_X6_of rfl rfl rfl yd_X6_of ⟨Nat.le_of_ble_eq_true rfl, Nat.le_of_ble_eq_true rfl⟩) [0, 1, 2, 3, 4] rfl 6 rfl rfl rfl rfl (Nat.le_of_ble_eq_true rfl) dX6_heldBy_32 ?_
          refine lv_goto (tgt := 39) hx hb dX6_heldBy_35 (by decide) ?_
          exact hJ39 (f_X6_of z x4_5 p2) cL5 (eF.trans (by rw [f_X6_heldBy_j5, if_neg cL5, if_pos c_3])) eO ls (lv_sub hl [0, 1, 2, 4] rfl)
  rw [o_X6_heldBy] at eO
  refine lv_iconst (v := 0) hx hb dX6_heldBy_0 (by decide) ?_
  refine lv_istore_n (lv' := [(3, .int 0), (0, .ref h0), (1, .int p1), (2, .int p2)]) hx hb dX6_heldBy_1 rfl hl (by decide) rfl (fun ls hl => ?_)
  refine lv_iconst (v := 0) hx hb dX6_heldBy_2 (by decide) ?_
  refine lv_istore (lv' := [(4, .int 0), (3, .int 0), (0, .ref h0), (1, .int p1), (2, .int p2)]) hx hb dX6_heldBy_3 hl (by decide) rfl (fun ls hl => ?_)
  exact hJ5 ((((z (Int32.toNatClampNeg 3))).toInt - ((0 : Int32)).toInt).toNat + 1) 0 0 (Nat.lt_succ_self _) (by decide) (eF.trans (by rw [f_X6_heldBy])) eO ls (lv_sub hl [2, 3, 4, 1, 0] rfl)

def f_X6_approvableBy_j29 (x2_4 : Int32) (x3_4 : Int32) (kj4 : Int32 → Int32 → Int32) (s0_29 : Bool) : Int32 :=
  kj4 (x2_4 + (vm_bi s0_29)) (x3_4 + 1)
def f_X6_approvableBy_j4 (z : Nat → Int32) (p1 : Int32) : Nat → Int32 → Int32 → Int32
  | 0, _, _ => 0
  | n4 + 1, x2_4, x3_4 => if (z (Int32.toNatClampNeg 4)) ≤ x3_4 then
      x2_4
    else
      if (vm_bi (f_X6_canApprove z x3_4 p1)) = 0 then
        f_X6_approvableBy_j29 x2_4 x3_4 (f_X6_approvableBy_j4 z p1 n4) false
      else
        f_X6_approvableBy_j29 x2_4 x3_4 (f_X6_approvableBy_j4 z p1 n4) true
def f_X6_approvableBy (z : Nat → Int32) (p1 : Int32) : Int32 :=
  f_X6_approvableBy_j4 z p1 ((((z (Int32.toNatClampNeg 4))).toInt - ((0 : Int32)).toInt).toNat + 1) 0 0
def o_X6_approvableBy_j29 (x2_4 : Int32) (x3_4 : Int32) (koj4 : Int32 → Int32 → Prop) (s0_29 : Bool) : Prop :=
  koj4 (x2_4 + (vm_bi s0_29)) (x3_4 + 1)
def o_X6_approvableBy_j4 (z : Nat → Int32) (p1 : Int32) : Nat → Int32 → Int32 → Prop
  | 0, _, _ => True
  | n4 + 1, x2_4, x3_4 => if (z (Int32.toNatClampNeg 4)) ≤ x3_4 then
      True
    else
      o_X6_canApprove z x3_4 p1 ∧
      (if (vm_bi (f_X6_canApprove z x3_4 p1)) = 0 then
        o_X6_approvableBy_j29 x2_4 x3_4 (o_X6_approvableBy_j4 z p1 n4) false
      else
        o_X6_approvableBy_j29 x2_4 x3_4 (o_X6_approvableBy_j4 z p1 n4) true)
def o_X6_approvableBy (z : Nat → Int32) (p1 : Int32) : Prop :=
  o_X6_approvableBy_j4 z p1 ((((z (Int32.toNatClampNeg 4))).toInt - ((0 : Int32)).toInt).toNat + 1) 0 0
theorem yd_X6_approvableBy : yX6_approvableBy.cls = RX6 ∧ yX6_approvableBy.cls ≠ "java/lang/invoke/MethodHandle" ∧ yX6_approvableBy.cls ≠ "java/lang/invoke/VarHandle" ∧ (parseMethodDescriptor yX6_approvableBy.desc).map (fun d => d.parameters.length) = some 1 := by decide +kernel
set_option maxHeartbeats 4000000 in
set_option maxRecDepth 100000 in
theorem c_X6_approvableBy (l : Launch) (dC : Nat → ClassId) (dI : Nat → Nat → Nat) (cI cB : ClassId) (h0 h1 h2 h3 h4 : Nat) (states : Int32) (ln : Int32) (thr : Int32) (rd : Int32) (num : Int32) (due : Int32) (hash : Int64) (z : Nat → Int32) (hi : Nat → Int32) (tx : Nat → Int32) (pa : Nat → Int32) (p1 : Int32) (eO : o_X6_approvableBy z p1) : Met l yX6_approvableBy wsX6_approvableBy ({ frames := 3, cells := 0, slots := 0, locals := 69 }) (vm_pre [.ref h0, .int p1] (dC, dI) [(h0, .inr (6, [.ref h1, .int states, .ref h2, .int ln, .ref h3, .int thr, .ref h4, .int rd, .int num, .int due, .long hash])), (h1, .inl (cI, 163, .inl z)), (h2, .inl (cI, 978, .inl hi)), (h3, .inl (cI, 60, .inl tx)), (h4, .inl (cI, 42, .inl pa))] cI cB) (vp_Si (fun r9 : Int32 => r9 = (f_X6_approvableBy z p1))) 0 0 (fun _ => False) := by
  refine Met.ofW (cc := cX6_approvableBy) (maxL := 4) (ret := (some .int)) (by decide) rfl ?_
  intro p e s m args below meth c s₁ B hml hv
  obtain ⟨rfl, hP, hK, hN⟩ := hv
  have hx := B.exec
  have hb := B.bytes
  have hr := B.returns
  have hts := atoms_spec (ws := wsX6_approvableBy) B.pre
  have hown : s.vm.findClass RX6 = some m.cls := findClass_of_methodNamed B.named
  have hlocks := B.notSynchronized
  have kw1 := hts (.fieldLink RX6 7 "LapseMandatesModel" "z" "[I") (List.mem_of_getElem? (i := 1) rfl)
  have iwsX60 : ∀ w ∈ wsX60, w ∈ wsX6_approvableBy := fun w h => List.mem_cons_of_mem _ (List.mem_append_right _ h)
  generalize hrr : f_X6_approvableBy z p1 = rr
  have eF := hrr.symm
  have hl := lv_entry ([.ref h0, .int p1]) (n := 4) (Nat.le_of_ble_eq_true rfl)
  rw [lg_entry_eq]
  generalize (lg_sl ([.ref h0, .int p1]) ++ List.replicate (4 - (lg_sl ([.ref h0, .int p1])).length) Slot.unset).toArray = ls at hl ⊢
  have hl : lv_has ls 4 [(0, .ref h0), (1, .int p1)] := hl
  have hJ4 : ∀ (n4 : Nat) (x2_4 : Int32) (x3_4 : Int32), (((z (Int32.toNatClampNeg 4))).toInt - (x3_4).toInt).toNat < n4 → 0 ≤ x3_4 → rr = f_X6_approvableBy_j4 z p1 n4 x2_4 x3_4 → o_X6_approvableBy_j4 z p1 n4 x2_4 x3_4 → ∀ (ls : Array Slot), lv_has ls 4 [(0, .ref h0), (1, .int p1), (2, .int x2_4), (3, .int x3_4)] → W p l e (headSpec wsX6_approvableBy ({ frames := 3, cells := 0, slots := 0, locals := 69 })).room s m ([.ref h0, .int p1] : List Value).toArray below meth c s.heap [] 0 0 (MQ below (vp_Si (fun r9 : Int32 => r9 = rr)) ([.ref h0, .int p1] : List Value).toArray s 0 0 (fun _ => False)) (F0 m 4 ls []) := by
    intro n4
    induction n4 with
    | zero =>
      intro x2_4 x3_4 hm4
      exact absurd hm4 (Nat.not_lt_zero _)
    | succ n4 ih4 =>
      intro x2_4 x3_4 hm4 hi4 eF eO ls hl
      rw [o_X6_approvableBy_j4] at eO
      have hJ29 : ∀ (s0_29 : Bool), ¬ (z (Int32.toNatClampNeg 4)) ≤ x3_4 → rr = f_X6_approvableBy_j29 x2_4 x3_4 (f_X6_approvableBy_j4 z p1 n4) s0_29 → o_X6_approvableBy_j29 x2_4 x3_4 (o_X6_approvableBy_j4 z p1 n4) s0_29 → ∀ (ls : Array Slot), lv_has ls 4 [(0, .ref h0), (1, .int p1), (3, .int x3_4)] → W p l e (headSpec wsX6_approvableBy ({ frames := 3, cells := 0, slots := 0, locals := 69 })).room s m ([.ref h0, .int p1] : List Value).toArray below meth c s.heap [] 0 0 (MQ below (vp_Si (fun r9 : Int32 => r9 = rr)) ([.ref h0, .int p1] : List Value).toArray s 0 0 (fun _ => False)) (F0 m 29 ls [.int (vm_bi s0_29), .int x2_4]) := by
        intro s0_29 cL4 eF eO ls hl
        rw [o_X6_approvableBy_j29] at eO
        refine lv_iadd hx hb dX6_approvableBy_29 ?_
        refine lv_istore_n (lv' := [(2, .int (x2_4 + (vm_bi s0_29))), (0, .ref h0), (1, .int p1), (3, .int x3_4)]) hx hb dX6_approvableBy_30 rfl hl (by decide) rfl (fun ls hl => ?_)
        refine lv_iinc (v := (x3_4 + 1)) (lv' := [(3, .int (x3_4 + 1)), (2, .int (x2_4 + (vm_bi s0_29))), (0, .ref h0), (1, .int p1)]) hx hb dX6_approvableBy_31 hl (k := 3) rfl rfl (by decide) rfl (fun ls hl => ?_)
        refine lv_goto (tgt := 4) hx hb dX6_approvableBy_34 (by decide) ?_
        exact ih4 (x2_4 + (vm_bi s0_29)) (x3_4 + 1) (vm_up (vm_nle cL4) hm4) (vm_nn hi4 (vm_nle cL4)) (eF.trans (by rw [f_X6_approvableBy_j29])) eO ls (lv_sub hl [2, 3, 1, 0] rfl)
      refine lv_iload_n hx hb dX6_approvableBy_4 rfl (lv_at hl 3 rfl) ?_
      refine lv_aload_n hx hb dX6_approvableBy_5 rfl (lv_at hl 0 rfl) ?_
      refine va_get (D := (dC, dI)) (ci := 6) (v := .ref h1) (C := RX6) (T := TX6) (N := 11) hx hb hts iwsX60 hown hK hP 0 rfl rfl 0 (by decide) kw1 (fun _ h9 => h9) rfl dX6_approvableBy_6 ?_
      refine lv_iconst (v := 4) hx hb dX6_approvableBy_9 (by decide) ?_
      refine va_iald hx hb hK hP 1 0 rfl rfl (by unfold vp_in; decide) dX6_approvableBy_10 ?_
      refine lv_icmp_ge (tgt := 37) hx hb dX6_approvableBy_11 (by decide) (fun cL4 => ?_) (fun cL4 => ?_)
      · rw [if_pos cL4] at eO
        refine lv_iload_n hx hb dX6_approvableBy_37 rfl (lv_at hl 2 rfl) ?_
        have e9 : rr = x2_4 := eF.trans (by rw [f_X6_approvableBy_j4, if_pos cL4])
        exact W.iret (v := x2_4) hx hb hr (fun t ht hW => ⟨_, rfl, e9.symm, ht⟩) (fun _ hq => by cases hq) dX6_approvableBy_38
      · rw [if_neg cL4] at eO
        refine lv_iload_n hx hb dX6_approvableBy_14 rfl (lv_at hl 2 rfl) ?_
        refine lv_aload_n hx hb dX6_approvableBy_15 rfl (lv_at hl 0 rfl) ?_
        refine lv_iload_n hx hb dX6_approvableBy_16 rfl (lv_at hl 3 rfl) ?_
        refine lv_iload_n hx hb dX6_approvableBy_17 rfl (lv_at hl 1 rfl) ?_
        obtain ⟨hv_2, eO⟩ := eO
        refine vm_roVx (v := vm_bi (f_X6_canApprove z x3_4 p1)) (As := [.int x3_4, .int p1]) (rest := [.int x2_4]) (T := TX6) (N := 11) (wc := [(h0, .inr (6, [.ref h1, .int states, .ref h2, .int ln, .ref h3, .int thr, .ref h4, .int rd, .int num, .int due, .long hash])), (h1, .inl (cI, 163, .inl z)), (h2, .inl (cI, 978, .inl hi)), (h3, .inl (cI, 60, .inl tx)), (h4, .inl (cI, 42, .inl pa))]) ⟨hx, hb, hml, hown, hts⟩ hK hN hP hl.1 ⟨Nat.le_of_ble_eq_true rfl, Nat.le_of_ble_eq_true rfl⟩ (c_X6_canApprove l dC dI cI cB h0 h1 h2 h3 h4 states ln thr rd num due hash z hi tx pa x3_4 p1 hv_2) (cwV 2 hts gX6_approvableBy_X6_canApprove rfl rfl rfl yd_X6_canApprove ⟨Nat.le_of_ble_eq_true rfl, Nat.le_of_ble_eq_true rfl⟩) [0, 1, 2, 3, 4] rfl 6 rfl rfl rfl rfl (Nat.le_of_ble_eq_true rfl) dX6_approvableBy_18 ?_
        refine lv_if_eq (tgt := 28) hx hb dX6_approvableBy_21 (by decide) (fun c_3 => ?_) (fun c_3 => ?_)
        · rw [if_pos c_3] at eO
          refine lv_iconst (v := 0) hx hb dX6_approvableBy_28 (by decide) ?_
          exact hJ29 false cL4 (eF.trans (by rw [f_X6_approvableBy_j4, if_neg cL4, if_pos c_3])) eO ls (lv_sub hl [0, 1, 3] rfl)
        · rw [if_neg c_3] at eO
          refine lv_iconst (v := 1) hx hb dX6_approvableBy_24 (by decide) ?_
          refine lv_goto (tgt := 29) hx hb dX6_approvableBy_25 (by decide) ?_
          exact hJ29 true cL4 (eF.trans (by rw [f_X6_approvableBy_j4, if_neg cL4, if_neg c_3])) eO ls (lv_sub hl [0, 1, 3] rfl)
  rw [o_X6_approvableBy] at eO
  refine lv_iconst (v := 0) hx hb dX6_approvableBy_0 (by decide) ?_
  refine lv_istore_n (lv' := [(2, .int 0), (0, .ref h0), (1, .int p1)]) hx hb dX6_approvableBy_1 rfl hl (by decide) rfl (fun ls hl => ?_)
  refine lv_iconst (v := 0) hx hb dX6_approvableBy_2 (by decide) ?_
  refine lv_istore_n (lv' := [(3, .int 0), (2, .int 0), (0, .ref h0), (1, .int p1)]) hx hb dX6_approvableBy_3 rfl hl (by decide) rfl (fun ls hl => ?_)
  exact hJ4 ((((z (Int32.toNatClampNeg 4))).toInt - ((0 : Int32)).toInt).toNat + 1) 0 0 (Nat.lt_succ_self _) (by decide) (eF.trans (by rw [f_X6_approvableBy])) eO ls (lv_sub hl [2, 3, 1, 0] rfl)

def f_X6_personNow (z : Nat → Int32) (p1 : Int32) (p2 : Int32) : Int32 :=
  if p2.toInt < 0 ∨ 2 < p2.toInt then
    (f_X6_approvableBy z p1)
  else
    if p2.toInt = 0 then
      (f_X6_heldBy z p1 5)
    else
      if p2.toInt = 1 then
        (f_X6_heldBy z p1 7)
      else
        (z (Int32.toNatClampNeg (11 + p1)))
def o_X6_personNow (z : Nat → Int32) (p1 : Int32) (p2 : Int32) : Prop :=
  if p2.toInt < 0 ∨ 2 < p2.toInt then
    o_X6_approvableBy z p1 ∧
    (True)
  else
    if p2.toInt = 0 then
      o_X6_heldBy z p1 5 ∧
      (True)
    else
      if p2.toInt = 1 then
        o_X6_heldBy z p1 7 ∧
        (True)
      else
        vp_in (11 + p1) 163 ∧
        (True)
theorem yd_X6_personNow : yX6_personNow.cls = RX6 ∧ yX6_personNow.cls ≠ "java/lang/invoke/MethodHandle" ∧ yX6_personNow.cls ≠ "java/lang/invoke/VarHandle" ∧ (parseMethodDescriptor yX6_personNow.desc).map (fun d => d.parameters.length) = some 2 := by decide +kernel
set_option maxHeartbeats 4000000 in
set_option maxRecDepth 100000 in
theorem c_X6_personNow (l : Launch) (dC : Nat → ClassId) (dI : Nat → Nat → Nat) (cI cB : ClassId) (h0 h1 h2 h3 h4 : Nat) (states : Int32) (ln : Int32) (thr : Int32) (rd : Int32) (num : Int32) (due : Int32) (hash : Int64) (z : Nat → Int32) (hi : Nat → Int32) (tx : Nat → Int32) (pa : Nat → Int32) (p1 : Int32) (p2 : Int32) (eO : o_X6_personNow z p1 p2) : Met l yX6_personNow wsX6_personNow ({ frames := 4, cells := 0, slots := 0, locals := 92 }) (vm_pre [.ref h0, .int p1, .int p2] (dC, dI) [(h0, .inr (6, [.ref h1, .int states, .ref h2, .int ln, .ref h3, .int thr, .ref h4, .int rd, .int num, .int due, .long hash])), (h1, .inl (cI, 163, .inl z)), (h2, .inl (cI, 978, .inl hi)), (h3, .inl (cI, 60, .inl tx)), (h4, .inl (cI, 42, .inl pa))] cI cB) (vp_Si (fun r9 : Int32 => r9 = (f_X6_personNow z p1 p2))) 0 0 (fun _ => False) := by
  refine Met.ofW (cc := cX6_personNow) (maxL := 3) (ret := (some .int)) (by decide) rfl ?_
  intro p e s m args below meth c s₁ B hml hv
  obtain ⟨rfl, hP, hK, hN⟩ := hv
  have hx := B.exec
  have hb := B.bytes
  have hr := B.returns
  have hts := atoms_spec (ws := wsX6_personNow) B.pre
  have hown : s.vm.findClass RX6 = some m.cls := findClass_of_methodNamed B.named
  have hlocks := B.notSynchronized
  have kw1 := hts (.fieldLink RX6 7 "LapseMandatesModel" "z" "[I") (List.mem_of_getElem? (i := 1) rfl)
  have iwsX60 : ∀ w ∈ wsX60, w ∈ wsX6_personNow := fun w h => List.mem_cons_of_mem _ (List.mem_append_right _ h)
  generalize hrr : f_X6_personNow z p1 p2 = rr
  have eF := hrr.symm
  have hl := lv_entry ([.ref h0, .int p1, .int p2]) (n := 3) (Nat.le_of_ble_eq_true rfl)
  rw [lg_entry_eq]
  generalize (lg_sl ([.ref h0, .int p1, .int p2]) ++ List.replicate (3 - (lg_sl ([.ref h0, .int p1, .int p2])).length) Slot.unset).toArray = ls at hl ⊢
  have hl : lv_has ls 3 [(0, .ref h0), (1, .int p1), (2, .int p2)] := hl
  rw [o_X6_personNow] at eO
  refine lv_iload_n hx hb dX6_personNow_0 rfl (lv_at hl 2 rfl) ?_
  by_cases c_1 : p2.toInt < 0 ∨ 2 < p2.toInt
  · rw [if_pos c_1] at eO
    refine lv_tableOut (tgt := 53) hx hb dX6_personNow_1 c_1 (by decide) ?_
    refine lv_aload_n hx hb dX6_personNow_53 rfl (lv_at hl 0 rfl) ?_
    refine lv_iload_n hx hb dX6_personNow_54 rfl (lv_at hl 1 rfl) ?_
    obtain ⟨hv_2, eO⟩ := eO
    refine vm_roVx (v := (f_X6_approvableBy z p1)) (As := [.int p1]) (rest := []) (T := TX6) (N := 11) (wc := [(h0, .inr (6, [.ref h1, .int states, .ref h2, .int ln, .ref h3, .int thr, .ref h4, .int rd, .int num, .int due, .long hash])), (h1, .inl (cI, 163, .inl z)), (h2, .inl (cI, 978, .inl hi)), (h3, .inl (cI, 60, .inl tx)), (h4, .inl (cI, 42, .inl pa))]) ⟨hx, hb, hml, hown, hts⟩ hK hN hP hl.1 ⟨Nat.le_of_ble_eq_true rfl, Nat.le_of_ble_eq_true rfl⟩ (c_X6_approvableBy l dC dI cI cB h0 h1 h2 h3 h4 states ln thr rd num due hash z hi tx pa p1 hv_2) (cwV 1 hts gX6_personNow_X6_approvableBy rfl rfl rfl yd_X6_approvableBy ⟨Nat.le_of_ble_eq_true rfl, Nat.le_of_ble_eq_true rfl⟩) [0, 1, 2, 3, 4] rfl 6 rfl rfl rfl rfl (Nat.le_of_ble_eq_true rfl) dX6_personNow_55 ?_
    have e9 : rr = (f_X6_approvableBy z p1) := eF.trans (by rw [f_X6_personNow, if_pos c_1])
    exact W.iret (v := (f_X6_approvableBy z p1)) hx hb hr (fun t ht hW => ⟨_, rfl, e9.symm, ht⟩) (fun _ hq => by cases hq) dX6_personNow_58
  · rw [if_neg c_1] at eO
    have c_1_a : ¬ p2.toInt < 0 := fun q => c_1 (Or.inl q)
    have c_1_b : ¬ 2 < p2.toInt := fun q => c_1 (Or.inr q)
    by_cases c_3 : p2.toInt = 0
    · rw [if_pos c_3] at eO
      refine lv_tableIn (off := 27) (tgt := 28) hx hb dX6_personNow_1 c_1_a c_1_b (by rw [c_3]; rfl) (by decide) ?_
      refine lv_aload_n hx hb dX6_personNow_28 rfl (lv_at hl 0 rfl) ?_
      refine lv_iload_n hx hb dX6_personNow_29 rfl (lv_at hl 1 rfl) ?_
      refine lv_iconst (v := 5) hx hb dX6_personNow_30 (by decide) ?_
      obtain ⟨hv_4, eO⟩ := eO
      refine vm_roVx (v := (f_X6_heldBy z p1 5)) (As := [.int p1, .int 5]) (rest := []) (T := TX6) (N := 11) (wc := [(h0, .inr (6, [.ref h1, .int states, .ref h2, .int ln, .ref h3, .int thr, .ref h4, .int rd, .int num, .int due, .long hash])), (h1, .inl (cI, 163, .inl z)), (h2, .inl (cI, 978, .inl hi)), (h3, .inl (cI, 60, .inl tx)), (h4, .inl (cI, 42, .inl pa))]) ⟨hx, hb, hml, hown, hts⟩ hK hN hP hl.1 ⟨Nat.le_of_ble_eq_true rfl, Nat.le_of_ble_eq_true rfl⟩ (c_X6_heldBy l dC dI cI cB h0 h1 h2 h3 h4 states ln thr rd num due hash z hi tx pa p1 5 hv_4) (cwV 2 hts gX6_personNow_X6_heldBy rfl rfl rfl yd_X6_heldBy ⟨Nat.le_of_ble_eq_true rfl, Nat.le_of_ble_eq_true rfl⟩) [0, 1, 2, 3, 4] rfl 6 rfl rfl rfl rfl (Nat.le_of_ble_eq_true rfl) dX6_personNow_31 ?_
      have e9 : rr = (f_X6_heldBy z p1 5) := eF.trans (by rw [f_X6_personNow, if_neg c_1, if_pos c_3])
      exact W.iret (v := (f_X6_heldBy z p1 5)) hx hb hr (fun t ht hW => ⟨_, rfl, e9.symm, ht⟩) (fun _ hq => by cases hq) dX6_personNow_34
    · rw [if_neg c_3] at eO
      by_cases c_5 : p2.toInt = 1
      · rw [if_pos c_5] at eO
        refine lv_tableIn (off := 34) (tgt := 35) hx hb dX6_personNow_1 c_1_a c_1_b (by rw [c_5]; rfl) (by decide) ?_
        refine lv_aload_n hx hb dX6_personNow_35 rfl (lv_at hl 0 rfl) ?_
        refine lv_iload_n hx hb dX6_personNow_36 rfl (lv_at hl 1 rfl) ?_
        refine lv_bipush (v := 7) hx hb dX6_personNow_37 (by decide) ?_
        obtain ⟨hv_6, eO⟩ := eO
        refine vm_roVx (v := (f_X6_heldBy z p1 7)) (As := [.int p1, .int 7]) (rest := []) (T := TX6) (N := 11) (wc := [(h0, .inr (6, [.ref h1, .int states, .ref h2, .int ln, .ref h3, .int thr, .ref h4, .int rd, .int num, .int due, .long hash])), (h1, .inl (cI, 163, .inl z)), (h2, .inl (cI, 978, .inl hi)), (h3, .inl (cI, 60, .inl tx)), (h4, .inl (cI, 42, .inl pa))]) ⟨hx, hb, hml, hown, hts⟩ hK hN hP hl.1 ⟨Nat.le_of_ble_eq_true rfl, Nat.le_of_ble_eq_true rfl⟩ (c_X6_heldBy l dC dI cI cB h0 h1 h2 h3 h4 states ln thr rd num due hash z hi tx pa p1 7 hv_6) (cwV 2 hts gX6_personNow_X6_heldBy rfl rfl rfl yd_X6_heldBy ⟨Nat.le_of_ble_eq_true rfl, Nat.le_of_ble_eq_true rfl⟩) [0, 1, 2, 3, 4] rfl 6 rfl rfl rfl rfl (Nat.le_of_ble_eq_true rfl) dX6_personNow_39 ?_
        have e9 : rr = (f_X6_heldBy z p1 7) := eF.trans (by rw [f_X6_personNow, if_neg c_1, if_neg c_3, if_pos c_5])
        exact W.iret (v := (f_X6_heldBy z p1 7)) hx hb hr (fun t ht hW => ⟨_, rfl, e9.symm, ht⟩) (fun _ hq => by cases hq) dX6_personNow_42
      · rw [if_neg c_5] at eO
        have c_7 : p2.toInt = 2 := by omega
        refine lv_tableIn (off := 42) (tgt := 43) hx hb dX6_personNow_1 c_1_a c_1_b (by rw [c_7]; rfl) (by decide) ?_
        refine lv_aload_n hx hb dX6_personNow_43 rfl (lv_at hl 0 rfl) ?_
        refine va_get (D := (dC, dI)) (ci := 6) (v := .ref h1) (C := RX6) (T := TX6) (N := 11) hx hb hts iwsX60 hown hK hP 0 rfl rfl 0 (by decide) kw1 (fun _ h9 => h9) rfl dX6_personNow_44 ?_
        refine lv_bipush (v := 11) hx hb dX6_personNow_47 (by decide) ?_
        refine lv_iload_n hx hb dX6_personNow_49 rfl (lv_at hl 1 rfl) ?_
        refine lv_iadd hx hb dX6_personNow_50 ?_
        obtain ⟨hv_8, eO⟩ := eO
        refine va_iald hx hb hK hP 1 0 rfl rfl hv_8 dX6_personNow_51 ?_
        have e9 : rr = (z (Int32.toNatClampNeg (11 + p1))) := eF.trans (by rw [f_X6_personNow, if_neg c_1, if_neg c_3, if_neg c_5])
        exact W.iret (v := (z (Int32.toNatClampNeg (11 + p1)))) hx hb hr (fun t ht hW => ⟨_, rfl, e9.symm, ht⟩) (fun _ hq => by cases hq) dX6_personNow_52

def f_X6_person_j26 (z : Nat → Int32) (p1 : Int32) (p2 : Int32) (s0_26 : Int32) : Int32 × Int32 :=
  if s0_26 ≤ 0 then
    ((f_X6_personNow z p1 p2), s0_26)
  else
    (0, s0_26)
def f_X6_person (z : Nat → Int32) (p1 : Int32) (p2 : Int32) : Int32 × Int32 :=
  if (vm_bi (f_X6_isPerson p1)) = 0 then
    f_X6_person_j26 z p1 p2 1
  else
    if (vm_bi (f_X6_within p2 0 3)) = 0 then
      f_X6_person_j26 z p1 p2 2
    else
      f_X6_person_j26 z p1 p2 0
def o_X6_person_j26 (z : Nat → Int32) (p1 : Int32) (p2 : Int32) (s0_26 : Int32) : Prop :=
  if s0_26 ≤ 0 then
    o_X6_personNow z p1 p2 ∧
    (True)
  else
    True
def o_X6_person (z : Nat → Int32) (p1 : Int32) (p2 : Int32) : Prop :=
  if (vm_bi (f_X6_isPerson p1)) = 0 then
    o_X6_person_j26 z p1 p2 1
  else
    if (vm_bi (f_X6_within p2 0 3)) = 0 then
      o_X6_person_j26 z p1 p2 2
    else
      o_X6_person_j26 z p1 p2 0
theorem yd_X6_person : yX6_person.cls = RX6 ∧ yX6_person.cls ≠ "java/lang/invoke/MethodHandle" ∧ yX6_person.cls ≠ "java/lang/invoke/VarHandle" ∧ (parseMethodDescriptor yX6_person.desc).map (fun d => d.parameters.length) = some 2 := by decide +kernel
set_option maxHeartbeats 4000000 in
set_option maxRecDepth 100000 in
theorem c_X6_person (l : Launch) (dC : Nat → ClassId) (dI : Nat → Nat → Nat) (cI cB : ClassId) (h0 h1 h2 h3 h4 : Nat) (sz : Nat) (states : Int32) (ln : Int32) (thr : Int32) (rd : Int32) (num : Int32) (due : Int32) (hash : Int64) (z : Nat → Int32) (hi : Nat → Int32) (tx : Nat → Int32) (pa : Nat → Int32) (p1 : Int32) (p2 : Int32) (eO : o_X6_person z p1 p2) : Met l yX6_person wsX6_person ({ frames := 5, cells := 0, slots := 0, locals := 114 }) (vm_prw [.ref h0, .int p1, .int p2] (dC, dI) [(h0, .inr (6, [.ref h1, .int states, .ref h2, .int ln, .ref h3, .int thr, .ref h4, .int rd, .int num, .int due, .long hash])), (h1, .inl (cI, 163, .inl z)), (h2, .inl (cI, 978, .inl hi)), (h3, .inl (cI, 60, .inl tx)), (h4, .inl (cI, 42, .inl pa))] cI cB sz) (va_Qi (fun (r9 : Int32) (_ : Unit) => r9 = (f_X6_person z p1 p2).1) (fun _ t => va_P (dC, dI) vwCl [(h0, .inr (6, [.ref h1, .int states, .ref h2, .int ln, .ref h3, .int ((f_X6_person z p1 p2).2), .ref h4, .int rd, .int num, .int due, .long hash])), (h1, .inl (cI, 163, .inl z)), (h2, .inl (cI, 978, .inl hi)), (h3, .inl (cI, 60, .inl tx)), (h4, .inl (cI, 42, .inl pa))] t.heap) (va_A [(h0, .inr (6, [.ref h1, .int states, .ref h2, .int ln, .ref h3, .int thr, .ref h4, .int rd, .int num, .int due, .long hash])), (h1, .inl (cI, 163, .inl z)), (h2, .inl (cI, 978, .inl hi)), (h3, .inl (cI, 60, .inl tx)), (h4, .inl (cI, 42, .inl pa))] sz)) 0 0 (va_A [(h0, .inr (6, [.ref h1, .int states, .ref h2, .int ln, .ref h3, .int thr, .ref h4, .int rd, .int num, .int due, .long hash])), (h1, .inl (cI, 163, .inl z)), (h2, .inl (cI, 978, .inl hi)), (h3, .inl (cI, 60, .inl tx)), (h4, .inl (cI, 42, .inl pa))] sz) := by
  refine Met.ofW (cc := cX6_person) (maxL := 3) (ret := (some .int)) (by decide) rfl ?_
  intro p e s m args below meth c s₁ B hml hv
  obtain ⟨rfl, hsz, hP, hK, hN, hD0⟩ := hv
  have hx := B.exec
  have hb := B.bytes
  have hr := B.returns
  have hts := atoms_spec (ws := wsX6_person) B.pre
  have hown : s.vm.findClass RX6 = some m.cls := findClass_of_methodNamed B.named
  have hlocks := B.notSynchronized
  subst hsz
  have hD := hD0.self (sz := s.heap.size)
  generalize hAe : va_A [(h0, .inr (6, [.ref h1, .int states, .ref h2, .int ln, .ref h3, .int thr, .ref h4, .int rd, .int num, .int due, .long hash])), (h1, .inl (cI, 163, .inl z)), (h2, .inl (cI, 978, .inl hi)), (h3, .inl (cI, 60, .inl tx)), (h4, .inl (cI, 42, .inl pa))] s.heap.size = A at hD ⊢
  have hA : ∀ q : Nat, s.heap.size ≤ q → A q := fun q h => by rw [← hAe]; exact Or.inr h
  have hS : va_S A s.heap s.heap [] := va_S.rf
  have hP : va_P (dC, dI) vwCl [(h0, .inr (6, [.ref h1, .int states, .ref h2, .int ln, .ref h3, .int thr, .ref h4, .int rd, .int num, .int due, .long hash])), (h1, .inl (cI, 163, .inl z)), (h2, .inl (cI, 978, .inl hi)), (h3, .inl (cI, 60, .inl tx)), (h4, .inl (cI, 42, .inl pa))] s.heap := hP
  have kw1 := hts (.fieldLink RX6 22 "LapseMandatesModel" "thrown" "I") (List.mem_of_getElem? (i := 1) rfl)
  have iwsX60 : ∀ w ∈ wsX60, w ∈ wsX6_person := fun w h => List.mem_cons_of_mem _ (List.mem_append_right _ h)
  generalize hrr : f_X6_person z p1 p2 = rr
  have eF := hrr.symm
  have hl := lv_entry ([.ref h0, .int p1, .int p2]) (n := 3) (Nat.le_of_ble_eq_true rfl)
  rw [lg_entry_eq]
  generalize (lg_sl ([.ref h0, .int p1, .int p2]) ++ List.replicate (3 - (lg_sl ([.ref h0, .int p1, .int p2])).length) Slot.unset).toArray = ls at hl ⊢
  have hl : lv_has ls 3 [(0, .ref h0), (1, .int p1), (2, .int p2)] := hl
  have hJ26 : ∀ (s0_26 : Int32), rr = f_X6_person_j26 z p1 p2 s0_26 → o_X6_person_j26 z p1 p2 s0_26 → ∀ (H : Heap) (locs : List Loc), va_P (dC, dI) vwCl [(h0, .inr (6, [.ref h1, .int states, .ref h2, .int ln, .ref h3, .int thr, .ref h4, .int rd, .int num, .int due, .long hash])), (h1, .inl (cI, 163, .inl z)), (h2, .inl (cI, 978, .inl hi)), (h3, .inl (cI, 60, .inl tx)), (h4, .inl (cI, 42, .inl pa))] H → va_D A [(h0, .inr (6, [.ref h1, .int states, .ref h2, .int ln, .ref h3, .int thr, .ref h4, .int rd, .int num, .int due, .long hash])), (h1, .inl (cI, 163, .inl z)), (h2, .inl (cI, 978, .inl hi)), (h3, .inl (cI, 60, .inl tx)), (h4, .inl (cI, 42, .inl pa))] → va_S A s.heap H locs → ∀ (ls : Array Slot), lv_has ls 3 [(0, .ref h0), (1, .int p1), (2, .int p2)] → W p l e (headSpec wsX6_person ({ frames := 5, cells := 0, slots := 0, locals := 114 })).room s m ([.ref h0, .int p1, .int p2] : List Value).toArray below meth c H locs 0 0 (MQ below (va_Qi (fun (r9 : Int32) (_ : Unit) => r9 = rr.1) (fun _ t => va_P (dC, dI) vwCl [(h0, .inr (6, [.ref h1, .int states, .ref h2, .int ln, .ref h3, .int rr.2, .ref h4, .int rd, .int num, .int due, .long hash])), (h1, .inl (cI, 163, .inl z)), (h2, .inl (cI, 978, .inl hi)), (h3, .inl (cI, 60, .inl tx)), (h4, .inl (cI, 42, .inl pa))] t.heap) A) ([.ref h0, .int p1, .int p2] : List Value).toArray s 0 0 A) (F0 m 26 ls [.int s0_26, .ref h0]) := by
    intro s0_26 eF eO H locs hP hD hS ls hl
    rw [o_X6_person_j26] at eO
    refine va_put (D := (dC, dI)) (ci := 6) (v := .int s0_26) (ty := .int) (C := RX6) (T := TX6) (N := 11) hx hb hts iwsX60 tyX6 tyX6_ok nmX6 hown hK hP hD hS 0 rfl rfl 5 (by decide) kw1 (fun _ h9 => h9) rfl (by decide +kernel) rfl rfl (Nat.le_of_ble_eq_true rfl) dX6_person_26 (fun H locs hP hD hS => ?_)
    have hP : va_P (dC, dI) vwCl [(h0, .inr (6, [.ref h1, .int states, .ref h2, .int ln, .ref h3, .int s0_26, .ref h4, .int rd, .int num, .int due, .long hash])), (h1, .inl (cI, 163, .inl z)), (h2, .inl (cI, 978, .inl hi)), (h3, .inl (cI, 60, .inl tx)), (h4, .inl (cI, 42, .inl pa))] H := hP
    have hD : va_D A [(h0, .inr (6, [.ref h1, .int states, .ref h2, .int ln, .ref h3, .int s0_26, .ref h4, .int rd, .int num, .int due, .long hash])), (h1, .inl (cI, 163, .inl z)), (h2, .inl (cI, 978, .inl hi)), (h3, .inl (cI, 60, .inl tx)), (h4, .inl (cI, 42, .inl pa))] := hD
    refine lv_aload_n hx hb dX6_person_29 rfl (lv_at hl 0 rfl) ?_
    refine va_get (D := (dC, dI)) (ci := 6) (v := .int s0_26) (C := RX6) (T := TX6) (N := 11) hx hb hts iwsX60 hown hK hP 0 rfl rfl 5 (by decide) kw1 (fun _ h9 => h9) rfl dX6_person_30 ?_
    refine lv_if_le (tgt := 40) hx hb dX6_person_33 (by decide) (fun c_1 => ?_) (fun c_1 => ?_)
    · rw [if_pos c_1] at eO
      refine lv_aload_n hx hb dX6_person_40 rfl (lv_at hl 0 rfl) ?_
      refine lv_iload_n hx hb dX6_person_41 rfl (lv_at hl 1 rfl) ?_
      refine lv_iload_n hx hb dX6_person_42 rfl (lv_at hl 2 rfl) ?_
      obtain ⟨hv_2, eO⟩ := eO
      refine vm_roVx (v := (f_X6_personNow z p1 p2)) (As := [.int p1, .int p2]) (rest := []) (T := TX6) (N := 11) (wc := [(h0, .inr (6, [.ref h1, .int states, .ref h2, .int ln, .ref h3, .int s0_26, .ref h4, .int rd, .int num, .int due, .long hash])), (h1, .inl (cI, 163, .inl z)), (h2, .inl (cI, 978, .inl hi)), (h3, .inl (cI, 60, .inl tx)), (h4, .inl (cI, 42, .inl pa))]) ⟨hx, hb, hml, hown, hts⟩ hK hN hP hl.1 ⟨Nat.le_of_ble_eq_true rfl, Nat.le_of_ble_eq_true rfl⟩ (c_X6_personNow l dC dI cI cB h0 h1 h2 h3 h4 states ln s0_26 rd num due hash z hi tx pa p1 p2 hv_2) (cwV 2 hts gX6_person_X6_personNow rfl rfl rfl yd_X6_personNow ⟨Nat.le_of_ble_eq_true rfl, Nat.le_of_ble_eq_true rfl⟩) [0, 1, 2, 3, 4] rfl 6 rfl rfl rfl rfl (Nat.le_of_ble_eq_true rfl) dX6_person_43 ?_
      have e9 : rr = (((f_X6_personNow z p1 p2), s0_26) : Int32 × Int32) := eF.trans (by rw [f_X6_person_j26, if_pos c_1])
      exact W.iret (v := (f_X6_personNow z p1 p2)) hx hb hr (fun t ht hW => ⟨⟨_, (), rfl, by rw [e9], (by rw [e9]; show va_P _ _ _ t.heap; rw [ht]; exact hP)⟩, hS.F ht⟩) hS.2.2 dX6_person_46
    · rw [if_neg c_1] at eO
      refine lv_iconst (v := 0) hx hb dX6_person_36 (by decide) ?_
      refine lv_goto (tgt := 46) hx hb dX6_person_37 (by decide) ?_
      have e9 : rr = ((0, s0_26) : Int32 × Int32) := eF.trans (by rw [f_X6_person_j26, if_neg c_1])
      exact W.iret (v := 0) hx hb hr (fun t ht hW => ⟨⟨_, (), rfl, by rw [e9], (by rw [e9]; show va_P _ _ _ t.heap; rw [ht]; exact hP)⟩, hS.F ht⟩) hS.2.2 dX6_person_46
  rw [o_X6_person] at eO
  refine lv_aload_n hx hb dX6_person_0 rfl (lv_at hl 0 rfl) ?_
  refine lv_iload_n hx hb dX6_person_1 rfl (lv_at hl 1 rfl) ?_
  refine vm_roSx (v := vm_bi (f_X6_isPerson p1)) (As := [.int p1]) (rest := [.ref h0]) ⟨hx, hb, hml, hown, hts⟩ hK hN hP hl.1 ⟨Nat.le_of_ble_eq_true rfl, Nat.le_of_ble_eq_true rfl⟩ (c_X6_isPerson l dC dI cI cB p1) (va_cwS 1 hts gX6_person_X6_isPerson rfl rfl rfl yd_X6_isPerson ⟨Nat.le_of_ble_eq_true rfl, Nat.le_of_ble_eq_true rfl⟩) rfl rfl (Nat.le_of_ble_eq_true rfl) dX6_person_2 ?_
  refine lv_if_ne (tgt := 12) hx hb dX6_person_5 (by decide) (fun c_3 => ?_) (fun c_3 => ?_)
  · rw [if_neg c_3] at eO
    refine lv_iload_n hx hb dX6_person_12 rfl (lv_at hl 2 rfl) ?_
    refine lv_iconst (v := 0) hx hb dX6_person_13 (by decide) ?_
    refine lv_iconst (v := 3) hx hb dX6_person_14 (by decide) ?_
    refine vm_roSx (v := vm_bi (f_X6_within p2 0 3)) (As := [.int p2, .int 0, .int 3]) (rest := [.ref h0]) ⟨hx, hb, hml, hown, hts⟩ hK hN hP hl.1 ⟨Nat.le_of_ble_eq_true rfl, Nat.le_of_ble_eq_true rfl⟩ (c_X6_within l dC dI cI cB p2 0 3) (va_cwS 3 hts gX6_person_X6_within rfl rfl rfl yd_X6_within ⟨Nat.le_of_ble_eq_true rfl, Nat.le_of_ble_eq_true rfl⟩) rfl rfl (Nat.le_of_ble_eq_true rfl) dX6_person_15 ?_
    refine lv_if_eq (tgt := 25) hx hb dX6_person_18 (by decide) (fun c_4 => ?_) (fun c_4 => ?_)
    · rw [if_pos c_4] at eO
      refine lv_iconst (v := 2) hx hb dX6_person_25 (by decide) ?_
      exact hJ26 2 (eF.trans (by rw [f_X6_person, if_neg c_3, if_pos c_4])) eO _ _ hP hD hS ls (lv_sub hl [0, 1, 2] rfl)
    · rw [if_neg c_4] at eO
      refine lv_iconst (v := 0) hx hb dX6_person_21 (by decide) ?_
      refine lv_goto (tgt := 26) hx hb dX6_person_22 (by decide) ?_
      exact hJ26 0 (eF.trans (by rw [f_X6_person, if_neg c_3, if_neg c_4])) eO _ _ hP hD hS ls (lv_sub hl [0, 1, 2] rfl)
  · rw [if_pos c_3] at eO
    refine lv_iconst (v := 1) hx hb dX6_person_8 (by decide) ?_
    refine lv_goto (tgt := 26) hx hb dX6_person_9 (by decide) ?_
    exact hJ26 1 (eF.trans (by rw [f_X6_person, if_pos c_3])) eO _ _ hP hD hS ls (lv_sub hl [0, 1, 2] rfl)

def f_X6_standing_j4 (z : Nat → Int32) : Nat → Int32 → Int32 → Int32
  | 0, _, _ => 0
  | n4 + 1, x1_4, x2_4 => if (z (Int32.toNatClampNeg 3)) ≤ x2_4 then
      x1_4
    else
      f_X6_standing_j4 z n4 (x1_4 + (f_X6_of z x2_4 5)) (x2_4 + 1)
def f_X6_standing (z : Nat → Int32) : Int32 :=
  f_X6_standing_j4 z ((((z (Int32.toNatClampNeg 3))).toInt - ((0 : Int32)).toInt).toNat + 1) 0 0
def o_X6_standing_j4 (z : Nat → Int32) : Nat → Int32 → Int32 → Prop
  | 0, _, _ => True
  | n4 + 1, x1_4, x2_4 => if (z (Int32.toNatClampNeg 3)) ≤ x2_4 then
      True
    else
      o_X6_of z x2_4 5 ∧
      (o_X6_standing_j4 z n4 (x1_4 + (f_X6_of z x2_4 5)) (x2_4 + 1))
def o_X6_standing (z : Nat → Int32) : Prop :=
  o_X6_standing_j4 z ((((z (Int32.toNatClampNeg 3))).toInt - ((0 : Int32)).toInt).toNat + 1) 0 0
theorem yd_X6_standing : yX6_standing.cls = RX6 ∧ yX6_standing.cls ≠ "java/lang/invoke/MethodHandle" ∧ yX6_standing.cls ≠ "java/lang/invoke/VarHandle" ∧ (parseMethodDescriptor yX6_standing.desc).map (fun d => d.parameters.length) = some 0 := by decide +kernel
set_option maxHeartbeats 4000000 in
set_option maxRecDepth 100000 in
theorem c_X6_standing (l : Launch) (dC : Nat → ClassId) (dI : Nat → Nat → Nat) (cI cB : ClassId) (h0 h1 h2 h3 h4 : Nat) (states : Int32) (ln : Int32) (thr : Int32) (rd : Int32) (num : Int32) (due : Int32) (hash : Int64) (z : Nat → Int32) (hi : Nat → Int32) (tx : Nat → Int32) (pa : Nat → Int32) (eO : o_X6_standing z) : Met l yX6_standing wsX6_standing ({ frames := 1, cells := 0, slots := 0, locals := 22 }) (vm_pre [.ref h0] (dC, dI) [(h0, .inr (6, [.ref h1, .int states, .ref h2, .int ln, .ref h3, .int thr, .ref h4, .int rd, .int num, .int due, .long hash])), (h1, .inl (cI, 163, .inl z)), (h2, .inl (cI, 978, .inl hi)), (h3, .inl (cI, 60, .inl tx)), (h4, .inl (cI, 42, .inl pa))] cI cB) (vp_Si (fun r9 : Int32 => r9 = (f_X6_standing z))) 0 0 (fun _ => False) := by
  refine Met.ofW (cc := cX6_standing) (maxL := 3) (ret := (some .int)) (by decide) rfl ?_
  intro p e s m args below meth c s₁ B hml hv
  obtain ⟨rfl, hP, hK, hN⟩ := hv
  have hx := B.exec
  have hb := B.bytes
  have hr := B.returns
  have hts := atoms_spec (ws := wsX6_standing) B.pre
  have hown : s.vm.findClass RX6 = some m.cls := findClass_of_methodNamed B.named
  have hlocks := B.notSynchronized
  have kw1 := hts (.fieldLink RX6 7 "LapseMandatesModel" "z" "[I") (List.mem_of_getElem? (i := 1) rfl)
  have iwsX60 : ∀ w ∈ wsX60, w ∈ wsX6_standing := fun w h => List.mem_cons_of_mem _ (List.mem_append_right _ h)
  generalize hrr : f_X6_standing z = rr
  have eF := hrr.symm
  have hl := lv_entry ([.ref h0]) (n := 3) (Nat.le_of_ble_eq_true rfl)
  rw [lg_entry_eq]
  generalize (lg_sl ([.ref h0]) ++ List.replicate (3 - (lg_sl ([.ref h0])).length) Slot.unset).toArray = ls at hl ⊢
  have hl : lv_has ls 3 [(0, .ref h0)] := hl
  have hJ4 : ∀ (n4 : Nat) (x1_4 : Int32) (x2_4 : Int32), (((z (Int32.toNatClampNeg 3))).toInt - (x2_4).toInt).toNat < n4 → 0 ≤ x2_4 → rr = f_X6_standing_j4 z n4 x1_4 x2_4 → o_X6_standing_j4 z n4 x1_4 x2_4 → ∀ (ls : Array Slot), lv_has ls 3 [(0, .ref h0), (1, .int x1_4), (2, .int x2_4)] → W p l e (headSpec wsX6_standing ({ frames := 1, cells := 0, slots := 0, locals := 22 })).room s m ([.ref h0] : List Value).toArray below meth c s.heap [] 0 0 (MQ below (vp_Si (fun r9 : Int32 => r9 = rr)) ([.ref h0] : List Value).toArray s 0 0 (fun _ => False)) (F0 m 4 ls []) := by
    intro n4
    induction n4 with
    | zero =>
      intro x1_4 x2_4 hm4
      exact absurd hm4 (Nat.not_lt_zero _)
    | succ n4 ih4 =>
      intro x1_4 x2_4 hm4 hi4 eF eO ls hl
      rw [o_X6_standing_j4] at eO
      refine lv_iload_n hx hb dX6_standing_4 rfl (lv_at hl 2 rfl) ?_
      refine lv_aload_n hx hb dX6_standing_5 rfl (lv_at hl 0 rfl) ?_
      refine va_get (D := (dC, dI)) (ci := 6) (v := .ref h1) (C := RX6) (T := TX6) (N := 11) hx hb hts iwsX60 hown hK hP 0 rfl rfl 0 (by decide) kw1 (fun _ h9 => h9) rfl dX6_standing_6 ?_
      refine lv_iconst (v := 3) hx hb dX6_standing_9 (by decide) ?_
      refine va_iald hx hb hK hP 1 0 rfl rfl (by unfold vp_in; decide) dX6_standing_10 ?_
      refine lv_icmp_ge (tgt := 29) hx hb dX6_standing_11 (by decide) (fun cL4 => ?_) (fun cL4 => ?_)
      · rw [if_pos cL4] at eO
        refine lv_iload_n hx hb dX6_standing_29 rfl (lv_at hl 1 rfl) ?_
        have e9 : rr = x1_4 := eF.trans (by rw [f_X6_standing_j4, if_pos cL4])
        exact W.iret (v := x1_4) hx hb hr (fun t ht hW => ⟨_, rfl, e9.symm, ht⟩) (fun _ hq => by cases hq) dX6_standing_30
      · rw [if_neg cL4] at eO
        refine lv_iload_n hx hb dX6_standing_14 rfl (lv_at hl 1 rfl) ?_
        refine lv_aload_n hx hb dX6_standing_15 rfl (lv_at hl 0 rfl) ?_
        refine lv_iload_n hx hb dX6_standing_16 rfl (lv_at hl 2 rfl) ?_
        refine lv_iconst (v := 5) hx hb dX6_standing_17 (by decide) ?_
        obtain ⟨hv_2, eO⟩ := eO
        refine vm_roVx (v := (f_X6_of z x2_4 5)) (As := [.int x2_4, .int 5]) (rest := [.int x1_4]) (T := TX6) (N := 11) (wc := [(h0, .inr (6, [.ref h1, .int states, .ref h2, .int ln, .ref h3, .int thr, .ref h4, .int rd, .int num, .int due, .long hash])), (h1, .inl (cI, 163, .inl z)), (h2, .inl (cI, 978, .inl hi)), (h3, .inl (cI, 60, .inl tx)), (h4, .inl (cI, 42, .inl pa))]) ⟨hx, hb, hml, hown, hts⟩ hK hN hP hl.1 ⟨Nat.le_of_ble_eq_true rfl, Nat.le_of_ble_eq_true rfl⟩ (c_X6_of l dC dI cI cB h0 h1 h2 h3 h4 states ln thr rd num due hash z hi tx pa x2_4 5 hv_2) (cwV 2 hts gX6_standing_X6_of rfl rfl rfl yd_X6_of ⟨Nat.le_of_ble_eq_true rfl, Nat.le_of_ble_eq_true rfl⟩) [0, 1, 2, 3, 4] rfl 6 rfl rfl rfl rfl (Nat.le_of_ble_eq_true rfl) dX6_standing_18 ?_
        refine lv_iadd hx hb dX6_standing_21 ?_
        refine lv_istore_n (lv' := [(1, .int (x1_4 + (f_X6_of z x2_4 5))), (0, .ref h0), (2, .int x2_4)]) hx hb dX6_standing_22 rfl hl (by decide) rfl (fun ls hl => ?_)
        refine lv_iinc (v := (x2_4 + 1)) (lv' := [(2, .int (x2_4 + 1)), (1, .int (x1_4 + (f_X6_of z x2_4 5))), (0, .ref h0)]) hx hb dX6_standing_23 hl (k := 2) rfl rfl (by decide) rfl (fun ls hl => ?_)
        refine lv_goto (tgt := 4) hx hb dX6_standing_26 (by decide) ?_
        exact ih4 (x1_4 + (f_X6_of z x2_4 5)) (x2_4 + 1) (vm_up (vm_nle cL4) hm4) (vm_nn hi4 (vm_nle cL4)) (eF.trans (by rw [f_X6_standing_j4, if_neg cL4])) eO ls (lv_sub hl [2, 1, 0] rfl)
  rw [o_X6_standing] at eO
  refine lv_iconst (v := 0) hx hb dX6_standing_0 (by decide) ?_
  refine lv_istore_n (lv' := [(1, .int 0), (0, .ref h0)]) hx hb dX6_standing_1 rfl hl (by decide) rfl (fun ls hl => ?_)
  refine lv_iconst (v := 0) hx hb dX6_standing_2 (by decide) ?_
  refine lv_istore_n (lv' := [(2, .int 0), (1, .int 0), (0, .ref h0)]) hx hb dX6_standing_3 rfl hl (by decide) rfl (fun ls hl => ?_)
  exact hJ4 ((((z (Int32.toNatClampNeg 3))).toInt - ((0 : Int32)).toInt).toNat + 1) 0 0 (Nat.lt_succ_self _) (by decide) (eF.trans (by rw [f_X6_standing])) eO ls (lv_sub hl [2, 1, 0] rfl)
