def f_X6_counted (states : Int32) (z : Nat → Int32) (p1 : Int32) : Int32 :=
  if p1.toInt < 0 ∨ 11 < p1.toInt then
    (z (Int32.toNatClampNeg p1))
  else
    if p1.toInt = 0 then
      (z (Int32.toNatClampNeg 3))
    else
      if p1.toInt = 1 then
        (f_X6_standing z)
      else
        if p1.toInt = 2 then
          (z (Int32.toNatClampNeg 4))
        else
          if p1.toInt = 3 then
            (z (Int32.toNatClampNeg 2))
          else
            if p1.toInt = 4 then
              ((z (Int32.toNatClampNeg 2)) / 10)
            else
              if p1.toInt = 5 then
                (z (Int32.toNatClampNeg p1))
              else
                if p1.toInt = 6 then
                  (z (Int32.toNatClampNeg p1))
                else
                  if p1.toInt = 7 then
                    (z (Int32.toNatClampNeg p1))
                  else
                    if p1.toInt = 8 then
                      (z (Int32.toNatClampNeg p1))
                    else
                      if p1.toInt = 9 then
                        (z (Int32.toNatClampNeg p1))
                      else
                        if p1.toInt = 10 then
                          (z (Int32.toNatClampNeg p1))
                        else
                          states
def o_X6_counted (states : Int32) (z : Nat → Int32) (p1 : Int32) : Prop :=
  if p1.toInt < 0 ∨ 11 < p1.toInt then
    vp_in p1 163 ∧
    (True)
  else
    if p1.toInt = 0 then
      True
    else
      if p1.toInt = 1 then
        o_X6_standing z ∧
        (True)
      else
        if p1.toInt = 2 then
          True
        else
          if p1.toInt = 3 then
            True
          else
            if p1.toInt = 4 then
              True
            else
              if p1.toInt = 5 then
                vp_in p1 163 ∧
                (True)
              else
                if p1.toInt = 6 then
                  vp_in p1 163 ∧
                  (True)
                else
                  if p1.toInt = 7 then
                    vp_in p1 163 ∧
                    (True)
                  else
                    if p1.toInt = 8 then
                      vp_in p1 163 ∧
                      (True)
                    else
                      if p1.toInt = 9 then
                        vp_in p1 163 ∧
                        (True)
                      else
                        if p1.toInt = 10 then
                          vp_in p1 163 ∧
                          (True)
                        else
                          True
theorem yd_X6_counted : yX6_counted.cls = RX6 ∧ yX6_counted.cls ≠ "java/lang/invoke/MethodHandle" ∧ yX6_counted.cls ≠ "java/lang/invoke/VarHandle" ∧ (parseMethodDescriptor yX6_counted.desc).map (fun d => d.parameters.length) = some 1 := by decide +kernel
set_option maxHeartbeats 4000000 in
set_option maxRecDepth 100000 in
theorem c_X6_counted (l : Launch) (dC : Nat → ClassId) (dI : Nat → Nat → Nat) (cI cB : ClassId) (h0 h1 h2 h3 h4 : Nat) (states : Int32) (ln : Int32) (thr : Int32) (rd : Int32) (num : Int32) (due : Int32) (hash : Int64) (z : Nat → Int32) (hi : Nat → Int32) (tx : Nat → Int32) (pa : Nat → Int32) (p1 : Int32) (eO : o_X6_counted states z p1) : Met l yX6_counted wsX6_counted ({ frames := 2, cells := 0, slots := 0, locals := 44 }) (vm_pre [.ref h0, .int p1] (dC, dI) [(h0, .inr (6, [.ref h1, .int states, .ref h2, .int ln, .ref h3, .int thr, .ref h4, .int rd, .int num, .int due, .long hash])), (h1, .inl (cI, 163, .inl z)), (h2, .inl (cI, 978, .inl hi)), (h3, .inl (cI, 60, .inl tx)), (h4, .inl (cI, 42, .inl pa))] cI cB) (vp_Si (fun r9 : Int32 => r9 = (f_X6_counted states z p1))) 0 0 (fun _ => False) := by
  refine Met.ofW (cc := cX6_counted) (maxL := 2) (ret := (some .int)) (by decide) rfl ?_
  intro p e s m args below meth c s₁ B hml hv
  obtain ⟨rfl, hP, hK, hN⟩ := hv
  have hx := B.exec
  have hb := B.bytes
  have hr := B.returns
  have hts := atoms_spec (ws := wsX6_counted) B.pre
  have hown : s.vm.findClass RX6 = some m.cls := findClass_of_methodNamed B.named
  have hlocks := B.notSynchronized
  have kw1 := hts (.fieldLink RX6 7 "LapseMandatesModel" "z" "[I") (List.mem_of_getElem? (i := 1) rfl)
  have kw2 := hts (.fieldLink RX6 26 "LapseMandatesModel" "states" "I") (List.mem_of_getElem? (i := 2) rfl)
  have iwsX60 : ∀ w ∈ wsX60, w ∈ wsX6_counted := fun w h => List.mem_cons_of_mem _ (List.mem_append_right _ h)
  generalize hrr : f_X6_counted states z p1 = rr
  have eF := hrr.symm
  have hl := lv_entry ([.ref h0, .int p1]) (n := 2) (Nat.le_of_ble_eq_true rfl)
  rw [lg_entry_eq]
  generalize (lg_sl ([.ref h0, .int p1]) ++ List.replicate (2 - (lg_sl ([.ref h0, .int p1])).length) Slot.unset).toArray = ls at hl ⊢
  have hl : lv_has ls 2 [(0, .ref h0), (1, .int p1)] := hl
  rw [o_X6_counted] at eO
  refine lv_iload_n hx hb dX6_counted_0 rfl (lv_at hl 1 rfl) ?_
  by_cases c_1 : p1.toInt < 0 ∨ 11 < p1.toInt
  · rw [if_pos c_1] at eO
    refine lv_tableOut (tgt := 105) hx hb dX6_counted_1 c_1 (by decide) ?_
    refine lv_aload_n hx hb dX6_counted_105 rfl (lv_at hl 0 rfl) ?_
    refine va_get (D := (dC, dI)) (ci := 6) (v := .ref h1) (C := RX6) (T := TX6) (N := 11) hx hb hts iwsX60 hown hK hP 0 rfl rfl 0 (by decide) kw1 (fun _ h9 => h9) rfl dX6_counted_106 ?_
    refine lv_iload_n hx hb dX6_counted_109 rfl (lv_at hl 1 rfl) ?_
    obtain ⟨hv_2, eO⟩ := eO
    refine va_iald hx hb hK hP 1 0 rfl rfl hv_2 dX6_counted_110 ?_
    have e9 : rr = (z (Int32.toNatClampNeg p1)) := eF.trans (by rw [f_X6_counted, if_pos c_1])
    exact W.iret (v := (z (Int32.toNatClampNeg p1))) hx hb hr (fun t ht hW => ⟨_, rfl, e9.symm, ht⟩) (fun _ hq => by cases hq) dX6_counted_111
  · rw [if_neg c_1] at eO
    have c_1_a : ¬ p1.toInt < 0 := fun q => c_1 (Or.inl q)
    have c_1_b : ¬ 11 < p1.toInt := fun q => c_1 (Or.inr q)
    by_cases c_3 : p1.toInt = 0
    · rw [if_pos c_3] at eO
      refine lv_tableIn (off := 63) (tgt := 64) hx hb dX6_counted_1 c_1_a c_1_b (by rw [c_3]; rfl) (by decide) ?_
      refine lv_aload_n hx hb dX6_counted_64 rfl (lv_at hl 0 rfl) ?_
      refine va_get (D := (dC, dI)) (ci := 6) (v := .ref h1) (C := RX6) (T := TX6) (N := 11) hx hb hts iwsX60 hown hK hP 0 rfl rfl 0 (by decide) kw1 (fun _ h9 => h9) rfl dX6_counted_65 ?_
      refine lv_iconst (v := 3) hx hb dX6_counted_68 (by decide) ?_
      refine va_iald hx hb hK hP 1 0 rfl rfl (by unfold vp_in; decide) dX6_counted_69 ?_
      have e9 : rr = (z (Int32.toNatClampNeg 3)) := eF.trans (by rw [f_X6_counted, if_neg c_1, if_pos c_3])
      exact W.iret (v := (z (Int32.toNatClampNeg 3))) hx hb hr (fun t ht hW => ⟨_, rfl, e9.symm, ht⟩) (fun _ hq => by cases hq) dX6_counted_70
    · rw [if_neg c_3] at eO
      by_cases c_4 : p1.toInt = 1
      · rw [if_pos c_4] at eO
        refine lv_tableIn (off := 70) (tgt := 71) hx hb dX6_counted_1 c_1_a c_1_b (by rw [c_4]; rfl) (by decide) ?_
        refine lv_aload_n hx hb dX6_counted_71 rfl (lv_at hl 0 rfl) ?_
        obtain ⟨hv_5, eO⟩ := eO
        refine vm_roVx (v := (f_X6_standing z)) (As := []) (rest := []) (T := TX6) (N := 11) (wc := [(h0, .inr (6, [.ref h1, .int states, .ref h2, .int ln, .ref h3, .int thr, .ref h4, .int rd, .int num, .int due, .long hash])), (h1, .inl (cI, 163, .inl z)), (h2, .inl (cI, 978, .inl hi)), (h3, .inl (cI, 60, .inl tx)), (h4, .inl (cI, 42, .inl pa))]) ⟨hx, hb, hml, hown, hts⟩ hK hN hP hl.1 ⟨Nat.le_of_ble_eq_true rfl, Nat.le_of_ble_eq_true rfl⟩ (c_X6_standing l dC dI cI cB h0 h1 h2 h3 h4 states ln thr rd num due hash z hi tx pa hv_5) (cwV 0 hts gX6_counted_X6_standing rfl rfl rfl yd_X6_standing ⟨Nat.le_of_ble_eq_true rfl, Nat.le_of_ble_eq_true rfl⟩) [0, 1, 2, 3, 4] rfl 6 rfl rfl rfl rfl (Nat.le_of_ble_eq_true rfl) dX6_counted_72 ?_
        have e9 : rr = (f_X6_standing z) := eF.trans (by rw [f_X6_counted, if_neg c_1, if_neg c_3, if_pos c_4])
        exact W.iret (v := (f_X6_standing z)) hx hb hr (fun t ht hW => ⟨_, rfl, e9.symm, ht⟩) (fun _ hq => by cases hq) dX6_counted_75
      · rw [if_neg c_4] at eO
        by_cases c_6 : p1.toInt = 2
        · rw [if_pos c_6] at eO
          refine lv_tableIn (off := 75) (tgt := 76) hx hb dX6_counted_1 c_1_a c_1_b (by rw [c_6]; rfl) (by decide) ?_
          refine lv_aload_n hx hb dX6_counted_76 rfl (lv_at hl 0 rfl) ?_
          refine va_get (D := (dC, dI)) (ci := 6) (v := .ref h1) (C := RX6) (T := TX6) (N := 11) hx hb hts iwsX60 hown hK hP 0 rfl rfl 0 (by decide) kw1 (fun _ h9 => h9) rfl dX6_counted_77 ?_
          refine lv_iconst (v := 4) hx hb dX6_counted_80 (by decide) ?_
          refine va_iald hx hb hK hP 1 0 rfl rfl (by unfold vp_in; decide) dX6_counted_81 ?_
          have e9 : rr = (z (Int32.toNatClampNeg 4)) := eF.trans (by rw [f_X6_counted, if_neg c_1, if_neg c_3, if_neg c_4, if_pos c_6])
          exact W.iret (v := (z (Int32.toNatClampNeg 4))) hx hb hr (fun t ht hW => ⟨_, rfl, e9.symm, ht⟩) (fun _ hq => by cases hq) dX6_counted_82
        · rw [if_neg c_6] at eO
          by_cases c_7 : p1.toInt = 3
          · rw [if_pos c_7] at eO
            refine lv_tableIn (off := 82) (tgt := 83) hx hb dX6_counted_1 c_1_a c_1_b (by rw [c_7]; rfl) (by decide) ?_
            refine lv_aload_n hx hb dX6_counted_83 rfl (lv_at hl 0 rfl) ?_
            refine va_get (D := (dC, dI)) (ci := 6) (v := .ref h1) (C := RX6) (T := TX6) (N := 11) hx hb hts iwsX60 hown hK hP 0 rfl rfl 0 (by decide) kw1 (fun _ h9 => h9) rfl dX6_counted_84 ?_
            refine lv_iconst (v := 2) hx hb dX6_counted_87 (by decide) ?_
            refine va_iald hx hb hK hP 1 0 rfl rfl (by unfold vp_in; decide) dX6_counted_88 ?_
            have e9 : rr = (z (Int32.toNatClampNeg 2)) := eF.trans (by rw [f_X6_counted, if_neg c_1, if_neg c_3, if_neg c_4, if_neg c_6, if_pos c_7])
            exact W.iret (v := (z (Int32.toNatClampNeg 2))) hx hb hr (fun t ht hW => ⟨_, rfl, e9.symm, ht⟩) (fun _ hq => by cases hq) dX6_counted_89
          · rw [if_neg c_7] at eO
            by_cases c_8 : p1.toInt = 4
            · rw [if_pos c_8] at eO
              refine lv_tableIn (off := 89) (tgt := 90) hx hb dX6_counted_1 c_1_a c_1_b (by rw [c_8]; rfl) (by decide) ?_
              refine lv_aload_n hx hb dX6_counted_90 rfl (lv_at hl 0 rfl) ?_
              refine va_get (D := (dC, dI)) (ci := 6) (v := .ref h1) (C := RX6) (T := TX6) (N := 11) hx hb hts iwsX60 hown hK hP 0 rfl rfl 0 (by decide) kw1 (fun _ h9 => h9) rfl dX6_counted_91 ?_
              refine lv_iconst (v := 2) hx hb dX6_counted_94 (by decide) ?_
              refine va_iald hx hb hK hP 1 0 rfl rfl (by unfold vp_in; decide) dX6_counted_95 ?_
              refine lv_bipush (v := 10) hx hb dX6_counted_96 (by decide) ?_
              refine lv_idiv hx hb dX6_counted_98 (by decide) ?_
              have e9 : rr = ((z (Int32.toNatClampNeg 2)) / 10) := eF.trans (by rw [f_X6_counted, if_neg c_1, if_neg c_3, if_neg c_4, if_neg c_6, if_neg c_7, if_pos c_8])
              exact W.iret (v := ((z (Int32.toNatClampNeg 2)) / 10)) hx hb hr (fun t ht hW => ⟨_, rfl, e9.symm, ht⟩) (fun _ hq => by cases hq) dX6_counted_99
            · rw [if_neg c_8] at eO
              by_cases c_9 : p1.toInt = 5
              · rw [if_pos c_9] at eO
                refine lv_tableIn (off := 104) (tgt := 105) hx hb dX6_counted_1 c_1_a c_1_b (by rw [c_9]; rfl) (by decide) ?_
                refine lv_aload_n hx hb dX6_counted_105 rfl (lv_at hl 0 rfl) ?_
                refine va_get (D := (dC, dI)) (ci := 6) (v := .ref h1) (C := RX6) (T := TX6) (N := 11) hx hb hts iwsX60 hown hK hP 0 rfl rfl 0 (by decide) kw1 (fun _ h9 => h9) rfl dX6_counted_106 ?_
                refine lv_iload_n hx hb dX6_counted_109 rfl (lv_at hl 1 rfl) ?_
                obtain ⟨hv_10, eO⟩ := eO
                refine va_iald hx hb hK hP 1 0 rfl rfl hv_10 dX6_counted_110 ?_
                have e9 : rr = (z (Int32.toNatClampNeg p1)) := eF.trans (by rw [f_X6_counted, if_neg c_1, if_neg c_3, if_neg c_4, if_neg c_6, if_neg c_7, if_neg c_8, if_pos c_9])
                exact W.iret (v := (z (Int32.toNatClampNeg p1))) hx hb hr (fun t ht hW => ⟨_, rfl, e9.symm, ht⟩) (fun _ hq => by cases hq) dX6_counted_111
              · rw [if_neg c_9] at eO
                by_cases c_11 : p1.toInt = 6
                · rw [if_pos c_11] at eO
                  refine lv_tableIn (off := 104) (tgt := 105) hx hb dX6_counted_1 c_1_a c_1_b (by rw [c_11]; rfl) (by decide) ?_
                  refine lv_aload_n hx hb dX6_counted_105 rfl (lv_at hl 0 rfl) ?_
                  refine va_get (D := (dC, dI)) (ci := 6) (v := .ref h1) (C := RX6) (T := TX6) (N := 11) hx hb hts iwsX60 hown hK hP 0 rfl rfl 0 (by decide) kw1 (fun _ h9 => h9) rfl dX6_counted_106 ?_
                  refine lv_iload_n hx hb dX6_counted_109 rfl (lv_at hl 1 rfl) ?_
                  obtain ⟨hv_12, eO⟩ := eO
                  refine va_iald hx hb hK hP 1 0 rfl rfl hv_12 dX6_counted_110 ?_
                  have e9 : rr = (z (Int32.toNatClampNeg p1)) := eF.trans (by rw [f_X6_counted, if_neg c_1, if_neg c_3, if_neg c_4, if_neg c_6, if_neg c_7, if_neg c_8, if_neg c_9, if_pos c_11])
                  exact W.iret (v := (z (Int32.toNatClampNeg p1))) hx hb hr (fun t ht hW => ⟨_, rfl, e9.symm, ht⟩) (fun _ hq => by cases hq) dX6_counted_111
                · rw [if_neg c_11] at eO
                  by_cases c_13 : p1.toInt = 7
                  · rw [if_pos c_13] at eO
                    refine lv_tableIn (off := 104) (tgt := 105) hx hb dX6_counted_1 c_1_a c_1_b (by rw [c_13]; rfl) (by decide) ?_
                    refine lv_aload_n hx hb dX6_counted_105 rfl (lv_at hl 0 rfl) ?_
                    refine va_get (D := (dC, dI)) (ci := 6) (v := .ref h1) (C := RX6) (T := TX6) (N := 11) hx hb hts iwsX60 hown hK hP 0 rfl rfl 0 (by decide) kw1 (fun _ h9 => h9) rfl dX6_counted_106 ?_
                    refine lv_iload_n hx hb dX6_counted_109 rfl (lv_at hl 1 rfl) ?_
                    obtain ⟨hv_14, eO⟩ := eO
                    refine va_iald hx hb hK hP 1 0 rfl rfl hv_14 dX6_counted_110 ?_
                    have e9 : rr = (z (Int32.toNatClampNeg p1)) := eF.trans (by rw [f_X6_counted, if_neg c_1, if_neg c_3, if_neg c_4, if_neg c_6, if_neg c_7, if_neg c_8, if_neg c_9, if_neg c_11, if_pos c_13])
                    exact W.iret (v := (z (Int32.toNatClampNeg p1))) hx hb hr (fun t ht hW => ⟨_, rfl, e9.symm, ht⟩) (fun _ hq => by cases hq) dX6_counted_111
                  · rw [if_neg c_13] at eO
                    by_cases c_15 : p1.toInt = 8
                    · rw [if_pos c_15] at eO
                      refine lv_tableIn (off := 104) (tgt := 105) hx hb dX6_counted_1 c_1_a c_1_b (by rw [c_15]; rfl) (by decide) ?_
                      refine lv_aload_n hx hb dX6_counted_105 rfl (lv_at hl 0 rfl) ?_
                      refine va_get (D := (dC, dI)) (ci := 6) (v := .ref h1) (C := RX6) (T := TX6) (N := 11) hx hb hts iwsX60 hown hK hP 0 rfl rfl 0 (by decide) kw1 (fun _ h9 => h9) rfl dX6_counted_106 ?_
                      refine lv_iload_n hx hb dX6_counted_109 rfl (lv_at hl 1 rfl) ?_
                      obtain ⟨hv_16, eO⟩ := eO
                      refine va_iald hx hb hK hP 1 0 rfl rfl hv_16 dX6_counted_110 ?_
                      have e9 : rr = (z (Int32.toNatClampNeg p1)) := eF.trans (by rw [f_X6_counted, if_neg c_1, if_neg c_3, if_neg c_4, if_neg c_6, if_neg c_7, if_neg c_8, if_neg c_9, if_neg c_11, if_neg c_13, if_pos c_15])
                      exact W.iret (v := (z (Int32.toNatClampNeg p1))) hx hb hr (fun t ht hW => ⟨_, rfl, e9.symm, ht⟩) (fun _ hq => by cases hq) dX6_counted_111
                    · rw [if_neg c_15] at eO
                      by_cases c_17 : p1.toInt = 9
                      · rw [if_pos c_17] at eO
                        refine lv_tableIn (off := 104) (tgt := 105) hx hb dX6_counted_1 c_1_a c_1_b (by rw [c_17]; rfl) (by decide) ?_
                        refine lv_aload_n hx hb dX6_counted_105 rfl (lv_at hl 0 rfl) ?_
                        refine va_get (D := (dC, dI)) (ci := 6) (v := .ref h1) (C := RX6) (T := TX6) (N := 11) hx hb hts iwsX60 hown hK hP 0 rfl rfl 0 (by decide) kw1 (fun _ h9 => h9) rfl dX6_counted_106 ?_
                        refine lv_iload_n hx hb dX6_counted_109 rfl (lv_at hl 1 rfl) ?_
                        obtain ⟨hv_18, eO⟩ := eO
                        refine va_iald hx hb hK hP 1 0 rfl rfl hv_18 dX6_counted_110 ?_
                        have e9 : rr = (z (Int32.toNatClampNeg p1)) := eF.trans (by rw [f_X6_counted, if_neg c_1, if_neg c_3, if_neg c_4, if_neg c_6, if_neg c_7, if_neg c_8, if_neg c_9, if_neg c_11, if_neg c_13, if_neg c_15, if_pos c_17])
                        exact W.iret (v := (z (Int32.toNatClampNeg p1))) hx hb hr (fun t ht hW => ⟨_, rfl, e9.symm, ht⟩) (fun _ hq => by cases hq) dX6_counted_111
                      · rw [if_neg c_17] at eO
                        by_cases c_19 : p1.toInt = 10
                        · rw [if_pos c_19] at eO
                          refine lv_tableIn (off := 104) (tgt := 105) hx hb dX6_counted_1 c_1_a c_1_b (by rw [c_19]; rfl) (by decide) ?_
                          refine lv_aload_n hx hb dX6_counted_105 rfl (lv_at hl 0 rfl) ?_
                          refine va_get (D := (dC, dI)) (ci := 6) (v := .ref h1) (C := RX6) (T := TX6) (N := 11) hx hb hts iwsX60 hown hK hP 0 rfl rfl 0 (by decide) kw1 (fun _ h9 => h9) rfl dX6_counted_106 ?_
                          refine lv_iload_n hx hb dX6_counted_109 rfl (lv_at hl 1 rfl) ?_
                          obtain ⟨hv_20, eO⟩ := eO
                          refine va_iald hx hb hK hP 1 0 rfl rfl hv_20 dX6_counted_110 ?_
                          have e9 : rr = (z (Int32.toNatClampNeg p1)) := eF.trans (by rw [f_X6_counted, if_neg c_1, if_neg c_3, if_neg c_4, if_neg c_6, if_neg c_7, if_neg c_8, if_neg c_9, if_neg c_11, if_neg c_13, if_neg c_15, if_neg c_17, if_pos c_19])
                          exact W.iret (v := (z (Int32.toNatClampNeg p1))) hx hb hr (fun t ht hW => ⟨_, rfl, e9.symm, ht⟩) (fun _ hq => by cases hq) dX6_counted_111
                        · rw [if_neg c_19] at eO
                          have c_21 : p1.toInt = 11 := by omega
                          refine lv_tableIn (off := 99) (tgt := 100) hx hb dX6_counted_1 c_1_a c_1_b (by rw [c_21]; rfl) (by decide) ?_
                          refine lv_aload_n hx hb dX6_counted_100 rfl (lv_at hl 0 rfl) ?_
                          refine va_get (D := (dC, dI)) (ci := 6) (v := .int states) (C := RX6) (T := TX6) (N := 11) hx hb hts iwsX60 hown hK hP 0 rfl rfl 1 (by decide) kw2 (fun _ h9 => h9) rfl dX6_counted_101 ?_
                          have e9 : rr = states := eF.trans (by rw [f_X6_counted, if_neg c_1, if_neg c_3, if_neg c_4, if_neg c_6, if_neg c_7, if_neg c_8, if_neg c_9, if_neg c_11, if_neg c_13, if_neg c_15, if_neg c_17, if_neg c_19])
                          exact W.iret (v := states) hx hb hr (fun t ht hW => ⟨_, rfl, e9.symm, ht⟩) (fun _ hq => by cases hq) dX6_counted_104

def f_X6_count_j16 (states : Int32) (z : Nat → Int32) (p1 : Int32) (s0_16 : Bool) : Int32 × Int32 :=
  if (vm_bi s0_16) ≤ 0 then
    ((f_X6_counted states z p1), vm_bi s0_16)
  else
    (0, vm_bi s0_16)
def f_X6_count (states : Int32) (z : Nat → Int32) (p1 : Int32) : Int32 × Int32 :=
  if (vm_bi (f_X6_within p1 0 11)) = 0 then
    f_X6_count_j16 states z p1 true
  else
    f_X6_count_j16 states z p1 false
def o_X6_count_j16 (states : Int32) (z : Nat → Int32) (p1 : Int32) (s0_16 : Bool) : Prop :=
  if (vm_bi s0_16) ≤ 0 then
    o_X6_counted states z p1 ∧
    (True)
  else
    True
def o_X6_count (states : Int32) (z : Nat → Int32) (p1 : Int32) : Prop :=
  if (vm_bi (f_X6_within p1 0 11)) = 0 then
    o_X6_count_j16 states z p1 true
  else
    o_X6_count_j16 states z p1 false
theorem yd_X6_count : yX6_count.cls = RX6 ∧ yX6_count.cls ≠ "java/lang/invoke/MethodHandle" ∧ yX6_count.cls ≠ "java/lang/invoke/VarHandle" ∧ (parseMethodDescriptor yX6_count.desc).map (fun d => d.parameters.length) = some 1 := by decide +kernel
set_option maxHeartbeats 4000000 in
set_option maxRecDepth 100000 in
theorem c_X6_count (l : Launch) (dC : Nat → ClassId) (dI : Nat → Nat → Nat) (cI cB : ClassId) (h0 h1 h2 h3 h4 : Nat) (sz : Nat) (states : Int32) (ln : Int32) (thr : Int32) (rd : Int32) (num : Int32) (due : Int32) (hash : Int64) (z : Nat → Int32) (hi : Nat → Int32) (tx : Nat → Int32) (pa : Nat → Int32) (p1 : Int32) (eO : o_X6_count states z p1) : Met l yX6_count wsX6_count ({ frames := 3, cells := 0, slots := 0, locals := 65 }) (vm_prw [.ref h0, .int p1] (dC, dI) [(h0, .inr (6, [.ref h1, .int states, .ref h2, .int ln, .ref h3, .int thr, .ref h4, .int rd, .int num, .int due, .long hash])), (h1, .inl (cI, 163, .inl z)), (h2, .inl (cI, 978, .inl hi)), (h3, .inl (cI, 60, .inl tx)), (h4, .inl (cI, 42, .inl pa))] cI cB sz) (va_Qi (fun (r9 : Int32) (_ : Unit) => r9 = (f_X6_count states z p1).1) (fun _ t => va_P (dC, dI) vwCl [(h0, .inr (6, [.ref h1, .int states, .ref h2, .int ln, .ref h3, .int ((f_X6_count states z p1).2), .ref h4, .int rd, .int num, .int due, .long hash])), (h1, .inl (cI, 163, .inl z)), (h2, .inl (cI, 978, .inl hi)), (h3, .inl (cI, 60, .inl tx)), (h4, .inl (cI, 42, .inl pa))] t.heap) (va_A [(h0, .inr (6, [.ref h1, .int states, .ref h2, .int ln, .ref h3, .int thr, .ref h4, .int rd, .int num, .int due, .long hash])), (h1, .inl (cI, 163, .inl z)), (h2, .inl (cI, 978, .inl hi)), (h3, .inl (cI, 60, .inl tx)), (h4, .inl (cI, 42, .inl pa))] sz)) 0 0 (va_A [(h0, .inr (6, [.ref h1, .int states, .ref h2, .int ln, .ref h3, .int thr, .ref h4, .int rd, .int num, .int due, .long hash])), (h1, .inl (cI, 163, .inl z)), (h2, .inl (cI, 978, .inl hi)), (h3, .inl (cI, 60, .inl tx)), (h4, .inl (cI, 42, .inl pa))] sz) := by
  refine Met.ofW (cc := cX6_count) (maxL := 2) (ret := (some .int)) (by decide) rfl ?_
  intro p e s m args below meth c s₁ B hml hv
  obtain ⟨rfl, hsz, hP, hK, hN, hD0⟩ := hv
  have hx := B.exec
  have hb := B.bytes
  have hr := B.returns
  have hts := atoms_spec (ws := wsX6_count) B.pre
  have hown : s.vm.findClass RX6 = some m.cls := findClass_of_methodNamed B.named
  have hlocks := B.notSynchronized
  subst hsz
  have hD := hD0.self (sz := s.heap.size)
  generalize hAe : va_A [(h0, .inr (6, [.ref h1, .int states, .ref h2, .int ln, .ref h3, .int thr, .ref h4, .int rd, .int num, .int due, .long hash])), (h1, .inl (cI, 163, .inl z)), (h2, .inl (cI, 978, .inl hi)), (h3, .inl (cI, 60, .inl tx)), (h4, .inl (cI, 42, .inl pa))] s.heap.size = A at hD ⊢
  have hA : ∀ q : Nat, s.heap.size ≤ q → A q := fun q h => by rw [← hAe]; exact Or.inr h
  have hS : va_S A s.heap s.heap [] := va_S.rf
  have hP : va_P (dC, dI) vwCl [(h0, .inr (6, [.ref h1, .int states, .ref h2, .int ln, .ref h3, .int thr, .ref h4, .int rd, .int num, .int due, .long hash])), (h1, .inl (cI, 163, .inl z)), (h2, .inl (cI, 978, .inl hi)), (h3, .inl (cI, 60, .inl tx)), (h4, .inl (cI, 42, .inl pa))] s.heap := hP
  have kw1 := hts (.fieldLink RX6 22 "LapseMandatesModel" "thrown" "I") (List.mem_of_getElem? (i := 1) rfl)
  have iwsX60 : ∀ w ∈ wsX60, w ∈ wsX6_count := fun w h => List.mem_cons_of_mem _ (List.mem_append_right _ h)
  generalize hrr : f_X6_count states z p1 = rr
  have eF := hrr.symm
  have hl := lv_entry ([.ref h0, .int p1]) (n := 2) (Nat.le_of_ble_eq_true rfl)
  rw [lg_entry_eq]
  generalize (lg_sl ([.ref h0, .int p1]) ++ List.replicate (2 - (lg_sl ([.ref h0, .int p1])).length) Slot.unset).toArray = ls at hl ⊢
  have hl : lv_has ls 2 [(0, .ref h0), (1, .int p1)] := hl
  have hJ16 : ∀ (s0_16 : Bool), rr = f_X6_count_j16 states z p1 s0_16 → o_X6_count_j16 states z p1 s0_16 → ∀ (H : Heap) (locs : List Loc), va_P (dC, dI) vwCl [(h0, .inr (6, [.ref h1, .int states, .ref h2, .int ln, .ref h3, .int thr, .ref h4, .int rd, .int num, .int due, .long hash])), (h1, .inl (cI, 163, .inl z)), (h2, .inl (cI, 978, .inl hi)), (h3, .inl (cI, 60, .inl tx)), (h4, .inl (cI, 42, .inl pa))] H → va_D A [(h0, .inr (6, [.ref h1, .int states, .ref h2, .int ln, .ref h3, .int thr, .ref h4, .int rd, .int num, .int due, .long hash])), (h1, .inl (cI, 163, .inl z)), (h2, .inl (cI, 978, .inl hi)), (h3, .inl (cI, 60, .inl tx)), (h4, .inl (cI, 42, .inl pa))] → va_S A s.heap H locs → ∀ (ls : Array Slot), lv_has ls 2 [(0, .ref h0), (1, .int p1)] → W p l e (headSpec wsX6_count ({ frames := 3, cells := 0, slots := 0, locals := 65 })).room s m ([.ref h0, .int p1] : List Value).toArray below meth c H locs 0 0 (MQ below (va_Qi (fun (r9 : Int32) (_ : Unit) => r9 = rr.1) (fun _ t => va_P (dC, dI) vwCl [(h0, .inr (6, [.ref h1, .int states, .ref h2, .int ln, .ref h3, .int rr.2, .ref h4, .int rd, .int num, .int due, .long hash])), (h1, .inl (cI, 163, .inl z)), (h2, .inl (cI, 978, .inl hi)), (h3, .inl (cI, 60, .inl tx)), (h4, .inl (cI, 42, .inl pa))] t.heap) A) ([.ref h0, .int p1] : List Value).toArray s 0 0 A) (F0 m 16 ls [.int (vm_bi s0_16), .ref h0]) := by
    intro s0_16 eF eO H locs hP hD hS ls hl
    rw [o_X6_count_j16] at eO
    refine va_put (D := (dC, dI)) (ci := 6) (v := .int (vm_bi s0_16)) (ty := .int) (C := RX6) (T := TX6) (N := 11) hx hb hts iwsX60 tyX6 tyX6_ok nmX6 hown hK hP hD hS 0 rfl rfl 5 (by decide) kw1 (fun _ h9 => h9) rfl (by decide +kernel) rfl rfl (Nat.le_of_ble_eq_true rfl) dX6_count_16 (fun H locs hP hD hS => ?_)
    have hP : va_P (dC, dI) vwCl [(h0, .inr (6, [.ref h1, .int states, .ref h2, .int ln, .ref h3, .int (vm_bi s0_16), .ref h4, .int rd, .int num, .int due, .long hash])), (h1, .inl (cI, 163, .inl z)), (h2, .inl (cI, 978, .inl hi)), (h3, .inl (cI, 60, .inl tx)), (h4, .inl (cI, 42, .inl pa))] H := hP
    have hD : va_D A [(h0, .inr (6, [.ref h1, .int states, .ref h2, .int ln, .ref h3, .int (vm_bi s0_16), .ref h4, .int rd, .int num, .int due, .long hash])), (h1, .inl (cI, 163, .inl z)), (h2, .inl (cI, 978, .inl hi)), (h3, .inl (cI, 60, .inl tx)), (h4, .inl (cI, 42, .inl pa))] := hD
    refine lv_aload_n hx hb dX6_count_19 rfl (lv_at hl 0 rfl) ?_
    refine va_get (D := (dC, dI)) (ci := 6) (v := .int (vm_bi s0_16)) (C := RX6) (T := TX6) (N := 11) hx hb hts iwsX60 hown hK hP 0 rfl rfl 5 (by decide) kw1 (fun _ h9 => h9) rfl dX6_count_20 ?_
    refine lv_if_le (tgt := 30) hx hb dX6_count_23 (by decide) (fun c_1 => ?_) (fun c_1 => ?_)
    · rw [if_pos c_1] at eO
      refine lv_aload_n hx hb dX6_count_30 rfl (lv_at hl 0 rfl) ?_
      refine lv_iload_n hx hb dX6_count_31 rfl (lv_at hl 1 rfl) ?_
      obtain ⟨hv_2, eO⟩ := eO
      refine vm_roVx (v := (f_X6_counted states z p1)) (As := [.int p1]) (rest := []) (T := TX6) (N := 11) (wc := [(h0, .inr (6, [.ref h1, .int states, .ref h2, .int ln, .ref h3, .int (vm_bi s0_16), .ref h4, .int rd, .int num, .int due, .long hash])), (h1, .inl (cI, 163, .inl z)), (h2, .inl (cI, 978, .inl hi)), (h3, .inl (cI, 60, .inl tx)), (h4, .inl (cI, 42, .inl pa))]) ⟨hx, hb, hml, hown, hts⟩ hK hN hP hl.1 ⟨Nat.le_of_ble_eq_true rfl, Nat.le_of_ble_eq_true rfl⟩ (c_X6_counted l dC dI cI cB h0 h1 h2 h3 h4 states ln (vm_bi s0_16) rd num due hash z hi tx pa p1 hv_2) (cwV 1 hts gX6_count_X6_counted rfl rfl rfl yd_X6_counted ⟨Nat.le_of_ble_eq_true rfl, Nat.le_of_ble_eq_true rfl⟩) [0, 1, 2, 3, 4] rfl 6 rfl rfl rfl rfl (Nat.le_of_ble_eq_true rfl) dX6_count_32 ?_
      have e9 : rr = (((f_X6_counted states z p1), vm_bi s0_16) : Int32 × Int32) := eF.trans (by rw [f_X6_count_j16, if_pos c_1])
      exact W.iret (v := (f_X6_counted states z p1)) hx hb hr (fun t ht hW => ⟨⟨_, (), rfl, by rw [e9], (by rw [e9]; show va_P _ _ _ t.heap; rw [ht]; exact hP)⟩, hS.F ht⟩) hS.2.2 dX6_count_35
    · rw [if_neg c_1] at eO
      refine lv_iconst (v := 0) hx hb dX6_count_26 (by decide) ?_
      refine lv_goto (tgt := 35) hx hb dX6_count_27 (by decide) ?_
      have e9 : rr = ((0, vm_bi s0_16) : Int32 × Int32) := eF.trans (by rw [f_X6_count_j16, if_neg c_1])
      exact W.iret (v := 0) hx hb hr (fun t ht hW => ⟨⟨_, (), rfl, by rw [e9], (by rw [e9]; show va_P _ _ _ t.heap; rw [ht]; exact hP)⟩, hS.F ht⟩) hS.2.2 dX6_count_35
  rw [o_X6_count] at eO
  refine lv_aload_n hx hb dX6_count_0 rfl (lv_at hl 0 rfl) ?_
  refine lv_iload_n hx hb dX6_count_1 rfl (lv_at hl 1 rfl) ?_
  refine lv_iconst (v := 0) hx hb dX6_count_2 (by decide) ?_
  refine lv_bipush (v := 11) hx hb dX6_count_3 (by decide) ?_
  refine vm_roSx (v := vm_bi (f_X6_within p1 0 11)) (As := [.int p1, .int 0, .int 11]) (rest := [.ref h0]) ⟨hx, hb, hml, hown, hts⟩ hK hN hP hl.1 ⟨Nat.le_of_ble_eq_true rfl, Nat.le_of_ble_eq_true rfl⟩ (c_X6_within l dC dI cI cB p1 0 11) (va_cwS 3 hts gX6_count_X6_within rfl rfl rfl yd_X6_within ⟨Nat.le_of_ble_eq_true rfl, Nat.le_of_ble_eq_true rfl⟩) rfl rfl (Nat.le_of_ble_eq_true rfl) dX6_count_5 ?_
  refine lv_if_eq (tgt := 15) hx hb dX6_count_8 (by decide) (fun c_3 => ?_) (fun c_3 => ?_)
  · rw [if_pos c_3] at eO
    refine lv_iconst (v := 1) hx hb dX6_count_15 (by decide) ?_
    exact hJ16 true (eF.trans (by rw [f_X6_count, if_pos c_3])) eO _ _ hP hD hS ls (lv_sub hl [0, 1] rfl)
  · rw [if_neg c_3] at eO
    refine lv_iconst (v := 0) hx hb dX6_count_11 (by decide) ?_
    refine lv_goto (tgt := 16) hx hb dX6_count_12 (by decide) ?_
    exact hJ16 false (eF.trans (by rw [f_X6_count, if_neg c_3])) eO _ _ hP hD hS ls (lv_sub hl [0, 1] rfl)

def f_X6_setting_j13 (z : Nat → Int32) (p1 : Int32) (s0_13 : Bool) : Int32 × Int32 :=
  if (vm_bi s0_13) ≤ 0 then
    ((z (Int32.toNatClampNeg p1)), vm_bi s0_13)
  else
    (0, vm_bi s0_13)
def f_X6_setting (z : Nat → Int32) (p1 : Int32) : Int32 × Int32 :=
  if (vm_bi (f_X6_isSetting p1)) = 0 then
    f_X6_setting_j13 z p1 true
  else
    f_X6_setting_j13 z p1 false
def o_X6_setting_j13 (z : Nat → Int32) (p1 : Int32) (s0_13 : Bool) : Prop :=
  if (vm_bi s0_13) ≤ 0 then
    vp_in p1 163 ∧
    (True)
  else
    True
def o_X6_setting (z : Nat → Int32) (p1 : Int32) : Prop :=
  if (vm_bi (f_X6_isSetting p1)) = 0 then
    o_X6_setting_j13 z p1 true
  else
    o_X6_setting_j13 z p1 false
theorem yd_X6_setting : yX6_setting.cls = RX6 ∧ yX6_setting.cls ≠ "java/lang/invoke/MethodHandle" ∧ yX6_setting.cls ≠ "java/lang/invoke/VarHandle" ∧ (parseMethodDescriptor yX6_setting.desc).map (fun d => d.parameters.length) = some 1 := by decide +kernel
set_option maxHeartbeats 4000000 in
set_option maxRecDepth 100000 in
theorem c_X6_setting (l : Launch) (dC : Nat → ClassId) (dI : Nat → Nat → Nat) (cI cB : ClassId) (h0 h1 h2 h3 h4 : Nat) (sz : Nat) (states : Int32) (ln : Int32) (thr : Int32) (rd : Int32) (num : Int32) (due : Int32) (hash : Int64) (z : Nat → Int32) (hi : Nat → Int32) (tx : Nat → Int32) (pa : Nat → Int32) (p1 : Int32) (eO : o_X6_setting z p1) : Met l yX6_setting wsX6_setting ({ frames := 2, cells := 0, slots := 0, locals := 42 }) (vm_prw [.ref h0, .int p1] (dC, dI) [(h0, .inr (6, [.ref h1, .int states, .ref h2, .int ln, .ref h3, .int thr, .ref h4, .int rd, .int num, .int due, .long hash])), (h1, .inl (cI, 163, .inl z)), (h2, .inl (cI, 978, .inl hi)), (h3, .inl (cI, 60, .inl tx)), (h4, .inl (cI, 42, .inl pa))] cI cB sz) (va_Qi (fun (r9 : Int32) (_ : Unit) => r9 = (f_X6_setting z p1).1) (fun _ t => va_P (dC, dI) vwCl [(h0, .inr (6, [.ref h1, .int states, .ref h2, .int ln, .ref h3, .int ((f_X6_setting z p1).2), .ref h4, .int rd, .int num, .int due, .long hash])), (h1, .inl (cI, 163, .inl z)), (h2, .inl (cI, 978, .inl hi)), (h3, .inl (cI, 60, .inl tx)), (h4, .inl (cI, 42, .inl pa))] t.heap) (va_A [(h0, .inr (6, [.ref h1, .int states, .ref h2, .int ln, .ref h3, .int thr, .ref h4, .int rd, .int num, .int due, .long hash])), (h1, .inl (cI, 163, .inl z)), (h2, .inl (cI, 978, .inl hi)), (h3, .inl (cI, 60, .inl tx)), (h4, .inl (cI, 42, .inl pa))] sz)) 0 0 (va_A [(h0, .inr (6, [.ref h1, .int states, .ref h2, .int ln, .ref h3, .int thr, .ref h4, .int rd, .int num, .int due, .long hash])), (h1, .inl (cI, 163, .inl z)), (h2, .inl (cI, 978, .inl hi)), (h3, .inl (cI, 60, .inl tx)), (h4, .inl (cI, 42, .inl pa))] sz) := by
  refine Met.ofW (cc := cX6_setting) (maxL := 2) (ret := (some .int)) (by decide) rfl ?_
  intro p e s m args below meth c s₁ B hml hv
  obtain ⟨rfl, hsz, hP, hK, hN, hD0⟩ := hv
  have hx := B.exec
  have hb := B.bytes
  have hr := B.returns
  have hts := atoms_spec (ws := wsX6_setting) B.pre
  have hown : s.vm.findClass RX6 = some m.cls := findClass_of_methodNamed B.named
  have hlocks := B.notSynchronized
  subst hsz
  have hD := hD0.self (sz := s.heap.size)
  generalize hAe : va_A [(h0, .inr (6, [.ref h1, .int states, .ref h2, .int ln, .ref h3, .int thr, .ref h4, .int rd, .int num, .int due, .long hash])), (h1, .inl (cI, 163, .inl z)), (h2, .inl (cI, 978, .inl hi)), (h3, .inl (cI, 60, .inl tx)), (h4, .inl (cI, 42, .inl pa))] s.heap.size = A at hD ⊢
  have hA : ∀ q : Nat, s.heap.size ≤ q → A q := fun q h => by rw [← hAe]; exact Or.inr h
  have hS : va_S A s.heap s.heap [] := va_S.rf
  have hP : va_P (dC, dI) vwCl [(h0, .inr (6, [.ref h1, .int states, .ref h2, .int ln, .ref h3, .int thr, .ref h4, .int rd, .int num, .int due, .long hash])), (h1, .inl (cI, 163, .inl z)), (h2, .inl (cI, 978, .inl hi)), (h3, .inl (cI, 60, .inl tx)), (h4, .inl (cI, 42, .inl pa))] s.heap := hP
  have kw1 := hts (.fieldLink RX6 22 "LapseMandatesModel" "thrown" "I") (List.mem_of_getElem? (i := 1) rfl)
  have kw2 := hts (.fieldLink RX6 7 "LapseMandatesModel" "z" "[I") (List.mem_of_getElem? (i := 2) rfl)
  have iwsX60 : ∀ w ∈ wsX60, w ∈ wsX6_setting := fun w h => List.mem_cons_of_mem _ (List.mem_append_right _ h)
  generalize hrr : f_X6_setting z p1 = rr
  have eF := hrr.symm
  have hl := lv_entry ([.ref h0, .int p1]) (n := 2) (Nat.le_of_ble_eq_true rfl)
  rw [lg_entry_eq]
  generalize (lg_sl ([.ref h0, .int p1]) ++ List.replicate (2 - (lg_sl ([.ref h0, .int p1])).length) Slot.unset).toArray = ls at hl ⊢
  have hl : lv_has ls 2 [(0, .ref h0), (1, .int p1)] := hl
  have hJ13 : ∀ (s0_13 : Bool), rr = f_X6_setting_j13 z p1 s0_13 → o_X6_setting_j13 z p1 s0_13 → ∀ (H : Heap) (locs : List Loc), va_P (dC, dI) vwCl [(h0, .inr (6, [.ref h1, .int states, .ref h2, .int ln, .ref h3, .int thr, .ref h4, .int rd, .int num, .int due, .long hash])), (h1, .inl (cI, 163, .inl z)), (h2, .inl (cI, 978, .inl hi)), (h3, .inl (cI, 60, .inl tx)), (h4, .inl (cI, 42, .inl pa))] H → va_D A [(h0, .inr (6, [.ref h1, .int states, .ref h2, .int ln, .ref h3, .int thr, .ref h4, .int rd, .int num, .int due, .long hash])), (h1, .inl (cI, 163, .inl z)), (h2, .inl (cI, 978, .inl hi)), (h3, .inl (cI, 60, .inl tx)), (h4, .inl (cI, 42, .inl pa))] → va_S A s.heap H locs → ∀ (ls : Array Slot), lv_has ls 2 [(0, .ref h0), (1, .int p1)] → W p l e (headSpec wsX6_setting ({ frames := 2, cells := 0, slots := 0, locals := 42 })).room s m ([.ref h0, .int p1] : List Value).toArray below meth c H locs 0 0 (MQ below (va_Qi (fun (r9 : Int32) (_ : Unit) => r9 = rr.1) (fun _ t => va_P (dC, dI) vwCl [(h0, .inr (6, [.ref h1, .int states, .ref h2, .int ln, .ref h3, .int rr.2, .ref h4, .int rd, .int num, .int due, .long hash])), (h1, .inl (cI, 163, .inl z)), (h2, .inl (cI, 978, .inl hi)), (h3, .inl (cI, 60, .inl tx)), (h4, .inl (cI, 42, .inl pa))] t.heap) A) ([.ref h0, .int p1] : List Value).toArray s 0 0 A) (F0 m 13 ls [.int (vm_bi s0_13), .ref h0]) := by
    intro s0_13 eF eO H locs hP hD hS ls hl
    rw [o_X6_setting_j13] at eO
    refine va_put (D := (dC, dI)) (ci := 6) (v := .int (vm_bi s0_13)) (ty := .int) (C := RX6) (T := TX6) (N := 11) hx hb hts iwsX60 tyX6 tyX6_ok nmX6 hown hK hP hD hS 0 rfl rfl 5 (by decide) kw1 (fun _ h9 => h9) rfl (by decide +kernel) rfl rfl (Nat.le_of_ble_eq_true rfl) dX6_setting_13 (fun H locs hP hD hS => ?_)
    have hP : va_P (dC, dI) vwCl [(h0, .inr (6, [.ref h1, .int states, .ref h2, .int ln, .ref h3, .int (vm_bi s0_13), .ref h4, .int rd, .int num, .int due, .long hash])), (h1, .inl (cI, 163, .inl z)), (h2, .inl (cI, 978, .inl hi)), (h3, .inl (cI, 60, .inl tx)), (h4, .inl (cI, 42, .inl pa))] H := hP
    have hD : va_D A [(h0, .inr (6, [.ref h1, .int states, .ref h2, .int ln, .ref h3, .int (vm_bi s0_13), .ref h4, .int rd, .int num, .int due, .long hash])), (h1, .inl (cI, 163, .inl z)), (h2, .inl (cI, 978, .inl hi)), (h3, .inl (cI, 60, .inl tx)), (h4, .inl (cI, 42, .inl pa))] := hD
    refine lv_aload_n hx hb dX6_setting_16 rfl (lv_at hl 0 rfl) ?_
    refine va_get (D := (dC, dI)) (ci := 6) (v := .int (vm_bi s0_13)) (C := RX6) (T := TX6) (N := 11) hx hb hts iwsX60 hown hK hP 0 rfl rfl 5 (by decide) kw1 (fun _ h9 => h9) rfl dX6_setting_17 ?_
    refine lv_if_le (tgt := 27) hx hb dX6_setting_20 (by decide) (fun c_1 => ?_) (fun c_1 => ?_)
    · rw [if_pos c_1] at eO
      refine lv_aload_n hx hb dX6_setting_27 rfl (lv_at hl 0 rfl) ?_
      refine va_get (D := (dC, dI)) (ci := 6) (v := .ref h1) (C := RX6) (T := TX6) (N := 11) hx hb hts iwsX60 hown hK hP 0 rfl rfl 0 (by decide) kw2 (fun _ h9 => h9) rfl dX6_setting_28 ?_
      refine lv_iload_n hx hb dX6_setting_31 rfl (lv_at hl 1 rfl) ?_
      obtain ⟨hv_2, eO⟩ := eO
      refine va_iald hx hb hK hP 1 0 rfl rfl hv_2 dX6_setting_32 ?_
      have e9 : rr = (((z (Int32.toNatClampNeg p1)), vm_bi s0_13) : Int32 × Int32) := eF.trans (by rw [f_X6_setting_j13, if_pos c_1])
      exact W.iret (v := (z (Int32.toNatClampNeg p1))) hx hb hr (fun t ht hW => ⟨⟨_, (), rfl, by rw [e9], (by rw [e9]; show va_P _ _ _ t.heap; rw [ht]; exact hP)⟩, hS.F ht⟩) hS.2.2 dX6_setting_33
    · rw [if_neg c_1] at eO
      refine lv_iconst (v := 0) hx hb dX6_setting_23 (by decide) ?_
      refine lv_goto (tgt := 33) hx hb dX6_setting_24 (by decide) ?_
      have e9 : rr = ((0, vm_bi s0_13) : Int32 × Int32) := eF.trans (by rw [f_X6_setting_j13, if_neg c_1])
      exact W.iret (v := 0) hx hb hr (fun t ht hW => ⟨⟨_, (), rfl, by rw [e9], (by rw [e9]; show va_P _ _ _ t.heap; rw [ht]; exact hP)⟩, hS.F ht⟩) hS.2.2 dX6_setting_33
  rw [o_X6_setting] at eO
  refine lv_aload_n hx hb dX6_setting_0 rfl (lv_at hl 0 rfl) ?_
  refine lv_iload_n hx hb dX6_setting_1 rfl (lv_at hl 1 rfl) ?_
  refine vm_roSx (v := vm_bi (f_X6_isSetting p1)) (As := [.int p1]) (rest := [.ref h0]) ⟨hx, hb, hml, hown, hts⟩ hK hN hP hl.1 ⟨Nat.le_of_ble_eq_true rfl, Nat.le_of_ble_eq_true rfl⟩ (c_X6_isSetting l dC dI cI cB p1) (va_cwS 1 hts gX6_setting_X6_isSetting rfl rfl rfl yd_X6_isSetting ⟨Nat.le_of_ble_eq_true rfl, Nat.le_of_ble_eq_true rfl⟩) rfl rfl (Nat.le_of_ble_eq_true rfl) dX6_setting_2 ?_
  refine lv_if_eq (tgt := 12) hx hb dX6_setting_5 (by decide) (fun c_3 => ?_) (fun c_3 => ?_)
  · rw [if_pos c_3] at eO
    refine lv_iconst (v := 1) hx hb dX6_setting_12 (by decide) ?_
    exact hJ13 true (eF.trans (by rw [f_X6_setting, if_pos c_3])) eO _ _ hP hD hS ls (lv_sub hl [0, 1] rfl)
  · rw [if_neg c_3] at eO
    refine lv_iconst (v := 0) hx hb dX6_setting_8 (by decide) ?_
    refine lv_goto (tgt := 13) hx hb dX6_setting_9 (by decide) ?_
    exact hJ13 false (eF.trans (by rw [f_X6_setting, if_neg c_3])) eO _ _ hP hD hS ls (lv_sub hl [0, 1] rfl)

def f_X6_whyNot_j25 (z : Nat → Int32) (p1 : Int32) (p2 : Int32) (s0_25 : Int32) : Int32 × Int32 :=
  if s0_25 ≤ 0 then
    ((f_X6_reason z p1 p2), s0_25)
  else
    (0, s0_25)
def f_X6_whyNot (z : Nat → Int32) (p1 : Int32) (p2 : Int32) : Int32 × Int32 :=
  if (vm_bi (f_X6_isMandate z p1)) = 0 then
    f_X6_whyNot_j25 z p1 p2 1
  else
    if (vm_bi (f_X6_isMoney p2)) = 0 then
      f_X6_whyNot_j25 z p1 p2 2
    else
      f_X6_whyNot_j25 z p1 p2 0
def o_X6_whyNot_j25 (z : Nat → Int32) (p1 : Int32) (p2 : Int32) (s0_25 : Int32) : Prop :=
  if s0_25 ≤ 0 then
    o_X6_reason z p1 p2 ∧
    (True)
  else
    True
def o_X6_whyNot (z : Nat → Int32) (p1 : Int32) (p2 : Int32) : Prop :=
  if (vm_bi (f_X6_isMandate z p1)) = 0 then
    o_X6_whyNot_j25 z p1 p2 1
  else
    if (vm_bi (f_X6_isMoney p2)) = 0 then
      o_X6_whyNot_j25 z p1 p2 2
    else
      o_X6_whyNot_j25 z p1 p2 0
theorem yd_X6_whyNot : yX6_whyNot.cls = RX6 ∧ yX6_whyNot.cls ≠ "java/lang/invoke/MethodHandle" ∧ yX6_whyNot.cls ≠ "java/lang/invoke/VarHandle" ∧ (parseMethodDescriptor yX6_whyNot.desc).map (fun d => d.parameters.length) = some 2 := by decide +kernel
set_option maxHeartbeats 4000000 in
set_option maxRecDepth 100000 in
theorem c_X6_whyNot (l : Launch) (dC : Nat → ClassId) (dI : Nat → Nat → Nat) (cI cB : ClassId) (h0 h1 h2 h3 h4 : Nat) (sz : Nat) (states : Int32) (ln : Int32) (thr : Int32) (rd : Int32) (num : Int32) (due : Int32) (hash : Int64) (z : Nat → Int32) (hi : Nat → Int32) (tx : Nat → Int32) (pa : Nat → Int32) (p1 : Int32) (p2 : Int32) (eO : o_X6_whyNot z p1 p2) : Met l yX6_whyNot wsX6_whyNot ({ frames := 4, cells := 0, slots := 0, locals := 88 }) (vm_prw [.ref h0, .int p1, .int p2] (dC, dI) [(h0, .inr (6, [.ref h1, .int states, .ref h2, .int ln, .ref h3, .int thr, .ref h4, .int rd, .int num, .int due, .long hash])), (h1, .inl (cI, 163, .inl z)), (h2, .inl (cI, 978, .inl hi)), (h3, .inl (cI, 60, .inl tx)), (h4, .inl (cI, 42, .inl pa))] cI cB sz) (va_Qi (fun (r9 : Int32) (_ : Unit) => r9 = (f_X6_whyNot z p1 p2).1) (fun _ t => va_P (dC, dI) vwCl [(h0, .inr (6, [.ref h1, .int states, .ref h2, .int ln, .ref h3, .int ((f_X6_whyNot z p1 p2).2), .ref h4, .int rd, .int num, .int due, .long hash])), (h1, .inl (cI, 163, .inl z)), (h2, .inl (cI, 978, .inl hi)), (h3, .inl (cI, 60, .inl tx)), (h4, .inl (cI, 42, .inl pa))] t.heap) (va_A [(h0, .inr (6, [.ref h1, .int states, .ref h2, .int ln, .ref h3, .int thr, .ref h4, .int rd, .int num, .int due, .long hash])), (h1, .inl (cI, 163, .inl z)), (h2, .inl (cI, 978, .inl hi)), (h3, .inl (cI, 60, .inl tx)), (h4, .inl (cI, 42, .inl pa))] sz)) 0 0 (va_A [(h0, .inr (6, [.ref h1, .int states, .ref h2, .int ln, .ref h3, .int thr, .ref h4, .int rd, .int num, .int due, .long hash])), (h1, .inl (cI, 163, .inl z)), (h2, .inl (cI, 978, .inl hi)), (h3, .inl (cI, 60, .inl tx)), (h4, .inl (cI, 42, .inl pa))] sz) := by
  refine Met.ofW (cc := cX6_whyNot) (maxL := 3) (ret := (some .int)) (by decide) rfl ?_
  intro p e s m args below meth c s₁ B hml hv
  obtain ⟨rfl, hsz, hP, hK, hN, hD0⟩ := hv
  have hx := B.exec
  have hb := B.bytes
  have hr := B.returns
  have hts := atoms_spec (ws := wsX6_whyNot) B.pre
  have hown : s.vm.findClass RX6 = some m.cls := findClass_of_methodNamed B.named
  have hlocks := B.notSynchronized
  subst hsz
  have hD := hD0.self (sz := s.heap.size)
  generalize hAe : va_A [(h0, .inr (6, [.ref h1, .int states, .ref h2, .int ln, .ref h3, .int thr, .ref h4, .int rd, .int num, .int due, .long hash])), (h1, .inl (cI, 163, .inl z)), (h2, .inl (cI, 978, .inl hi)), (h3, .inl (cI, 60, .inl tx)), (h4, .inl (cI, 42, .inl pa))] s.heap.size = A at hD ⊢
  have hA : ∀ q : Nat, s.heap.size ≤ q → A q := fun q h => by rw [← hAe]; exact Or.inr h
  have hS : va_S A s.heap s.heap [] := va_S.rf
  have hP : va_P (dC, dI) vwCl [(h0, .inr (6, [.ref h1, .int states, .ref h2, .int ln, .ref h3, .int thr, .ref h4, .int rd, .int num, .int due, .long hash])), (h1, .inl (cI, 163, .inl z)), (h2, .inl (cI, 978, .inl hi)), (h3, .inl (cI, 60, .inl tx)), (h4, .inl (cI, 42, .inl pa))] s.heap := hP
  have kw1 := hts (.fieldLink RX6 22 "LapseMandatesModel" "thrown" "I") (List.mem_of_getElem? (i := 1) rfl)
  have iwsX60 : ∀ w ∈ wsX60, w ∈ wsX6_whyNot := fun w h => List.mem_cons_of_mem _ (List.mem_append_right _ h)
  generalize hrr : f_X6_whyNot z p1 p2 = rr
  have eF := hrr.symm
  have hl := lv_entry ([.ref h0, .int p1, .int p2]) (n := 3) (Nat.le_of_ble_eq_true rfl)
  rw [lg_entry_eq]
  generalize (lg_sl ([.ref h0, .int p1, .int p2]) ++ List.replicate (3 - (lg_sl ([.ref h0, .int p1, .int p2])).length) Slot.unset).toArray = ls at hl ⊢
  have hl : lv_has ls 3 [(0, .ref h0), (1, .int p1), (2, .int p2)] := hl
  have hJ25 : ∀ (s0_25 : Int32), rr = f_X6_whyNot_j25 z p1 p2 s0_25 → o_X6_whyNot_j25 z p1 p2 s0_25 → ∀ (H : Heap) (locs : List Loc), va_P (dC, dI) vwCl [(h0, .inr (6, [.ref h1, .int states, .ref h2, .int ln, .ref h3, .int thr, .ref h4, .int rd, .int num, .int due, .long hash])), (h1, .inl (cI, 163, .inl z)), (h2, .inl (cI, 978, .inl hi)), (h3, .inl (cI, 60, .inl tx)), (h4, .inl (cI, 42, .inl pa))] H → va_D A [(h0, .inr (6, [.ref h1, .int states, .ref h2, .int ln, .ref h3, .int thr, .ref h4, .int rd, .int num, .int due, .long hash])), (h1, .inl (cI, 163, .inl z)), (h2, .inl (cI, 978, .inl hi)), (h3, .inl (cI, 60, .inl tx)), (h4, .inl (cI, 42, .inl pa))] → va_S A s.heap H locs → ∀ (ls : Array Slot), lv_has ls 3 [(0, .ref h0), (1, .int p1), (2, .int p2)] → W p l e (headSpec wsX6_whyNot ({ frames := 4, cells := 0, slots := 0, locals := 88 })).room s m ([.ref h0, .int p1, .int p2] : List Value).toArray below meth c H locs 0 0 (MQ below (va_Qi (fun (r9 : Int32) (_ : Unit) => r9 = rr.1) (fun _ t => va_P (dC, dI) vwCl [(h0, .inr (6, [.ref h1, .int states, .ref h2, .int ln, .ref h3, .int rr.2, .ref h4, .int rd, .int num, .int due, .long hash])), (h1, .inl (cI, 163, .inl z)), (h2, .inl (cI, 978, .inl hi)), (h3, .inl (cI, 60, .inl tx)), (h4, .inl (cI, 42, .inl pa))] t.heap) A) ([.ref h0, .int p1, .int p2] : List Value).toArray s 0 0 A) (F0 m 25 ls [.int s0_25, .ref h0]) := by
    intro s0_25 eF eO H locs hP hD hS ls hl
    rw [o_X6_whyNot_j25] at eO
    refine va_put (D := (dC, dI)) (ci := 6) (v := .int s0_25) (ty := .int) (C := RX6) (T := TX6) (N := 11) hx hb hts iwsX60 tyX6 tyX6_ok nmX6 hown hK hP hD hS 0 rfl rfl 5 (by decide) kw1 (fun _ h9 => h9) rfl (by decide +kernel) rfl rfl (Nat.le_of_ble_eq_true rfl) dX6_whyNot_25 (fun H locs hP hD hS => ?_)
    have hP : va_P (dC, dI) vwCl [(h0, .inr (6, [.ref h1, .int states, .ref h2, .int ln, .ref h3, .int s0_25, .ref h4, .int rd, .int num, .int due, .long hash])), (h1, .inl (cI, 163, .inl z)), (h2, .inl (cI, 978, .inl hi)), (h3, .inl (cI, 60, .inl tx)), (h4, .inl (cI, 42, .inl pa))] H := hP
    have hD : va_D A [(h0, .inr (6, [.ref h1, .int states, .ref h2, .int ln, .ref h3, .int s0_25, .ref h4, .int rd, .int num, .int due, .long hash])), (h1, .inl (cI, 163, .inl z)), (h2, .inl (cI, 978, .inl hi)), (h3, .inl (cI, 60, .inl tx)), (h4, .inl (cI, 42, .inl pa))] := hD
    refine lv_aload_n hx hb dX6_whyNot_28 rfl (lv_at hl 0 rfl) ?_
    refine va_get (D := (dC, dI)) (ci := 6) (v := .int s0_25) (C := RX6) (T := TX6) (N := 11) hx hb hts iwsX60 hown hK hP 0 rfl rfl 5 (by decide) kw1 (fun _ h9 => h9) rfl dX6_whyNot_29 ?_
    refine lv_if_le (tgt := 39) hx hb dX6_whyNot_32 (by decide) (fun c_1 => ?_) (fun c_1 => ?_)
    · rw [if_pos c_1] at eO
      refine lv_aload_n hx hb dX6_whyNot_39 rfl (lv_at hl 0 rfl) ?_
      refine lv_iload_n hx hb dX6_whyNot_40 rfl (lv_at hl 1 rfl) ?_
      refine lv_iload_n hx hb dX6_whyNot_41 rfl (lv_at hl 2 rfl) ?_
      obtain ⟨hv_2, eO⟩ := eO
      refine vm_roVx (v := (f_X6_reason z p1 p2)) (As := [.int p1, .int p2]) (rest := []) (T := TX6) (N := 11) (wc := [(h0, .inr (6, [.ref h1, .int states, .ref h2, .int ln, .ref h3, .int s0_25, .ref h4, .int rd, .int num, .int due, .long hash])), (h1, .inl (cI, 163, .inl z)), (h2, .inl (cI, 978, .inl hi)), (h3, .inl (cI, 60, .inl tx)), (h4, .inl (cI, 42, .inl pa))]) ⟨hx, hb, hml, hown, hts⟩ hK hN hP hl.1 ⟨Nat.le_of_ble_eq_true rfl, Nat.le_of_ble_eq_true rfl⟩ (c_X6_reason l dC dI cI cB h0 h1 h2 h3 h4 states ln s0_25 rd num due hash z hi tx pa p1 p2 hv_2) (cwV 2 hts gX6_whyNot_X6_reason rfl rfl rfl yd_X6_reason ⟨Nat.le_of_ble_eq_true rfl, Nat.le_of_ble_eq_true rfl⟩) [0, 1, 2, 3, 4] rfl 6 rfl rfl rfl rfl (Nat.le_of_ble_eq_true rfl) dX6_whyNot_42 ?_
      have e9 : rr = (((f_X6_reason z p1 p2), s0_25) : Int32 × Int32) := eF.trans (by rw [f_X6_whyNot_j25, if_pos c_1])
      exact W.iret (v := (f_X6_reason z p1 p2)) hx hb hr (fun t ht hW => ⟨⟨_, (), rfl, by rw [e9], (by rw [e9]; show va_P _ _ _ t.heap; rw [ht]; exact hP)⟩, hS.F ht⟩) hS.2.2 dX6_whyNot_45
    · rw [if_neg c_1] at eO
      refine lv_iconst (v := 0) hx hb dX6_whyNot_35 (by decide) ?_
      refine lv_goto (tgt := 45) hx hb dX6_whyNot_36 (by decide) ?_
      have e9 : rr = ((0, s0_25) : Int32 × Int32) := eF.trans (by rw [f_X6_whyNot_j25, if_neg c_1])
      exact W.iret (v := 0) hx hb hr (fun t ht hW => ⟨⟨_, (), rfl, by rw [e9], (by rw [e9]; show va_P _ _ _ t.heap; rw [ht]; exact hP)⟩, hS.F ht⟩) hS.2.2 dX6_whyNot_45
  rw [o_X6_whyNot] at eO
  refine lv_aload_n hx hb dX6_whyNot_0 rfl (lv_at hl 0 rfl) ?_
  refine lv_aload_n hx hb dX6_whyNot_1 rfl (lv_at hl 0 rfl) ?_
  refine lv_iload_n hx hb dX6_whyNot_2 rfl (lv_at hl 1 rfl) ?_
  refine vm_roVx (v := vm_bi (f_X6_isMandate z p1)) (As := [.int p1]) (rest := [.ref h0]) (T := TX6) (N := 11) (wc := [(h0, .inr (6, [.ref h1, .int states, .ref h2, .int ln, .ref h3, .int thr, .ref h4, .int rd, .int num, .int due, .long hash])), (h1, .inl (cI, 163, .inl z)), (h2, .inl (cI, 978, .inl hi)), (h3, .inl (cI, 60, .inl tx)), (h4, .inl (cI, 42, .inl pa))]) ⟨hx, hb, hml, hown, hts⟩ hK hN hP hl.1 ⟨Nat.le_of_ble_eq_true rfl, Nat.le_of_ble_eq_true rfl⟩ (c_X6_isMandate l dC dI cI cB h0 h1 h2 h3 h4 states ln thr rd num due hash z hi tx pa p1) (cwV 1 hts gX6_whyNot_X6_isMandate rfl rfl rfl yd_X6_isMandate ⟨Nat.le_of_ble_eq_true rfl, Nat.le_of_ble_eq_true rfl⟩) [0, 1, 2, 3, 4] rfl 6 rfl rfl rfl rfl (Nat.le_of_ble_eq_true rfl) dX6_whyNot_3 ?_
  refine lv_if_ne (tgt := 13) hx hb dX6_whyNot_6 (by decide) (fun c_3 => ?_) (fun c_3 => ?_)
  · rw [if_neg c_3] at eO
    refine lv_iload_n hx hb dX6_whyNot_13 rfl (lv_at hl 2 rfl) ?_
    refine vm_roSx (v := vm_bi (f_X6_isMoney p2)) (As := [.int p2]) (rest := [.ref h0]) ⟨hx, hb, hml, hown, hts⟩ hK hN hP hl.1 ⟨Nat.le_of_ble_eq_true rfl, Nat.le_of_ble_eq_true rfl⟩ (c_X6_isMoney l dC dI cI cB p2) (va_cwS 1 hts gX6_whyNot_X6_isMoney rfl rfl rfl yd_X6_isMoney ⟨Nat.le_of_ble_eq_true rfl, Nat.le_of_ble_eq_true rfl⟩) rfl rfl (Nat.le_of_ble_eq_true rfl) dX6_whyNot_14 ?_
    refine lv_if_eq (tgt := 24) hx hb dX6_whyNot_17 (by decide) (fun c_4 => ?_) (fun c_4 => ?_)
    · rw [if_pos c_4] at eO
      refine lv_iconst (v := 2) hx hb dX6_whyNot_24 (by decide) ?_
      exact hJ25 2 (eF.trans (by rw [f_X6_whyNot, if_neg c_3, if_pos c_4])) eO _ _ hP hD hS ls (lv_sub hl [0, 1, 2] rfl)
    · rw [if_neg c_4] at eO
      refine lv_iconst (v := 0) hx hb dX6_whyNot_20 (by decide) ?_
      refine lv_goto (tgt := 25) hx hb dX6_whyNot_21 (by decide) ?_
      exact hJ25 0 (eF.trans (by rw [f_X6_whyNot, if_neg c_3, if_neg c_4])) eO _ _ hP hD hS ls (lv_sub hl [0, 1, 2] rfl)
  · rw [if_pos c_3] at eO
    refine lv_iconst (v := 1) hx hb dX6_whyNot_9 (by decide) ?_
    refine lv_goto (tgt := 25) hx hb dX6_whyNot_10 (by decide) ?_
    exact hJ25 1 (eF.trans (by rw [f_X6_whyNot, if_pos c_3])) eO _ _ hP hD hS ls (lv_sub hl [0, 1, 2] rfl)

def f_X6_roomOf_j45 (z : Nat → Int32) (p1 : Int32) (s0_45 : Int32) : Int32 :=
  if (vm_bi (f_X6_stands z p1)) = 0 then
    0
  else
    if s0_45 ≤ 0 then
      0
    else
      s0_45
def f_X6_roomOf_j31 (z : Nat → Int32) (p1 : Int32) : Int32 :=
  if ((f_X6_of z p1 2) / 2) ≤ (f_X6_gapOf z (f_X6_narrowestOf z p1)) then
    f_X6_roomOf_j45 z p1 ((f_X6_of z p1 2) / 2)
  else
    f_X6_roomOf_j45 z p1 (f_X6_gapOf z (f_X6_narrowestOf z p1))
def f_X6_roomOf (z : Nat → Int32) (p1 : Int32) (p2 : Int32) : Int32 :=
  if p2 = 0 then
    if (f_X6_of z p1 2) ≤ (f_X6_gapOf z (f_X6_narrowestOf z p1)) then
      f_X6_roomOf_j45 z p1 (f_X6_of z p1 2)
    else
      f_X6_roomOf_j45 z p1 (f_X6_gapOf z (f_X6_narrowestOf z p1))
  else
    f_X6_roomOf_j31 z p1
def o_X6_roomOf_j45 (z : Nat → Int32) (p1 : Int32) (s0_45 : Int32) : Prop :=
  o_X6_stands z p1 ∧
  (if (vm_bi (f_X6_stands z p1)) = 0 then
    True
  else
    if s0_45 ≤ 0 then
      True
    else
      True)
def o_X6_roomOf_j31 (z : Nat → Int32) (p1 : Int32) : Prop :=
  if ((f_X6_of z p1 2) / 2) ≤ (f_X6_gapOf z (f_X6_narrowestOf z p1)) then
    o_X6_roomOf_j45 z p1 ((f_X6_of z p1 2) / 2)
  else
    o_X6_roomOf_j45 z p1 (f_X6_gapOf z (f_X6_narrowestOf z p1))
def o_X6_roomOf (z : Nat → Int32) (p1 : Int32) (p2 : Int32) : Prop :=
  o_X6_narrowestOf z p1 ∧
  (o_X6_gapOf z (f_X6_narrowestOf z p1) ∧
  (if p2 = 0 then
    o_X6_of z p1 2 ∧
    (if (f_X6_of z p1 2) ≤ (f_X6_gapOf z (f_X6_narrowestOf z p1)) then
      o_X6_roomOf_j45 z p1 (f_X6_of z p1 2)
    else
      o_X6_roomOf_j45 z p1 (f_X6_gapOf z (f_X6_narrowestOf z p1)))
  else
    o_X6_of z p1 2 ∧
    (o_X6_roomOf_j31 z p1)))
theorem yd_X6_roomOf : yX6_roomOf.cls = RX6 ∧ yX6_roomOf.cls ≠ "java/lang/invoke/MethodHandle" ∧ yX6_roomOf.cls ≠ "java/lang/invoke/VarHandle" ∧ (parseMethodDescriptor yX6_roomOf.desc).map (fun d => d.parameters.length) = some 2 := by decide +kernel
set_option maxHeartbeats 4000000 in
set_option maxRecDepth 100000 in
theorem c_X6_roomOf (l : Launch) (dC : Nat → ClassId) (dI : Nat → Nat → Nat) (cI cB : ClassId) (h0 h1 h2 h3 h4 : Nat) (states : Int32) (ln : Int32) (thr : Int32) (rd : Int32) (num : Int32) (due : Int32) (hash : Int64) (z : Nat → Int32) (hi : Nat → Int32) (tx : Nat → Int32) (pa : Nat → Int32) (p1 : Int32) (p2 : Int32) (eO : o_X6_roomOf z p1 p2) : Met l yX6_roomOf wsX6_roomOf ({ frames := 3, cells := 0, slots := 0, locals := 66 }) (vm_pre [.ref h0, .int p1, .int p2] (dC, dI) [(h0, .inr (6, [.ref h1, .int states, .ref h2, .int ln, .ref h3, .int thr, .ref h4, .int rd, .int num, .int due, .long hash])), (h1, .inl (cI, 163, .inl z)), (h2, .inl (cI, 978, .inl hi)), (h3, .inl (cI, 60, .inl tx)), (h4, .inl (cI, 42, .inl pa))] cI cB) (vp_Si (fun r9 : Int32 => r9 = (f_X6_roomOf z p1 p2))) 0 0 (fun _ => False) := by
  refine Met.ofW (cc := cX6_roomOf) (maxL := 6) (ret := (some .int)) (by decide) rfl ?_
  intro p e s m args below meth c s₁ B hml hv
  obtain ⟨rfl, hP, hK, hN⟩ := hv
  have hx := B.exec
  have hb := B.bytes
  have hr := B.returns
  have hts := atoms_spec (ws := wsX6_roomOf) B.pre
  have hown : s.vm.findClass RX6 = some m.cls := findClass_of_methodNamed B.named
  have hlocks := B.notSynchronized
  generalize hrr : f_X6_roomOf z p1 p2 = rr
  have eF := hrr.symm
  have hl := lv_entry ([.ref h0, .int p1, .int p2]) (n := 6) (Nat.le_of_ble_eq_true rfl)
  rw [lg_entry_eq]
  generalize (lg_sl ([.ref h0, .int p1, .int p2]) ++ List.replicate (6 - (lg_sl ([.ref h0, .int p1, .int p2])).length) Slot.unset).toArray = ls at hl ⊢
  have hl : lv_has ls 6 [(0, .ref h0), (1, .int p1), (2, .int p2)] := hl
  have hJ45 : ∀ (s0_45 : Int32), rr = f_X6_roomOf_j45 z p1 s0_45 → o_X6_roomOf_j45 z p1 s0_45 → ∀ (ls : Array Slot), lv_has ls 6 [(0, .ref h0), (1, .int p1)] → W p l e (headSpec wsX6_roomOf ({ frames := 3, cells := 0, slots := 0, locals := 66 })).room s m ([.ref h0, .int p1, .int p2] : List Value).toArray below meth c s.heap [] 0 0 (MQ below (vp_Si (fun r9 : Int32 => r9 = rr)) ([.ref h0, .int p1, .int p2] : List Value).toArray s 0 0 (fun _ => False)) (F0 m 45 ls [.int s0_45]) := by
    intro s0_45 eF eO ls hl
    rw [o_X6_roomOf_j45] at eO
    refine lv_istore (lv' := [(5, .int s0_45), (0, .ref h0), (1, .int p1)]) hx hb dX6_roomOf_45 hl (by decide) rfl (fun ls hl => ?_)
    refine lv_aload_n hx hb dX6_roomOf_47 rfl (lv_at hl 1 rfl) ?_
    refine lv_iload_n hx hb dX6_roomOf_48 rfl (lv_at hl 2 rfl) ?_
    obtain ⟨hv_1, eO⟩ := eO
    refine vm_roVx (v := vm_bi (f_X6_stands z p1)) (As := [.int p1]) (rest := []) (T := TX6) (N := 11) (wc := [(h0, .inr (6, [.ref h1, .int states, .ref h2, .int ln, .ref h3, .int thr, .ref h4, .int rd, .int num, .int due, .long hash])), (h1, .inl (cI, 163, .inl z)), (h2, .inl (cI, 978, .inl hi)), (h3, .inl (cI, 60, .inl tx)), (h4, .inl (cI, 42, .inl pa))]) ⟨hx, hb, hml, hown, hts⟩ hK hN hP hl.1 ⟨Nat.le_of_ble_eq_true rfl, Nat.le_of_ble_eq_true rfl⟩ (c_X6_stands l dC dI cI cB h0 h1 h2 h3 h4 states ln thr rd num due hash z hi tx pa p1 hv_1) (cwV 1 hts gX6_roomOf_X6_stands rfl rfl rfl yd_X6_stands ⟨Nat.le_of_ble_eq_true rfl, Nat.le_of_ble_eq_true rfl⟩) [0, 1, 2, 3, 4] rfl 6 rfl rfl rfl rfl (Nat.le_of_ble_eq_true rfl) dX6_roomOf_49 ?_
    refine lv_if_eq (tgt := 65) hx hb dX6_roomOf_52 (by decide) (fun c_2 => ?_) (fun c_2 => ?_)
    · rw [if_pos c_2] at eO
      refine lv_iconst (v := 0) hx hb dX6_roomOf_65 (by decide) ?_
      have e9 : rr = 0 := eF.trans (by rw [f_X6_roomOf_j45, if_pos c_2])
      exact W.iret (v := 0) hx hb hr (fun t ht hW => ⟨_, rfl, e9.symm, ht⟩) (fun _ hq => by cases hq) dX6_roomOf_66
    · rw [if_neg c_2] at eO
      refine lv_iload hx hb dX6_roomOf_55 (lv_at hl 0 rfl) ?_
      refine lv_if_le (tgt := 65) hx hb dX6_roomOf_57 (by decide) (fun c_3 => ?_) (fun c_3 => ?_)
      · rw [if_pos c_3] at eO
        refine lv_iconst (v := 0) hx hb dX6_roomOf_65 (by decide) ?_
        have e9 : rr = 0 := eF.trans (by rw [f_X6_roomOf_j45, if_neg c_2, if_pos c_3])
        exact W.iret (v := 0) hx hb hr (fun t ht hW => ⟨_, rfl, e9.symm, ht⟩) (fun _ hq => by cases hq) dX6_roomOf_66
      · rw [if_neg c_3] at eO
        refine lv_iload hx hb dX6_roomOf_60 (lv_at hl 0 rfl) ?_
        refine lv_goto (tgt := 66) hx hb dX6_roomOf_62 (by decide) ?_
        have e9 : rr = s0_45 := eF.trans (by rw [f_X6_roomOf_j45, if_neg c_2, if_neg c_3])
        exact W.iret (v := s0_45) hx hb hr (fun t ht hW => ⟨_, rfl, e9.symm, ht⟩) (fun _ hq => by cases hq) dX6_roomOf_66
  have hJ31 : rr = f_X6_roomOf_j31 z p1 → o_X6_roomOf_j31 z p1 → ∀ (ls : Array Slot), lv_has ls 6 [(0, .ref h0), (1, .int p1), (3, .int (f_X6_gapOf z (f_X6_narrowestOf z p1)))] → W p l e (headSpec wsX6_roomOf ({ frames := 3, cells := 0, slots := 0, locals := 66 })).room s m ([.ref h0, .int p1, .int p2] : List Value).toArray below meth c s.heap [] 0 0 (MQ below (vp_Si (fun r9 : Int32 => r9 = rr)) ([.ref h0, .int p1, .int p2] : List Value).toArray s 0 0 (fun _ => False)) (F0 m 31 ls [.int ((f_X6_of z p1 2) / 2)]) := by
    intro eF eO ls hl
    rw [o_X6_roomOf_j31] at eO
    refine lv_istore (lv' := [(4, .int ((f_X6_of z p1 2) / 2)), (0, .ref h0), (1, .int p1), (3, .int (f_X6_gapOf z (f_X6_narrowestOf z p1)))]) hx hb dX6_roomOf_31 hl (by decide) rfl (fun ls hl => ?_)
    refine lv_iload_n hx hb dX6_roomOf_33 rfl (lv_at hl 3 rfl) ?_
    refine lv_iload hx hb dX6_roomOf_34 (lv_at hl 0 rfl) ?_
    refine lv_icmp_ge (tgt := 43) hx hb dX6_roomOf_36 (by decide) (fun c_4 => ?_) (fun c_4 => ?_)
    · rw [if_pos c_4] at eO
      refine lv_iload hx hb dX6_roomOf_43 (lv_at hl 0 rfl) ?_
      exact hJ45 ((f_X6_of z p1 2) / 2) (eF.trans (by rw [f_X6_roomOf_j31, if_pos c_4])) eO ls (lv_sub hl [1, 2] rfl)
    · rw [if_neg c_4] at eO
      refine lv_iload_n hx hb dX6_roomOf_39 rfl (lv_at hl 3 rfl) ?_
      refine lv_goto (tgt := 45) hx hb dX6_roomOf_40 (by decide) ?_
      exact hJ45 (f_X6_gapOf z (f_X6_narrowestOf z p1)) (eF.trans (by rw [f_X6_roomOf_j31, if_neg c_4])) eO ls (lv_sub hl [1, 2] rfl)
  rw [o_X6_roomOf] at eO
  refine lv_aload_n hx hb dX6_roomOf_0 rfl (lv_at hl 0 rfl) ?_
  refine lv_aload_n hx hb dX6_roomOf_1 rfl (lv_at hl 0 rfl) ?_
  refine lv_iload_n hx hb dX6_roomOf_2 rfl (lv_at hl 1 rfl) ?_
  obtain ⟨hv_5, eO⟩ := eO
  refine vm_roVx (v := (f_X6_narrowestOf z p1)) (As := [.int p1]) (rest := [.ref h0]) (T := TX6) (N := 11) (wc := [(h0, .inr (6, [.ref h1, .int states, .ref h2, .int ln, .ref h3, .int thr, .ref h4, .int rd, .int num, .int due, .long hash])), (h1, .inl (cI, 163, .inl z)), (h2, .inl (cI, 978, .inl hi)), (h3, .inl (cI, 60, .inl tx)), (h4, .inl (cI, 42, .inl pa))]) ⟨hx, hb, hml, hown, hts⟩ hK hN hP hl.1 ⟨Nat.le_of_ble_eq_true rfl, Nat.le_of_ble_eq_true rfl⟩ (c_X6_narrowestOf l dC dI cI cB h0 h1 h2 h3 h4 states ln thr rd num due hash z hi tx pa p1 hv_5) (cwV 1 hts gX6_roomOf_X6_narrowestOf rfl rfl rfl yd_X6_narrowestOf ⟨Nat.le_of_ble_eq_true rfl, Nat.le_of_ble_eq_true rfl⟩) [0, 1, 2, 3, 4] rfl 6 rfl rfl rfl rfl (Nat.le_of_ble_eq_true rfl) dX6_roomOf_3 ?_
  obtain ⟨hv_6, eO⟩ := eO
  refine vm_roVx (v := (f_X6_gapOf z (f_X6_narrowestOf z p1))) (As := [.int (f_X6_narrowestOf z p1)]) (rest := []) (T := TX6) (N := 11) (wc := [(h0, .inr (6, [.ref h1, .int states, .ref h2, .int ln, .ref h3, .int thr, .ref h4, .int rd, .int num, .int due, .long hash])), (h1, .inl (cI, 163, .inl z)), (h2, .inl (cI, 978, .inl hi)), (h3, .inl (cI, 60, .inl tx)), (h4, .inl (cI, 42, .inl pa))]) ⟨hx, hb, hml, hown, hts⟩ hK hN hP hl.1 ⟨Nat.le_of_ble_eq_true rfl, Nat.le_of_ble_eq_true rfl⟩ (c_X6_gapOf l dC dI cI cB h0 h1 h2 h3 h4 states ln thr rd num due hash z hi tx pa (f_X6_narrowestOf z p1) hv_6) (cwV 1 hts gX6_roomOf_X6_gapOf rfl rfl rfl yd_X6_gapOf ⟨Nat.le_of_ble_eq_true rfl, Nat.le_of_ble_eq_true rfl⟩) [0, 1, 2, 3, 4] rfl 6 rfl rfl rfl rfl (Nat.le_of_ble_eq_true rfl) dX6_roomOf_6 ?_
  refine lv_istore_n (lv' := [(3, .int (f_X6_gapOf z (f_X6_narrowestOf z p1))), (0, .ref h0), (1, .int p1), (2, .int p2)]) hx hb dX6_roomOf_9 rfl hl (by decide) rfl (fun ls hl => ?_)
  refine lv_iload_n hx hb dX6_roomOf_10 rfl (lv_at hl 3 rfl) ?_
  refine lv_if_eq (tgt := 25) hx hb dX6_roomOf_11 (by decide) (fun c_7 => ?_) (fun c_7 => ?_)
  · rw [if_pos c_7] at eO
    refine lv_aload_n hx hb dX6_roomOf_25 rfl (lv_at hl 1 rfl) ?_
    refine lv_iload_n hx hb dX6_roomOf_26 rfl (lv_at hl 2 rfl) ?_
    refine lv_iconst (v := 2) hx hb dX6_roomOf_27 (by decide) ?_
    obtain ⟨hv_8, eO⟩ := eO
    refine vm_roVx (v := (f_X6_of z p1 2)) (As := [.int p1, .int 2]) (rest := []) (T := TX6) (N := 11) (wc := [(h0, .inr (6, [.ref h1, .int states, .ref h2, .int ln, .ref h3, .int thr, .ref h4, .int rd, .int num, .int due, .long hash])), (h1, .inl (cI, 163, .inl z)), (h2, .inl (cI, 978, .inl hi)), (h3, .inl (cI, 60, .inl tx)), (h4, .inl (cI, 42, .inl pa))]) ⟨hx, hb, hml, hown, hts⟩ hK hN hP hl.1 ⟨Nat.le_of_ble_eq_true rfl, Nat.le_of_ble_eq_true rfl⟩ (c_X6_of l dC dI cI cB h0 h1 h2 h3 h4 states ln thr rd num due hash z hi tx pa p1 2 hv_8) (cwV 2 hts gX6_roomOf_X6_of rfl rfl rfl yd_X6_of ⟨Nat.le_of_ble_eq_true rfl, Nat.le_of_ble_eq_true rfl⟩) [0, 1, 2, 3, 4] rfl 6 rfl rfl rfl rfl (Nat.le_of_ble_eq_true rfl) dX6_roomOf_28 ?_
    refine lv_istore (lv' := [(4, .int (f_X6_of z p1 2)), (3, .int (f_X6_gapOf z (f_X6_narrowestOf z p1))), (0, .ref h0), (1, .int p1), (2, .int p2)]) hx hb dX6_roomOf_31 hl (by decide) rfl (fun ls hl => ?_)
    refine lv_iload_n hx hb dX6_roomOf_33 rfl (lv_at hl 1 rfl) ?_
    refine lv_iload hx hb dX6_roomOf_34 (lv_at hl 0 rfl) ?_
    refine lv_icmp_ge (tgt := 43) hx hb dX6_roomOf_36 (by decide) (fun c_9 => ?_) (fun c_9 => ?_)
    · rw [if_pos c_9] at eO
      refine lv_iload hx hb dX6_roomOf_43 (lv_at hl 0 rfl) ?_
      exact hJ45 (f_X6_of z p1 2) (eF.trans (by rw [f_X6_roomOf, if_pos c_7, if_pos c_9])) eO ls (lv_sub hl [2, 3] rfl)
    · rw [if_neg c_9] at eO
      refine lv_iload_n hx hb dX6_roomOf_39 rfl (lv_at hl 1 rfl) ?_
      refine lv_goto (tgt := 45) hx hb dX6_roomOf_40 (by decide) ?_
      exact hJ45 (f_X6_gapOf z (f_X6_narrowestOf z p1)) (eF.trans (by rw [f_X6_roomOf, if_pos c_7, if_neg c_9])) eO ls (lv_sub hl [2, 3] rfl)
  · rw [if_neg c_7] at eO
    refine lv_aload_n hx hb dX6_roomOf_14 rfl (lv_at hl 1 rfl) ?_
    refine lv_iload_n hx hb dX6_roomOf_15 rfl (lv_at hl 2 rfl) ?_
    refine lv_iconst (v := 2) hx hb dX6_roomOf_16 (by decide) ?_
    obtain ⟨hv_10, eO⟩ := eO
    refine vm_roVx (v := (f_X6_of z p1 2)) (As := [.int p1, .int 2]) (rest := []) (T := TX6) (N := 11) (wc := [(h0, .inr (6, [.ref h1, .int states, .ref h2, .int ln, .ref h3, .int thr, .ref h4, .int rd, .int num, .int due, .long hash])), (h1, .inl (cI, 163, .inl z)), (h2, .inl (cI, 978, .inl hi)), (h3, .inl (cI, 60, .inl tx)), (h4, .inl (cI, 42, .inl pa))]) ⟨hx, hb, hml, hown, hts⟩ hK hN hP hl.1 ⟨Nat.le_of_ble_eq_true rfl, Nat.le_of_ble_eq_true rfl⟩ (c_X6_of l dC dI cI cB h0 h1 h2 h3 h4 states ln thr rd num due hash z hi tx pa p1 2 hv_10) (cwV 2 hts gX6_roomOf_X6_of rfl rfl rfl yd_X6_of ⟨Nat.le_of_ble_eq_true rfl, Nat.le_of_ble_eq_true rfl⟩) [0, 1, 2, 3, 4] rfl 6 rfl rfl rfl rfl (Nat.le_of_ble_eq_true rfl) dX6_roomOf_17 ?_
    refine lv_iconst (v := 2) hx hb dX6_roomOf_20 (by decide) ?_
    refine lv_idiv hx hb dX6_roomOf_21 (by decide) ?_
    refine lv_goto (tgt := 31) hx hb dX6_roomOf_22 (by decide) ?_
    exact hJ31 (eF.trans (by rw [f_X6_roomOf, if_neg c_7])) eO ls (lv_sub hl [1, 2, 0] rfl)

def f_X6_room_j14 (z : Nat → Int32) (p1 : Int32) (p2 : Int32) (s0_14 : Bool) : Int32 × Int32 :=
  if (vm_bi s0_14) ≤ 0 then
    ((f_X6_roomOf z p1 p2), vm_bi s0_14)
  else
    (0, vm_bi s0_14)
def f_X6_room (z : Nat → Int32) (p1 : Int32) (p2 : Int32) : Int32 × Int32 :=
  if (vm_bi (f_X6_isMandate z p1)) = 0 then
    f_X6_room_j14 z p1 p2 true
  else
    f_X6_room_j14 z p1 p2 false
def o_X6_room_j14 (z : Nat → Int32) (p1 : Int32) (p2 : Int32) (s0_14 : Bool) : Prop :=
  if (vm_bi s0_14) ≤ 0 then
    o_X6_roomOf z p1 p2 ∧
    (True)
  else
    True
def o_X6_room (z : Nat → Int32) (p1 : Int32) (p2 : Int32) : Prop :=
  if (vm_bi (f_X6_isMandate z p1)) = 0 then
    o_X6_room_j14 z p1 p2 true
  else
    o_X6_room_j14 z p1 p2 false
theorem yd_X6_room : yX6_room.cls = RX6 ∧ yX6_room.cls ≠ "java/lang/invoke/MethodHandle" ∧ yX6_room.cls ≠ "java/lang/invoke/VarHandle" ∧ (parseMethodDescriptor yX6_room.desc).map (fun d => d.parameters.length) = some 2 := by decide +kernel
set_option maxHeartbeats 4000000 in
set_option maxRecDepth 100000 in
theorem c_X6_room (l : Launch) (dC : Nat → ClassId) (dI : Nat → Nat → Nat) (cI cB : ClassId) (h0 h1 h2 h3 h4 : Nat) (sz : Nat) (states : Int32) (ln : Int32) (thr : Int32) (rd : Int32) (num : Int32) (due : Int32) (hash : Int64) (z : Nat → Int32) (hi : Nat → Int32) (tx : Nat → Int32) (pa : Nat → Int32) (p1 : Int32) (p2 : Int32) (eO : o_X6_room z p1 p2) : Met l yX6_room wsX6_room ({ frames := 4, cells := 0, slots := 0, locals := 91 }) (vm_prw [.ref h0, .int p1, .int p2] (dC, dI) [(h0, .inr (6, [.ref h1, .int states, .ref h2, .int ln, .ref h3, .int thr, .ref h4, .int rd, .int num, .int due, .long hash])), (h1, .inl (cI, 163, .inl z)), (h2, .inl (cI, 978, .inl hi)), (h3, .inl (cI, 60, .inl tx)), (h4, .inl (cI, 42, .inl pa))] cI cB sz) (va_Qi (fun (r9 : Int32) (_ : Unit) => r9 = (f_X6_room z p1 p2).1) (fun _ t => va_P (dC, dI) vwCl [(h0, .inr (6, [.ref h1, .int states, .ref h2, .int ln, .ref h3, .int ((f_X6_room z p1 p2).2), .ref h4, .int rd, .int num, .int due, .long hash])), (h1, .inl (cI, 163, .inl z)), (h2, .inl (cI, 978, .inl hi)), (h3, .inl (cI, 60, .inl tx)), (h4, .inl (cI, 42, .inl pa))] t.heap) (va_A [(h0, .inr (6, [.ref h1, .int states, .ref h2, .int ln, .ref h3, .int thr, .ref h4, .int rd, .int num, .int due, .long hash])), (h1, .inl (cI, 163, .inl z)), (h2, .inl (cI, 978, .inl hi)), (h3, .inl (cI, 60, .inl tx)), (h4, .inl (cI, 42, .inl pa))] sz)) 0 0 (va_A [(h0, .inr (6, [.ref h1, .int states, .ref h2, .int ln, .ref h3, .int thr, .ref h4, .int rd, .int num, .int due, .long hash])), (h1, .inl (cI, 163, .inl z)), (h2, .inl (cI, 978, .inl hi)), (h3, .inl (cI, 60, .inl tx)), (h4, .inl (cI, 42, .inl pa))] sz) := by
  refine Met.ofW (cc := cX6_room) (maxL := 3) (ret := (some .int)) (by decide) rfl ?_
  intro p e s m args below meth c s₁ B hml hv
  obtain ⟨rfl, hsz, hP, hK, hN, hD0⟩ := hv
  have hx := B.exec
  have hb := B.bytes
  have hr := B.returns
  have hts := atoms_spec (ws := wsX6_room) B.pre
  have hown : s.vm.findClass RX6 = some m.cls := findClass_of_methodNamed B.named
  have hlocks := B.notSynchronized
  subst hsz
  have hD := hD0.self (sz := s.heap.size)
  generalize hAe : va_A [(h0, .inr (6, [.ref h1, .int states, .ref h2, .int ln, .ref h3, .int thr, .ref h4, .int rd, .int num, .int due, .long hash])), (h1, .inl (cI, 163, .inl z)), (h2, .inl (cI, 978, .inl hi)), (h3, .inl (cI, 60, .inl tx)), (h4, .inl (cI, 42, .inl pa))] s.heap.size = A at hD ⊢
  have hA : ∀ q : Nat, s.heap.size ≤ q → A q := fun q h => by rw [← hAe]; exact Or.inr h
  have hS : va_S A s.heap s.heap [] := va_S.rf
  have hP : va_P (dC, dI) vwCl [(h0, .inr (6, [.ref h1, .int states, .ref h2, .int ln, .ref h3, .int thr, .ref h4, .int rd, .int num, .int due, .long hash])), (h1, .inl (cI, 163, .inl z)), (h2, .inl (cI, 978, .inl hi)), (h3, .inl (cI, 60, .inl tx)), (h4, .inl (cI, 42, .inl pa))] s.heap := hP
  have kw1 := hts (.fieldLink RX6 22 "LapseMandatesModel" "thrown" "I") (List.mem_of_getElem? (i := 1) rfl)
  have iwsX60 : ∀ w ∈ wsX60, w ∈ wsX6_room := fun w h => List.mem_cons_of_mem _ (List.mem_append_right _ h)
  generalize hrr : f_X6_room z p1 p2 = rr
  have eF := hrr.symm
  have hl := lv_entry ([.ref h0, .int p1, .int p2]) (n := 3) (Nat.le_of_ble_eq_true rfl)
  rw [lg_entry_eq]
  generalize (lg_sl ([.ref h0, .int p1, .int p2]) ++ List.replicate (3 - (lg_sl ([.ref h0, .int p1, .int p2])).length) Slot.unset).toArray = ls at hl ⊢
  have hl : lv_has ls 3 [(0, .ref h0), (1, .int p1), (2, .int p2)] := hl
  have hJ14 : ∀ (s0_14 : Bool), rr = f_X6_room_j14 z p1 p2 s0_14 → o_X6_room_j14 z p1 p2 s0_14 → ∀ (H : Heap) (locs : List Loc), va_P (dC, dI) vwCl [(h0, .inr (6, [.ref h1, .int states, .ref h2, .int ln, .ref h3, .int thr, .ref h4, .int rd, .int num, .int due, .long hash])), (h1, .inl (cI, 163, .inl z)), (h2, .inl (cI, 978, .inl hi)), (h3, .inl (cI, 60, .inl tx)), (h4, .inl (cI, 42, .inl pa))] H → va_D A [(h0, .inr (6, [.ref h1, .int states, .ref h2, .int ln, .ref h3, .int thr, .ref h4, .int rd, .int num, .int due, .long hash])), (h1, .inl (cI, 163, .inl z)), (h2, .inl (cI, 978, .inl hi)), (h3, .inl (cI, 60, .inl tx)), (h4, .inl (cI, 42, .inl pa))] → va_S A s.heap H locs → ∀ (ls : Array Slot), lv_has ls 3 [(0, .ref h0), (1, .int p1), (2, .int p2)] → W p l e (headSpec wsX6_room ({ frames := 4, cells := 0, slots := 0, locals := 91 })).room s m ([.ref h0, .int p1, .int p2] : List Value).toArray below meth c H locs 0 0 (MQ below (va_Qi (fun (r9 : Int32) (_ : Unit) => r9 = rr.1) (fun _ t => va_P (dC, dI) vwCl [(h0, .inr (6, [.ref h1, .int states, .ref h2, .int ln, .ref h3, .int rr.2, .ref h4, .int rd, .int num, .int due, .long hash])), (h1, .inl (cI, 163, .inl z)), (h2, .inl (cI, 978, .inl hi)), (h3, .inl (cI, 60, .inl tx)), (h4, .inl (cI, 42, .inl pa))] t.heap) A) ([.ref h0, .int p1, .int p2] : List Value).toArray s 0 0 A) (F0 m 14 ls [.int (vm_bi s0_14), .ref h0]) := by
    intro s0_14 eF eO H locs hP hD hS ls hl
    rw [o_X6_room_j14] at eO
    refine va_put (D := (dC, dI)) (ci := 6) (v := .int (vm_bi s0_14)) (ty := .int) (C := RX6) (T := TX6) (N := 11) hx hb hts iwsX60 tyX6 tyX6_ok nmX6 hown hK hP hD hS 0 rfl rfl 5 (by decide) kw1 (fun _ h9 => h9) rfl (by decide +kernel) rfl rfl (Nat.le_of_ble_eq_true rfl) dX6_room_14 (fun H locs hP hD hS => ?_)
    have hP : va_P (dC, dI) vwCl [(h0, .inr (6, [.ref h1, .int states, .ref h2, .int ln, .ref h3, .int (vm_bi s0_14), .ref h4, .int rd, .int num, .int due, .long hash])), (h1, .inl (cI, 163, .inl z)), (h2, .inl (cI, 978, .inl hi)), (h3, .inl (cI, 60, .inl tx)), (h4, .inl (cI, 42, .inl pa))] H := hP
    have hD : va_D A [(h0, .inr (6, [.ref h1, .int states, .ref h2, .int ln, .ref h3, .int (vm_bi s0_14), .ref h4, .int rd, .int num, .int due, .long hash])), (h1, .inl (cI, 163, .inl z)), (h2, .inl (cI, 978, .inl hi)), (h3, .inl (cI, 60, .inl tx)), (h4, .inl (cI, 42, .inl pa))] := hD
    refine lv_aload_n hx hb dX6_room_17 rfl (lv_at hl 0 rfl) ?_
    refine va_get (D := (dC, dI)) (ci := 6) (v := .int (vm_bi s0_14)) (C := RX6) (T := TX6) (N := 11) hx hb hts iwsX60 hown hK hP 0 rfl rfl 5 (by decide) kw1 (fun _ h9 => h9) rfl dX6_room_18 ?_
    refine lv_if_le (tgt := 28) hx hb dX6_room_21 (by decide) (fun c_1 => ?_) (fun c_1 => ?_)
    · rw [if_pos c_1] at eO
      refine lv_aload_n hx hb dX6_room_28 rfl (lv_at hl 0 rfl) ?_
      refine lv_iload_n hx hb dX6_room_29 rfl (lv_at hl 1 rfl) ?_
      refine lv_iload_n hx hb dX6_room_30 rfl (lv_at hl 2 rfl) ?_
      obtain ⟨hv_2, eO⟩ := eO
      refine vm_roVx (v := (f_X6_roomOf z p1 p2)) (As := [.int p1, .int p2]) (rest := []) (T := TX6) (N := 11) (wc := [(h0, .inr (6, [.ref h1, .int states, .ref h2, .int ln, .ref h3, .int (vm_bi s0_14), .ref h4, .int rd, .int num, .int due, .long hash])), (h1, .inl (cI, 163, .inl z)), (h2, .inl (cI, 978, .inl hi)), (h3, .inl (cI, 60, .inl tx)), (h4, .inl (cI, 42, .inl pa))]) ⟨hx, hb, hml, hown, hts⟩ hK hN hP hl.1 ⟨Nat.le_of_ble_eq_true rfl, Nat.le_of_ble_eq_true rfl⟩ (c_X6_roomOf l dC dI cI cB h0 h1 h2 h3 h4 states ln (vm_bi s0_14) rd num due hash z hi tx pa p1 p2 hv_2) (cwV 2 hts gX6_room_X6_roomOf rfl rfl rfl yd_X6_roomOf ⟨Nat.le_of_ble_eq_true rfl, Nat.le_of_ble_eq_true rfl⟩) [0, 1, 2, 3, 4] rfl 6 rfl rfl rfl rfl (Nat.le_of_ble_eq_true rfl) dX6_room_31 ?_
      have e9 : rr = (((f_X6_roomOf z p1 p2), vm_bi s0_14) : Int32 × Int32) := eF.trans (by rw [f_X6_room_j14, if_pos c_1])
      exact W.iret (v := (f_X6_roomOf z p1 p2)) hx hb hr (fun t ht hW => ⟨⟨_, (), rfl, by rw [e9], (by rw [e9]; show va_P _ _ _ t.heap; rw [ht]; exact hP)⟩, hS.F ht⟩) hS.2.2 dX6_room_34
    · rw [if_neg c_1] at eO
      refine lv_iconst (v := 0) hx hb dX6_room_24 (by decide) ?_
      refine lv_goto (tgt := 34) hx hb dX6_room_25 (by decide) ?_
      have e9 : rr = ((0, vm_bi s0_14) : Int32 × Int32) := eF.trans (by rw [f_X6_room_j14, if_neg c_1])
      exact W.iret (v := 0) hx hb hr (fun t ht hW => ⟨⟨_, (), rfl, by rw [e9], (by rw [e9]; show va_P _ _ _ t.heap; rw [ht]; exact hP)⟩, hS.F ht⟩) hS.2.2 dX6_room_34
  rw [o_X6_room] at eO
  refine lv_aload_n hx hb dX6_room_0 rfl (lv_at hl 0 rfl) ?_
  refine lv_aload_n hx hb dX6_room_1 rfl (lv_at hl 0 rfl) ?_
  refine lv_iload_n hx hb dX6_room_2 rfl (lv_at hl 1 rfl) ?_
  refine vm_roVx (v := vm_bi (f_X6_isMandate z p1)) (As := [.int p1]) (rest := [.ref h0]) (T := TX6) (N := 11) (wc := [(h0, .inr (6, [.ref h1, .int states, .ref h2, .int ln, .ref h3, .int thr, .ref h4, .int rd, .int num, .int due, .long hash])), (h1, .inl (cI, 163, .inl z)), (h2, .inl (cI, 978, .inl hi)), (h3, .inl (cI, 60, .inl tx)), (h4, .inl (cI, 42, .inl pa))]) ⟨hx, hb, hml, hown, hts⟩ hK hN hP hl.1 ⟨Nat.le_of_ble_eq_true rfl, Nat.le_of_ble_eq_true rfl⟩ (c_X6_isMandate l dC dI cI cB h0 h1 h2 h3 h4 states ln thr rd num due hash z hi tx pa p1) (cwV 1 hts gX6_room_X6_isMandate rfl rfl rfl yd_X6_isMandate ⟨Nat.le_of_ble_eq_true rfl, Nat.le_of_ble_eq_true rfl⟩) [0, 1, 2, 3, 4] rfl 6 rfl rfl rfl rfl (Nat.le_of_ble_eq_true rfl) dX6_room_3 ?_
  refine lv_if_eq (tgt := 13) hx hb dX6_room_6 (by decide) (fun c_3 => ?_) (fun c_3 => ?_)
  · rw [if_pos c_3] at eO
    refine lv_iconst (v := 1) hx hb dX6_room_13 (by decide) ?_
    exact hJ14 true (eF.trans (by rw [f_X6_room, if_pos c_3])) eO _ _ hP hD hS ls (lv_sub hl [0, 1, 2] rfl)
  · rw [if_neg c_3] at eO
    refine lv_iconst (v := 0) hx hb dX6_room_9 (by decide) ?_
    refine lv_goto (tgt := 14) hx hb dX6_room_10 (by decide) ?_
    exact hJ14 false (eF.trans (by rw [f_X6_room, if_neg c_3])) eO _ _ hP hD hS ls (lv_sub hl [0, 1, 2] rfl)

def f_X6_lapsing (z : Nat → Int32) (p1 : Int32) : Int32 :=
  if (vm_bi (f_X6_stands z p1)) = 0 then
    0
  else
    (f_X6_standingUnder z p1)
def o_X6_lapsing (z : Nat → Int32) (p1 : Int32) : Prop :=
  o_X6_stands z p1 ∧
  (if (vm_bi (f_X6_stands z p1)) = 0 then
    True
  else
    o_X6_standingUnder z p1 ∧
    (True))
theorem yd_X6_lapsing : yX6_lapsing.cls = RX6 ∧ yX6_lapsing.cls ≠ "java/lang/invoke/MethodHandle" ∧ yX6_lapsing.cls ≠ "java/lang/invoke/VarHandle" ∧ (parseMethodDescriptor yX6_lapsing.desc).map (fun d => d.parameters.length) = some 1 := by decide +kernel
set_option maxHeartbeats 4000000 in
set_option maxRecDepth 100000 in
theorem c_X6_lapsing (l : Launch) (dC : Nat → ClassId) (dI : Nat → Nat → Nat) (cI cB : ClassId) (h0 h1 h2 h3 h4 : Nat) (states : Int32) (ln : Int32) (thr : Int32) (rd : Int32) (num : Int32) (due : Int32) (hash : Int64) (z : Nat → Int32) (hi : Nat → Int32) (tx : Nat → Int32) (pa : Nat → Int32) (p1 : Int32) (eO : o_X6_lapsing z p1) : Met l yX6_lapsing wsX6_lapsing ({ frames := 3, cells := 0, slots := 0, locals := 69 }) (vm_pre [.ref h0, .int p1] (dC, dI) [(h0, .inr (6, [.ref h1, .int states, .ref h2, .int ln, .ref h3, .int thr, .ref h4, .int rd, .int num, .int due, .long hash])), (h1, .inl (cI, 163, .inl z)), (h2, .inl (cI, 978, .inl hi)), (h3, .inl (cI, 60, .inl tx)), (h4, .inl (cI, 42, .inl pa))] cI cB) (vp_Si (fun r9 : Int32 => r9 = (f_X6_lapsing z p1))) 0 0 (fun _ => False) := by
  refine Met.ofW (cc := cX6_lapsing) (maxL := 2) (ret := (some .int)) (by decide) rfl ?_
  intro p e s m args below meth c s₁ B hml hv
  obtain ⟨rfl, hP, hK, hN⟩ := hv
  have hx := B.exec
  have hb := B.bytes
  have hr := B.returns
  have hts := atoms_spec (ws := wsX6_lapsing) B.pre
  have hown : s.vm.findClass RX6 = some m.cls := findClass_of_methodNamed B.named
  have hlocks := B.notSynchronized
  generalize hrr : f_X6_lapsing z p1 = rr
  have eF := hrr.symm
  have hl := lv_entry ([.ref h0, .int p1]) (n := 2) (Nat.le_of_ble_eq_true rfl)
  rw [lg_entry_eq]
  generalize (lg_sl ([.ref h0, .int p1]) ++ List.replicate (2 - (lg_sl ([.ref h0, .int p1])).length) Slot.unset).toArray = ls at hl ⊢
  have hl : lv_has ls 2 [(0, .ref h0), (1, .int p1)] := hl
  rw [o_X6_lapsing] at eO
  refine lv_aload_n hx hb dX6_lapsing_0 rfl (lv_at hl 0 rfl) ?_
  refine lv_iload_n hx hb dX6_lapsing_1 rfl (lv_at hl 1 rfl) ?_
  obtain ⟨hv_1, eO⟩ := eO
  refine vm_roVx (v := vm_bi (f_X6_stands z p1)) (As := [.int p1]) (rest := []) (T := TX6) (N := 11) (wc := [(h0, .inr (6, [.ref h1, .int states, .ref h2, .int ln, .ref h3, .int thr, .ref h4, .int rd, .int num, .int due, .long hash])), (h1, .inl (cI, 163, .inl z)), (h2, .inl (cI, 978, .inl hi)), (h3, .inl (cI, 60, .inl tx)), (h4, .inl (cI, 42, .inl pa))]) ⟨hx, hb, hml, hown, hts⟩ hK hN hP hl.1 ⟨Nat.le_of_ble_eq_true rfl, Nat.le_of_ble_eq_true rfl⟩ (c_X6_stands l dC dI cI cB h0 h1 h2 h3 h4 states ln thr rd num due hash z hi tx pa p1 hv_1) (cwV 1 hts gX6_lapsing_X6_stands rfl rfl rfl yd_X6_stands ⟨Nat.le_of_ble_eq_true rfl, Nat.le_of_ble_eq_true rfl⟩) [0, 1, 2, 3, 4] rfl 6 rfl rfl rfl rfl (Nat.le_of_ble_eq_true rfl) dX6_lapsing_2 ?_
  refine lv_if_eq (tgt := 16) hx hb dX6_lapsing_5 (by decide) (fun c_2 => ?_) (fun c_2 => ?_)
  · rw [if_pos c_2] at eO
    refine lv_iconst (v := 0) hx hb dX6_lapsing_16 (by decide) ?_
    have e9 : rr = 0 := eF.trans (by rw [f_X6_lapsing, if_pos c_2])
    exact W.iret (v := 0) hx hb hr (fun t ht hW => ⟨_, rfl, e9.symm, ht⟩) (fun _ hq => by cases hq) dX6_lapsing_17
  · rw [if_neg c_2] at eO
    refine lv_aload_n hx hb dX6_lapsing_8 rfl (lv_at hl 0 rfl) ?_
    refine lv_iload_n hx hb dX6_lapsing_9 rfl (lv_at hl 1 rfl) ?_
    obtain ⟨hv_3, eO⟩ := eO
    refine vm_roVx (v := (f_X6_standingUnder z p1)) (As := [.int p1]) (rest := []) (T := TX6) (N := 11) (wc := [(h0, .inr (6, [.ref h1, .int states, .ref h2, .int ln, .ref h3, .int thr, .ref h4, .int rd, .int num, .int due, .long hash])), (h1, .inl (cI, 163, .inl z)), (h2, .inl (cI, 978, .inl hi)), (h3, .inl (cI, 60, .inl tx)), (h4, .inl (cI, 42, .inl pa))]) ⟨hx, hb, hml, hown, hts⟩ hK hN hP hl.1 ⟨Nat.le_of_ble_eq_true rfl, Nat.le_of_ble_eq_true rfl⟩ (c_X6_standingUnder l dC dI cI cB h0 h1 h2 h3 h4 states ln thr rd num due hash z hi tx pa p1 hv_3) (cwV 1 hts gX6_lapsing_X6_standingUnder rfl rfl rfl yd_X6_standingUnder ⟨Nat.le_of_ble_eq_true rfl, Nat.le_of_ble_eq_true rfl⟩) [0, 1, 2, 3, 4] rfl 6 rfl rfl rfl rfl (Nat.le_of_ble_eq_true rfl) dX6_lapsing_10 ?_
    refine lv_goto (tgt := 17) hx hb dX6_lapsing_13 (by decide) ?_
    have e9 : rr = (f_X6_standingUnder z p1) := eF.trans (by rw [f_X6_lapsing, if_neg c_2])
    exact W.iret (v := (f_X6_standingUnder z p1)) hx hb hr (fun t ht hW => ⟨_, rfl, e9.symm, ht⟩) (fun _ hq => by cases hq) dX6_lapsing_17

def f_X6_under_j14 (z : Nat → Int32) (p1 : Int32) (s0_14 : Bool) : Int32 × Int32 :=
  if (vm_bi s0_14) ≤ 0 then
    ((f_X6_lapsing z p1), vm_bi s0_14)
  else
    (0, vm_bi s0_14)
def f_X6_under (z : Nat → Int32) (p1 : Int32) : Int32 × Int32 :=
  if (vm_bi (f_X6_isMandate z p1)) = 0 then
    f_X6_under_j14 z p1 true
  else
    f_X6_under_j14 z p1 false
def o_X6_under_j14 (z : Nat → Int32) (p1 : Int32) (s0_14 : Bool) : Prop :=
  if (vm_bi s0_14) ≤ 0 then
    o_X6_lapsing z p1 ∧
    (True)
  else
    True
def o_X6_under (z : Nat → Int32) (p1 : Int32) : Prop :=
  if (vm_bi (f_X6_isMandate z p1)) = 0 then
    o_X6_under_j14 z p1 true
  else
    o_X6_under_j14 z p1 false
theorem yd_X6_under : yX6_under.cls = RX6 ∧ yX6_under.cls ≠ "java/lang/invoke/MethodHandle" ∧ yX6_under.cls ≠ "java/lang/invoke/VarHandle" ∧ (parseMethodDescriptor yX6_under.desc).map (fun d => d.parameters.length) = some 1 := by decide +kernel
set_option maxHeartbeats 4000000 in
set_option maxRecDepth 100000 in
theorem c_X6_under (l : Launch) (dC : Nat → ClassId) (dI : Nat → Nat → Nat) (cI cB : ClassId) (h0 h1 h2 h3 h4 : Nat) (sz : Nat) (states : Int32) (ln : Int32) (thr : Int32) (rd : Int32) (num : Int32) (due : Int32) (hash : Int64) (z : Nat → Int32) (hi : Nat → Int32) (tx : Nat → Int32) (pa : Nat → Int32) (p1 : Int32) (eO : o_X6_under z p1) : Met l yX6_under wsX6_under ({ frames := 4, cells := 0, slots := 0, locals := 90 }) (vm_prw [.ref h0, .int p1] (dC, dI) [(h0, .inr (6, [.ref h1, .int states, .ref h2, .int ln, .ref h3, .int thr, .ref h4, .int rd, .int num, .int due, .long hash])), (h1, .inl (cI, 163, .inl z)), (h2, .inl (cI, 978, .inl hi)), (h3, .inl (cI, 60, .inl tx)), (h4, .inl (cI, 42, .inl pa))] cI cB sz) (va_Qi (fun (r9 : Int32) (_ : Unit) => r9 = (f_X6_under z p1).1) (fun _ t => va_P (dC, dI) vwCl [(h0, .inr (6, [.ref h1, .int states, .ref h2, .int ln, .ref h3, .int ((f_X6_under z p1).2), .ref h4, .int rd, .int num, .int due, .long hash])), (h1, .inl (cI, 163, .inl z)), (h2, .inl (cI, 978, .inl hi)), (h3, .inl (cI, 60, .inl tx)), (h4, .inl (cI, 42, .inl pa))] t.heap) (va_A [(h0, .inr (6, [.ref h1, .int states, .ref h2, .int ln, .ref h3, .int thr, .ref h4, .int rd, .int num, .int due, .long hash])), (h1, .inl (cI, 163, .inl z)), (h2, .inl (cI, 978, .inl hi)), (h3, .inl (cI, 60, .inl tx)), (h4, .inl (cI, 42, .inl pa))] sz)) 0 0 (va_A [(h0, .inr (6, [.ref h1, .int states, .ref h2, .int ln, .ref h3, .int thr, .ref h4, .int rd, .int num, .int due, .long hash])), (h1, .inl (cI, 163, .inl z)), (h2, .inl (cI, 978, .inl hi)), (h3, .inl (cI, 60, .inl tx)), (h4, .inl (cI, 42, .inl pa))] sz) := by
  refine Met.ofW (cc := cX6_under) (maxL := 2) (ret := (some .int)) (by decide) rfl ?_
  intro p e s m args below meth c s₁ B hml hv
  obtain ⟨rfl, hsz, hP, hK, hN, hD0⟩ := hv
  have hx := B.exec
  have hb := B.bytes
  have hr := B.returns
  have hts := atoms_spec (ws := wsX6_under) B.pre
  have hown : s.vm.findClass RX6 = some m.cls := findClass_of_methodNamed B.named
  have hlocks := B.notSynchronized
  subst hsz
  have hD := hD0.self (sz := s.heap.size)
  generalize hAe : va_A [(h0, .inr (6, [.ref h1, .int states, .ref h2, .int ln, .ref h3, .int thr, .ref h4, .int rd, .int num, .int due, .long hash])), (h1, .inl (cI, 163, .inl z)), (h2, .inl (cI, 978, .inl hi)), (h3, .inl (cI, 60, .inl tx)), (h4, .inl (cI, 42, .inl pa))] s.heap.size = A at hD ⊢
  have hA : ∀ q : Nat, s.heap.size ≤ q → A q := fun q h => by rw [← hAe]; exact Or.inr h
  have hS : va_S A s.heap s.heap [] := va_S.rf
  have hP : va_P (dC, dI) vwCl [(h0, .inr (6, [.ref h1, .int states, .ref h2, .int ln, .ref h3, .int thr, .ref h4, .int rd, .int num, .int due, .long hash])), (h1, .inl (cI, 163, .inl z)), (h2, .inl (cI, 978, .inl hi)), (h3, .inl (cI, 60, .inl tx)), (h4, .inl (cI, 42, .inl pa))] s.heap := hP
  have kw1 := hts (.fieldLink RX6 22 "LapseMandatesModel" "thrown" "I") (List.mem_of_getElem? (i := 1) rfl)
  have iwsX60 : ∀ w ∈ wsX60, w ∈ wsX6_under := fun w h => List.mem_cons_of_mem _ (List.mem_append_right _ h)
  generalize hrr : f_X6_under z p1 = rr
  have eF := hrr.symm
  have hl := lv_entry ([.ref h0, .int p1]) (n := 2) (Nat.le_of_ble_eq_true rfl)
  rw [lg_entry_eq]
  generalize (lg_sl ([.ref h0, .int p1]) ++ List.replicate (2 - (lg_sl ([.ref h0, .int p1])).length) Slot.unset).toArray = ls at hl ⊢
  have hl : lv_has ls 2 [(0, .ref h0), (1, .int p1)] := hl
  have hJ14 : ∀ (s0_14 : Bool), rr = f_X6_under_j14 z p1 s0_14 → o_X6_under_j14 z p1 s0_14 → ∀ (H : Heap) (locs : List Loc), va_P (dC, dI) vwCl [(h0, .inr (6, [.ref h1, .int states, .ref h2, .int ln, .ref h3, .int thr, .ref h4, .int rd, .int num, .int due, .long hash])), (h1, .inl (cI, 163, .inl z)), (h2, .inl (cI, 978, .inl hi)), (h3, .inl (cI, 60, .inl tx)), (h4, .inl (cI, 42, .inl pa))] H → va_D A [(h0, .inr (6, [.ref h1, .int states, .ref h2, .int ln, .ref h3, .int thr, .ref h4, .int rd, .int num, .int due, .long hash])), (h1, .inl (cI, 163, .inl z)), (h2, .inl (cI, 978, .inl hi)), (h3, .inl (cI, 60, .inl tx)), (h4, .inl (cI, 42, .inl pa))] → va_S A s.heap H locs → ∀ (ls : Array Slot), lv_has ls 2 [(0, .ref h0), (1, .int p1)] → W p l e (headSpec wsX6_under ({ frames := 4, cells := 0, slots := 0, locals := 90 })).room s m ([.ref h0, .int p1] : List Value).toArray below meth c H locs 0 0 (MQ below (va_Qi (fun (r9 : Int32) (_ : Unit) => r9 = rr.1) (fun _ t => va_P (dC, dI) vwCl [(h0, .inr (6, [.ref h1, .int states, .ref h2, .int ln, .ref h3, .int rr.2, .ref h4, .int rd, .int num, .int due, .long hash])), (h1, .inl (cI, 163, .inl z)), (h2, .inl (cI, 978, .inl hi)), (h3, .inl (cI, 60, .inl tx)), (h4, .inl (cI, 42, .inl pa))] t.heap) A) ([.ref h0, .int p1] : List Value).toArray s 0 0 A) (F0 m 14 ls [.int (vm_bi s0_14), .ref h0]) := by
    intro s0_14 eF eO H locs hP hD hS ls hl
    rw [o_X6_under_j14] at eO
    refine va_put (D := (dC, dI)) (ci := 6) (v := .int (vm_bi s0_14)) (ty := .int) (C := RX6) (T := TX6) (N := 11) hx hb hts iwsX60 tyX6 tyX6_ok nmX6 hown hK hP hD hS 0 rfl rfl 5 (by decide) kw1 (fun _ h9 => h9) rfl (by decide +kernel) rfl rfl (Nat.le_of_ble_eq_true rfl) dX6_under_14 (fun H locs hP hD hS => ?_)
    have hP : va_P (dC, dI) vwCl [(h0, .inr (6, [.ref h1, .int states, .ref h2, .int ln, .ref h3, .int (vm_bi s0_14), .ref h4, .int rd, .int num, .int due, .long hash])), (h1, .inl (cI, 163, .inl z)), (h2, .inl (cI, 978, .inl hi)), (h3, .inl (cI, 60, .inl tx)), (h4, .inl (cI, 42, .inl pa))] H := hP
    have hD : va_D A [(h0, .inr (6, [.ref h1, .int states, .ref h2, .int ln, .ref h3, .int (vm_bi s0_14), .ref h4, .int rd, .int num, .int due, .long hash])), (h1, .inl (cI, 163, .inl z)), (h2, .inl (cI, 978, .inl hi)), (h3, .inl (cI, 60, .inl tx)), (h4, .inl (cI, 42, .inl pa))] := hD
    refine lv_aload_n hx hb dX6_under_17 rfl (lv_at hl 0 rfl) ?_
    refine va_get (D := (dC, dI)) (ci := 6) (v := .int (vm_bi s0_14)) (C := RX6) (T := TX6) (N := 11) hx hb hts iwsX60 hown hK hP 0 rfl rfl 5 (by decide) kw1 (fun _ h9 => h9) rfl dX6_under_18 ?_
    refine lv_if_le (tgt := 28) hx hb dX6_under_21 (by decide) (fun c_1 => ?_) (fun c_1 => ?_)
    · rw [if_pos c_1] at eO
      refine lv_aload_n hx hb dX6_under_28 rfl (lv_at hl 0 rfl) ?_
      refine lv_iload_n hx hb dX6_under_29 rfl (lv_at hl 1 rfl) ?_
      obtain ⟨hv_2, eO⟩ := eO
      refine vm_roVx (v := (f_X6_lapsing z p1)) (As := [.int p1]) (rest := []) (T := TX6) (N := 11) (wc := [(h0, .inr (6, [.ref h1, .int states, .ref h2, .int ln, .ref h3, .int (vm_bi s0_14), .ref h4, .int rd, .int num, .int due, .long hash])), (h1, .inl (cI, 163, .inl z)), (h2, .inl (cI, 978, .inl hi)), (h3, .inl (cI, 60, .inl tx)), (h4, .inl (cI, 42, .inl pa))]) ⟨hx, hb, hml, hown, hts⟩ hK hN hP hl.1 ⟨Nat.le_of_ble_eq_true rfl, Nat.le_of_ble_eq_true rfl⟩ (c_X6_lapsing l dC dI cI cB h0 h1 h2 h3 h4 states ln (vm_bi s0_14) rd num due hash z hi tx pa p1 hv_2) (cwV 1 hts gX6_under_X6_lapsing rfl rfl rfl yd_X6_lapsing ⟨Nat.le_of_ble_eq_true rfl, Nat.le_of_ble_eq_true rfl⟩) [0, 1, 2, 3, 4] rfl 6 rfl rfl rfl rfl (Nat.le_of_ble_eq_true rfl) dX6_under_30 ?_
      have e9 : rr = (((f_X6_lapsing z p1), vm_bi s0_14) : Int32 × Int32) := eF.trans (by rw [f_X6_under_j14, if_pos c_1])
      exact W.iret (v := (f_X6_lapsing z p1)) hx hb hr (fun t ht hW => ⟨⟨_, (), rfl, by rw [e9], (by rw [e9]; show va_P _ _ _ t.heap; rw [ht]; exact hP)⟩, hS.F ht⟩) hS.2.2 dX6_under_33
    · rw [if_neg c_1] at eO
      refine lv_iconst (v := 0) hx hb dX6_under_24 (by decide) ?_
      refine lv_goto (tgt := 33) hx hb dX6_under_25 (by decide) ?_
      have e9 : rr = ((0, vm_bi s0_14) : Int32 × Int32) := eF.trans (by rw [f_X6_under_j14, if_neg c_1])
      exact W.iret (v := 0) hx hb hr (fun t ht hW => ⟨⟨_, (), rfl, by rw [e9], (by rw [e9]; show va_P _ _ _ t.heap; rw [ht]; exact hP)⟩, hS.F ht⟩) hS.2.2 dX6_under_33
  rw [o_X6_under] at eO
  refine lv_aload_n hx hb dX6_under_0 rfl (lv_at hl 0 rfl) ?_
  refine lv_aload_n hx hb dX6_under_1 rfl (lv_at hl 0 rfl) ?_
  refine lv_iload_n hx hb dX6_under_2 rfl (lv_at hl 1 rfl) ?_
  refine vm_roVx (v := vm_bi (f_X6_isMandate z p1)) (As := [.int p1]) (rest := [.ref h0]) (T := TX6) (N := 11) (wc := [(h0, .inr (6, [.ref h1, .int states, .ref h2, .int ln, .ref h3, .int thr, .ref h4, .int rd, .int num, .int due, .long hash])), (h1, .inl (cI, 163, .inl z)), (h2, .inl (cI, 978, .inl hi)), (h3, .inl (cI, 60, .inl tx)), (h4, .inl (cI, 42, .inl pa))]) ⟨hx, hb, hml, hown, hts⟩ hK hN hP hl.1 ⟨Nat.le_of_ble_eq_true rfl, Nat.le_of_ble_eq_true rfl⟩ (c_X6_isMandate l dC dI cI cB h0 h1 h2 h3 h4 states ln thr rd num due hash z hi tx pa p1) (cwV 1 hts gX6_under_X6_isMandate rfl rfl rfl yd_X6_isMandate ⟨Nat.le_of_ble_eq_true rfl, Nat.le_of_ble_eq_true rfl⟩) [0, 1, 2, 3, 4] rfl 6 rfl rfl rfl rfl (Nat.le_of_ble_eq_true rfl) dX6_under_3 ?_
  refine lv_if_eq (tgt := 13) hx hb dX6_under_6 (by decide) (fun c_3 => ?_) (fun c_3 => ?_)
  · rw [if_pos c_3] at eO
    refine lv_iconst (v := 1) hx hb dX6_under_13 (by decide) ?_
    exact hJ14 true (eF.trans (by rw [f_X6_under, if_pos c_3])) eO _ _ hP hD hS ls (lv_sub hl [0, 1] rfl)
  · rw [if_neg c_3] at eO
    refine lv_iconst (v := 0) hx hb dX6_under_9 (by decide) ?_
    refine lv_goto (tgt := 14) hx hb dX6_under_10 (by decide) ?_
    exact hJ14 false (eF.trans (by rw [f_X6_under, if_neg c_3])) eO _ _ hP hD hS ls (lv_sub hl [0, 1] rfl)

def f_X6_narrowest_j14 (z : Nat → Int32) (p1 : Int32) (s0_14 : Bool) : Int32 × Int32 :=
  if (vm_bi s0_14) ≤ 0 then
    ((f_X6_narrowestOf z p1), vm_bi s0_14)
  else
    (0, vm_bi s0_14)
def f_X6_narrowest (z : Nat → Int32) (p1 : Int32) : Int32 × Int32 :=
  if (vm_bi (f_X6_isMandate z p1)) = 0 then
    f_X6_narrowest_j14 z p1 true
  else
    f_X6_narrowest_j14 z p1 false
def o_X6_narrowest_j14 (z : Nat → Int32) (p1 : Int32) (s0_14 : Bool) : Prop :=
  if (vm_bi s0_14) ≤ 0 then
    o_X6_narrowestOf z p1 ∧
    (True)
  else
    True
def o_X6_narrowest (z : Nat → Int32) (p1 : Int32) : Prop :=
  if (vm_bi (f_X6_isMandate z p1)) = 0 then
    o_X6_narrowest_j14 z p1 true
  else
    o_X6_narrowest_j14 z p1 false
theorem yd_X6_narrowest : yX6_narrowest.cls = RX6 ∧ yX6_narrowest.cls ≠ "java/lang/invoke/MethodHandle" ∧ yX6_narrowest.cls ≠ "java/lang/invoke/VarHandle" ∧ (parseMethodDescriptor yX6_narrowest.desc).map (fun d => d.parameters.length) = some 1 := by decide +kernel
set_option maxHeartbeats 4000000 in
set_option maxRecDepth 100000 in
theorem c_X6_narrowest (l : Launch) (dC : Nat → ClassId) (dI : Nat → Nat → Nat) (cI cB : ClassId) (h0 h1 h2 h3 h4 : Nat) (sz : Nat) (states : Int32) (ln : Int32) (thr : Int32) (rd : Int32) (num : Int32) (due : Int32) (hash : Int64) (z : Nat → Int32) (hi : Nat → Int32) (tx : Nat → Int32) (pa : Nat → Int32) (p1 : Int32) (eO : o_X6_narrowest z p1) : Met l yX6_narrowest wsX6_narrowest ({ frames := 3, cells := 0, slots := 0, locals := 66 }) (vm_prw [.ref h0, .int p1] (dC, dI) [(h0, .inr (6, [.ref h1, .int states, .ref h2, .int ln, .ref h3, .int thr, .ref h4, .int rd, .int num, .int due, .long hash])), (h1, .inl (cI, 163, .inl z)), (h2, .inl (cI, 978, .inl hi)), (h3, .inl (cI, 60, .inl tx)), (h4, .inl (cI, 42, .inl pa))] cI cB sz) (va_Qi (fun (r9 : Int32) (_ : Unit) => r9 = (f_X6_narrowest z p1).1) (fun _ t => va_P (dC, dI) vwCl [(h0, .inr (6, [.ref h1, .int states, .ref h2, .int ln, .ref h3, .int ((f_X6_narrowest z p1).2), .ref h4, .int rd, .int num, .int due, .long hash])), (h1, .inl (cI, 163, .inl z)), (h2, .inl (cI, 978, .inl hi)), (h3, .inl (cI, 60, .inl tx)), (h4, .inl (cI, 42, .inl pa))] t.heap) (va_A [(h0, .inr (6, [.ref h1, .int states, .ref h2, .int ln, .ref h3, .int thr, .ref h4, .int rd, .int num, .int due, .long hash])), (h1, .inl (cI, 163, .inl z)), (h2, .inl (cI, 978, .inl hi)), (h3, .inl (cI, 60, .inl tx)), (h4, .inl (cI, 42, .inl pa))] sz)) 0 0 (va_A [(h0, .inr (6, [.ref h1, .int states, .ref h2, .int ln, .ref h3, .int thr, .ref h4, .int rd, .int num, .int due, .long hash])), (h1, .inl (cI, 163, .inl z)), (h2, .inl (cI, 978, .inl hi)), (h3, .inl (cI, 60, .inl tx)), (h4, .inl (cI, 42, .inl pa))] sz) := by
  refine Met.ofW (cc := cX6_narrowest) (maxL := 2) (ret := (some .int)) (by decide) rfl ?_
  intro p e s m args below meth c s₁ B hml hv
  obtain ⟨rfl, hsz, hP, hK, hN, hD0⟩ := hv
  have hx := B.exec
  have hb := B.bytes
  have hr := B.returns
  have hts := atoms_spec (ws := wsX6_narrowest) B.pre
  have hown : s.vm.findClass RX6 = some m.cls := findClass_of_methodNamed B.named
  have hlocks := B.notSynchronized
  subst hsz
  have hD := hD0.self (sz := s.heap.size)
  generalize hAe : va_A [(h0, .inr (6, [.ref h1, .int states, .ref h2, .int ln, .ref h3, .int thr, .ref h4, .int rd, .int num, .int due, .long hash])), (h1, .inl (cI, 163, .inl z)), (h2, .inl (cI, 978, .inl hi)), (h3, .inl (cI, 60, .inl tx)), (h4, .inl (cI, 42, .inl pa))] s.heap.size = A at hD ⊢
  have hA : ∀ q : Nat, s.heap.size ≤ q → A q := fun q h => by rw [← hAe]; exact Or.inr h
  have hS : va_S A s.heap s.heap [] := va_S.rf
  have hP : va_P (dC, dI) vwCl [(h0, .inr (6, [.ref h1, .int states, .ref h2, .int ln, .ref h3, .int thr, .ref h4, .int rd, .int num, .int due, .long hash])), (h1, .inl (cI, 163, .inl z)), (h2, .inl (cI, 978, .inl hi)), (h3, .inl (cI, 60, .inl tx)), (h4, .inl (cI, 42, .inl pa))] s.heap := hP
  have kw1 := hts (.fieldLink RX6 22 "LapseMandatesModel" "thrown" "I") (List.mem_of_getElem? (i := 1) rfl)
  have iwsX60 : ∀ w ∈ wsX60, w ∈ wsX6_narrowest := fun w h => List.mem_cons_of_mem _ (List.mem_append_right _ h)
  generalize hrr : f_X6_narrowest z p1 = rr
  have eF := hrr.symm
  have hl := lv_entry ([.ref h0, .int p1]) (n := 2) (Nat.le_of_ble_eq_true rfl)
  rw [lg_entry_eq]
  generalize (lg_sl ([.ref h0, .int p1]) ++ List.replicate (2 - (lg_sl ([.ref h0, .int p1])).length) Slot.unset).toArray = ls at hl ⊢
  have hl : lv_has ls 2 [(0, .ref h0), (1, .int p1)] := hl
  have hJ14 : ∀ (s0_14 : Bool), rr = f_X6_narrowest_j14 z p1 s0_14 → o_X6_narrowest_j14 z p1 s0_14 → ∀ (H : Heap) (locs : List Loc), va_P (dC, dI) vwCl [(h0, .inr (6, [.ref h1, .int states, .ref h2, .int ln, .ref h3, .int thr, .ref h4, .int rd, .int num, .int due, .long hash])), (h1, .inl (cI, 163, .inl z)), (h2, .inl (cI, 978, .inl hi)), (h3, .inl (cI, 60, .inl tx)), (h4, .inl (cI, 42, .inl pa))] H → va_D A [(h0, .inr (6, [.ref h1, .int states, .ref h2, .int ln, .ref h3, .int thr, .ref h4, .int rd, .int num, .int due, .long hash])), (h1, .inl (cI, 163, .inl z)), (h2, .inl (cI, 978, .inl hi)), (h3, .inl (cI, 60, .inl tx)), (h4, .inl (cI, 42, .inl pa))] → va_S A s.heap H locs → ∀ (ls : Array Slot), lv_has ls 2 [(0, .ref h0), (1, .int p1)] → W p l e (headSpec wsX6_narrowest ({ frames := 3, cells := 0, slots := 0, locals := 66 })).room s m ([.ref h0, .int p1] : List Value).toArray below meth c H locs 0 0 (MQ below (va_Qi (fun (r9 : Int32) (_ : Unit) => r9 = rr.1) (fun _ t => va_P (dC, dI) vwCl [(h0, .inr (6, [.ref h1, .int states, .ref h2, .int ln, .ref h3, .int rr.2, .ref h4, .int rd, .int num, .int due, .long hash])), (h1, .inl (cI, 163, .inl z)), (h2, .inl (cI, 978, .inl hi)), (h3, .inl (cI, 60, .inl tx)), (h4, .inl (cI, 42, .inl pa))] t.heap) A) ([.ref h0, .int p1] : List Value).toArray s 0 0 A) (F0 m 14 ls [.int (vm_bi s0_14), .ref h0]) := by
    intro s0_14 eF eO H locs hP hD hS ls hl
    rw [o_X6_narrowest_j14] at eO
    refine va_put (D := (dC, dI)) (ci := 6) (v := .int (vm_bi s0_14)) (ty := .int) (C := RX6) (T := TX6) (N := 11) hx hb hts iwsX60 tyX6 tyX6_ok nmX6 hown hK hP hD hS 0 rfl rfl 5 (by decide) kw1 (fun _ h9 => h9) rfl (by decide +kernel) rfl rfl (Nat.le_of_ble_eq_true rfl) dX6_narrowest_14 (fun H locs hP hD hS => ?_)
    have hP : va_P (dC, dI) vwCl [(h0, .inr (6, [.ref h1, .int states, .ref h2, .int ln, .ref h3, .int (vm_bi s0_14), .ref h4, .int rd, .int num, .int due, .long hash])), (h1, .inl (cI, 163, .inl z)), (h2, .inl (cI, 978, .inl hi)), (h3, .inl (cI, 60, .inl tx)), (h4, .inl (cI, 42, .inl pa))] H := hP
    have hD : va_D A [(h0, .inr (6, [.ref h1, .int states, .ref h2, .int ln, .ref h3, .int (vm_bi s0_14), .ref h4, .int rd, .int num, .int due, .long hash])), (h1, .inl (cI, 163, .inl z)), (h2, .inl (cI, 978, .inl hi)), (h3, .inl (cI, 60, .inl tx)), (h4, .inl (cI, 42, .inl pa))] := hD
    refine lv_aload_n hx hb dX6_narrowest_17 rfl (lv_at hl 0 rfl) ?_
    refine va_get (D := (dC, dI)) (ci := 6) (v := .int (vm_bi s0_14)) (C := RX6) (T := TX6) (N := 11) hx hb hts iwsX60 hown hK hP 0 rfl rfl 5 (by decide) kw1 (fun _ h9 => h9) rfl dX6_narrowest_18 ?_
    refine lv_if_le (tgt := 28) hx hb dX6_narrowest_21 (by decide) (fun c_1 => ?_) (fun c_1 => ?_)
    · rw [if_pos c_1] at eO
      refine lv_aload_n hx hb dX6_narrowest_28 rfl (lv_at hl 0 rfl) ?_
      refine lv_iload_n hx hb dX6_narrowest_29 rfl (lv_at hl 1 rfl) ?_
      obtain ⟨hv_2, eO⟩ := eO
      refine vm_roVx (v := (f_X6_narrowestOf z p1)) (As := [.int p1]) (rest := []) (T := TX6) (N := 11) (wc := [(h0, .inr (6, [.ref h1, .int states, .ref h2, .int ln, .ref h3, .int (vm_bi s0_14), .ref h4, .int rd, .int num, .int due, .long hash])), (h1, .inl (cI, 163, .inl z)), (h2, .inl (cI, 978, .inl hi)), (h3, .inl (cI, 60, .inl tx)), (h4, .inl (cI, 42, .inl pa))]) ⟨hx, hb, hml, hown, hts⟩ hK hN hP hl.1 ⟨Nat.le_of_ble_eq_true rfl, Nat.le_of_ble_eq_true rfl⟩ (c_X6_narrowestOf l dC dI cI cB h0 h1 h2 h3 h4 states ln (vm_bi s0_14) rd num due hash z hi tx pa p1 hv_2) (cwV 1 hts gX6_narrowest_X6_narrowestOf rfl rfl rfl yd_X6_narrowestOf ⟨Nat.le_of_ble_eq_true rfl, Nat.le_of_ble_eq_true rfl⟩) [0, 1, 2, 3, 4] rfl 6 rfl rfl rfl rfl (Nat.le_of_ble_eq_true rfl) dX6_narrowest_30 ?_
      have e9 : rr = (((f_X6_narrowestOf z p1), vm_bi s0_14) : Int32 × Int32) := eF.trans (by rw [f_X6_narrowest_j14, if_pos c_1])
      exact W.iret (v := (f_X6_narrowestOf z p1)) hx hb hr (fun t ht hW => ⟨⟨_, (), rfl, by rw [e9], (by rw [e9]; show va_P _ _ _ t.heap; rw [ht]; exact hP)⟩, hS.F ht⟩) hS.2.2 dX6_narrowest_33
    · rw [if_neg c_1] at eO
      refine lv_iconst (v := 0) hx hb dX6_narrowest_24 (by decide) ?_
      refine lv_goto (tgt := 33) hx hb dX6_narrowest_25 (by decide) ?_
      have e9 : rr = ((0, vm_bi s0_14) : Int32 × Int32) := eF.trans (by rw [f_X6_narrowest_j14, if_neg c_1])
      exact W.iret (v := 0) hx hb hr (fun t ht hW => ⟨⟨_, (), rfl, by rw [e9], (by rw [e9]; show va_P _ _ _ t.heap; rw [ht]; exact hP)⟩, hS.F ht⟩) hS.2.2 dX6_narrowest_33
  rw [o_X6_narrowest] at eO
  refine lv_aload_n hx hb dX6_narrowest_0 rfl (lv_at hl 0 rfl) ?_
  refine lv_aload_n hx hb dX6_narrowest_1 rfl (lv_at hl 0 rfl) ?_
  refine lv_iload_n hx hb dX6_narrowest_2 rfl (lv_at hl 1 rfl) ?_
  refine vm_roVx (v := vm_bi (f_X6_isMandate z p1)) (As := [.int p1]) (rest := [.ref h0]) (T := TX6) (N := 11) (wc := [(h0, .inr (6, [.ref h1, .int states, .ref h2, .int ln, .ref h3, .int thr, .ref h4, .int rd, .int num, .int due, .long hash])), (h1, .inl (cI, 163, .inl z)), (h2, .inl (cI, 978, .inl hi)), (h3, .inl (cI, 60, .inl tx)), (h4, .inl (cI, 42, .inl pa))]) ⟨hx, hb, hml, hown, hts⟩ hK hN hP hl.1 ⟨Nat.le_of_ble_eq_true rfl, Nat.le_of_ble_eq_true rfl⟩ (c_X6_isMandate l dC dI cI cB h0 h1 h2 h3 h4 states ln thr rd num due hash z hi tx pa p1) (cwV 1 hts gX6_narrowest_X6_isMandate rfl rfl rfl yd_X6_isMandate ⟨Nat.le_of_ble_eq_true rfl, Nat.le_of_ble_eq_true rfl⟩) [0, 1, 2, 3, 4] rfl 6 rfl rfl rfl rfl (Nat.le_of_ble_eq_true rfl) dX6_narrowest_3 ?_
  refine lv_if_eq (tgt := 13) hx hb dX6_narrowest_6 (by decide) (fun c_3 => ?_) (fun c_3 => ?_)
  · rw [if_pos c_3] at eO
    refine lv_iconst (v := 1) hx hb dX6_narrowest_13 (by decide) ?_
    exact hJ14 true (eF.trans (by rw [f_X6_narrowest, if_pos c_3])) eO _ _ hP hD hS ls (lv_sub hl [0, 1] rfl)
  · rw [if_neg c_3] at eO
    refine lv_iconst (v := 0) hx hb dX6_narrowest_9 (by decide) ?_
    refine lv_goto (tgt := 14) hx hb dX6_narrowest_10 (by decide) ?_
    exact hJ14 false (eF.trans (by rw [f_X6_narrowest, if_neg c_3])) eO _ _ hP hD hS ls (lv_sub hl [0, 1] rfl)

def f_X6_daysLeft_j113 (x3_4 : Int32) (kj4 : Int32 → Int32 → Int32) (s0_113 : Int32) : Int32 :=
  kj4 s0_113 (x3_4 + 1)
def f_X6_daysLeft_j107 (x3_4 : Int32) (kj4 : Int32 → Int32 → Int32) (x4_107 : Int32) : Int32 :=
  f_X6_daysLeft_j113 x3_4 kj4 x4_107
def f_X6_daysLeft_j112 (x2_4 : Int32) (x3_4 : Int32) (kj4 : Int32 → Int32 → Int32) : Int32 :=
  f_X6_daysLeft_j113 x3_4 kj4 x2_4
def f_X6_daysLeft_j89 (x2_4 : Int32) (x3_4 : Int32) (kj4 : Int32 → Int32 → Int32) (x4_89 : Int32) (s0_89 : Bool) : Int32 :=
  if (vm_bi s0_89) = 0 then
    f_X6_daysLeft_j112 x2_4 x3_4 kj4
  else
    if x2_4 = (-1) then
      f_X6_daysLeft_j107 x3_4 kj4 x4_89
    else
      if x2_4 ≤ x4_89 then
        f_X6_daysLeft_j112 x2_4 x3_4 kj4
      else
        f_X6_daysLeft_j107 x3_4 kj4 x4_89
def f_X6_daysLeft_j88 (x2_4 : Int32) (x3_4 : Int32) (kj4 : Int32 → Int32 → Int32) (x4_88 : Int32) : Int32 :=
  f_X6_daysLeft_j89 x2_4 x3_4 kj4 x4_88 false
def f_X6_daysLeft_j58 (z : Nat → Int32) (p1 : Int32) (x2_4 : Int32) (x3_4 : Int32) (kj4 : Int32 → Int32 → Int32) (s0_58 : Int32) : Int32 :=
  if (f_X6_ofRequest z x3_4 3) = 1 then
    if (vm_bi (f_X6_isInChain z (f_X6_ofRequest z x3_4 0) p1)) = 0 then
      f_X6_daysLeft_j88 x2_4 x3_4 kj4 s0_58
    else
      f_X6_daysLeft_j89 x2_4 x3_4 kj4 s0_58 true
  else
    f_X6_daysLeft_j88 x2_4 x3_4 kj4 s0_58
def f_X6_daysLeft_j4 (z : Nat → Int32) (p1 : Int32) : Nat → Int32 → Int32 → Int32
  | 0, _, _ => 0
  | n4 + 1, x2_4, x3_4 => if (z (Int32.toNatClampNeg 4)) ≤ x3_4 then
      x2_4
    else
      if (vm_bi (f_X6_stands z p1)) = 0 then
        x2_4
      else
        if 1 ≤ ((((f_X6_ofRequest z x3_4 2) + (z (Int32.toNatClampNeg 0))) + 1) - (z (Int32.toNatClampNeg 2))) then
          f_X6_daysLeft_j58 z p1 x2_4 x3_4 (f_X6_daysLeft_j4 z p1 n4) ((((f_X6_ofRequest z x3_4 2) + (z (Int32.toNatClampNeg 0))) + 1) - (z (Int32.toNatClampNeg 2)))
        else
          f_X6_daysLeft_j58 z p1 x2_4 x3_4 (f_X6_daysLeft_j4 z p1 n4) 1
def f_X6_daysLeft (z : Nat → Int32) (p1 : Int32) : Int32 :=
  f_X6_daysLeft_j4 z p1 ((((z (Int32.toNatClampNeg 4))).toInt - ((0 : Int32)).toInt).toNat + 1) (-1) 0
def o_X6_daysLeft_j113 (x3_4 : Int32) (koj4 : Int32 → Int32 → Prop) (s0_113 : Int32) : Prop :=
  koj4 s0_113 (x3_4 + 1)
def o_X6_daysLeft_j107 (x3_4 : Int32) (koj4 : Int32 → Int32 → Prop) (x4_107 : Int32) : Prop :=
  o_X6_daysLeft_j113 x3_4 koj4 x4_107
def o_X6_daysLeft_j112 (x2_4 : Int32) (x3_4 : Int32) (koj4 : Int32 → Int32 → Prop) : Prop :=
  o_X6_daysLeft_j113 x3_4 koj4 x2_4
def o_X6_daysLeft_j89 (x2_4 : Int32) (x3_4 : Int32) (koj4 : Int32 → Int32 → Prop) (x4_89 : Int32) (s0_89 : Bool) : Prop :=
  if (vm_bi s0_89) = 0 then
    o_X6_daysLeft_j112 x2_4 x3_4 koj4
  else
    if x2_4 = (-1) then
      o_X6_daysLeft_j107 x3_4 koj4 x4_89
    else
      if x2_4 ≤ x4_89 then
        o_X6_daysLeft_j112 x2_4 x3_4 koj4
      else
        o_X6_daysLeft_j107 x3_4 koj4 x4_89
def o_X6_daysLeft_j88 (x2_4 : Int32) (x3_4 : Int32) (koj4 : Int32 → Int32 → Prop) (x4_88 : Int32) : Prop :=
  o_X6_daysLeft_j89 x2_4 x3_4 koj4 x4_88 false
def o_X6_daysLeft_j58 (z : Nat → Int32) (p1 : Int32) (x2_4 : Int32) (x3_4 : Int32) (koj4 : Int32 → Int32 → Prop) (s0_58 : Int32) : Prop :=
  o_X6_ofRequest z x3_4 3 ∧
  (if (f_X6_ofRequest z x3_4 3) = 1 then
    o_X6_ofRequest z x3_4 0 ∧
    (o_X6_isInChain z (f_X6_ofRequest z x3_4 0) p1 ∧
    (if (vm_bi (f_X6_isInChain z (f_X6_ofRequest z x3_4 0) p1)) = 0 then
      o_X6_daysLeft_j88 x2_4 x3_4 koj4 s0_58
    else
      o_X6_daysLeft_j89 x2_4 x3_4 koj4 s0_58 true))
  else
    o_X6_daysLeft_j88 x2_4 x3_4 koj4 s0_58)
def o_X6_daysLeft_j4 (z : Nat → Int32) (p1 : Int32) : Nat → Int32 → Int32 → Prop
  | 0, _, _ => True
  | n4 + 1, x2_4, x3_4 => if (z (Int32.toNatClampNeg 4)) ≤ x3_4 then
      True
    else
      o_X6_stands z p1 ∧
      (if (vm_bi (f_X6_stands z p1)) = 0 then
        True
      else
        o_X6_ofRequest z x3_4 2 ∧
        (if 1 ≤ ((((f_X6_ofRequest z x3_4 2) + (z (Int32.toNatClampNeg 0))) + 1) - (z (Int32.toNatClampNeg 2))) then
          o_X6_daysLeft_j58 z p1 x2_4 x3_4 (o_X6_daysLeft_j4 z p1 n4) ((((f_X6_ofRequest z x3_4 2) + (z (Int32.toNatClampNeg 0))) + 1) - (z (Int32.toNatClampNeg 2)))
        else
          o_X6_daysLeft_j58 z p1 x2_4 x3_4 (o_X6_daysLeft_j4 z p1 n4) 1))
def o_X6_daysLeft (z : Nat → Int32) (p1 : Int32) : Prop :=
  o_X6_daysLeft_j4 z p1 ((((z (Int32.toNatClampNeg 4))).toInt - ((0 : Int32)).toInt).toNat + 1) (-1) 0
theorem yd_X6_daysLeft : yX6_daysLeft.cls = RX6 ∧ yX6_daysLeft.cls ≠ "java/lang/invoke/MethodHandle" ∧ yX6_daysLeft.cls ≠ "java/lang/invoke/VarHandle" ∧ (parseMethodDescriptor yX6_daysLeft.desc).map (fun d => d.parameters.length) = some 1 := by decide +kernel
set_option maxHeartbeats 4000000 in
set_option maxRecDepth 100000 in
theorem c_X6_daysLeft (l : Launch) (dC : Nat → ClassId) (dI : Nat → Nat → Nat) (cI cB : ClassId) (h0 h1 h2 h3 h4 : Nat) (states : Int32) (ln : Int32) (thr : Int32) (rd : Int32) (num : Int32) (due : Int32) (hash : Int64) (z : Nat → Int32) (hi : Nat → Int32) (tx : Nat → Int32) (pa : Nat → Int32) (p1 : Int32) (eO : o_X6_daysLeft z p1) : Met l yX6_daysLeft wsX6_daysLeft ({ frames := 2, cells := 0, slots := 0, locals := 46 }) (vm_pre [.ref h0, .int p1] (dC, dI) [(h0, .inr (6, [.ref h1, .int states, .ref h2, .int ln, .ref h3, .int thr, .ref h4, .int rd, .int num, .int due, .long hash])), (h1, .inl (cI, 163, .inl z)), (h2, .inl (cI, 978, .inl hi)), (h3, .inl (cI, 60, .inl tx)), (h4, .inl (cI, 42, .inl pa))] cI cB) (vp_Si (fun r9 : Int32 => r9 = (f_X6_daysLeft z p1))) 0 0 (fun _ => False) := by
  refine Met.ofW (cc := cX6_daysLeft) (maxL := 6) (ret := (some .int)) (by decide) rfl ?_
  intro p e s m args below meth c s₁ B hml hv
  obtain ⟨rfl, hP, hK, hN⟩ := hv
  have hx := B.exec
  have hb := B.bytes
  have hr := B.returns
  have hts := atoms_spec (ws := wsX6_daysLeft) B.pre
  have hown : s.vm.findClass RX6 = some m.cls := findClass_of_methodNamed B.named
  have hlocks := B.notSynchronized
  have kw1 := hts (.fieldLink RX6 7 "LapseMandatesModel" "z" "[I") (List.mem_of_getElem? (i := 1) rfl)
  have iwsX60 : ∀ w ∈ wsX60, w ∈ wsX6_daysLeft := fun w h => List.mem_cons_of_mem _ (List.mem_append_right _ h)
  generalize hrr : f_X6_daysLeft z p1 = rr
  have eF := hrr.symm
  have hl := lv_entry ([.ref h0, .int p1]) (n := 6) (Nat.le_of_ble_eq_true rfl)
  rw [lg_entry_eq]
  generalize (lg_sl ([.ref h0, .int p1]) ++ List.replicate (6 - (lg_sl ([.ref h0, .int p1])).length) Slot.unset).toArray = ls at hl ⊢
  have hl : lv_has ls 6 [(0, .ref h0), (1, .int p1)] := hl
  have hJ4 : ∀ (n4 : Nat) (x2_4 : Int32) (x3_4 : Int32), (((z (Int32.toNatClampNeg 4))).toInt - (x3_4).toInt).toNat < n4 → 0 ≤ x3_4 → rr = f_X6_daysLeft_j4 z p1 n4 x2_4 x3_4 → o_X6_daysLeft_j4 z p1 n4 x2_4 x3_4 → ∀ (ls : Array Slot), lv_has ls 6 [(0, .ref h0), (1, .int p1), (2, .int x2_4), (3, .int x3_4)] → W p l e (headSpec wsX6_daysLeft ({ frames := 2, cells := 0, slots := 0, locals := 46 })).room s m ([.ref h0, .int p1] : List Value).toArray below meth c s.heap [] 0 0 (MQ below (vp_Si (fun r9 : Int32 => r9 = rr)) ([.ref h0, .int p1] : List Value).toArray s 0 0 (fun _ => False)) (F0 m 4 ls []) := by
    intro n4
    induction n4 with
    | zero =>
      intro x2_4 x3_4 hm4
      exact absurd hm4 (Nat.not_lt_zero _)
    | succ n4 ih4 =>
      intro x2_4 x3_4 hm4 hi4 eF eO ls hl
      rw [o_X6_daysLeft_j4] at eO
      have hJ113 : ∀ (s0_113 : Int32), ¬ (z (Int32.toNatClampNeg 4)) ≤ x3_4 → rr = f_X6_daysLeft_j113 x3_4 (f_X6_daysLeft_j4 z p1 n4) s0_113 → o_X6_daysLeft_j113 x3_4 (o_X6_daysLeft_j4 z p1 n4) s0_113 → ∀ (ls : Array Slot), lv_has ls 6 [(0, .ref h0), (1, .int p1), (3, .int x3_4)] → W p l e (headSpec wsX6_daysLeft ({ frames := 2, cells := 0, slots := 0, locals := 46 })).room s m ([.ref h0, .int p1] : List Value).toArray below meth c s.heap [] 0 0 (MQ below (vp_Si (fun r9 : Int32 => r9 = rr)) ([.ref h0, .int p1] : List Value).toArray s 0 0 (fun _ => False)) (F0 m 113 ls [.int s0_113]) := by
        intro s0_113 cL4 eF eO ls hl
        rw [o_X6_daysLeft_j113] at eO
        refine lv_istore_n (lv' := [(2, .int s0_113), (0, .ref h0), (1, .int p1), (3, .int x3_4)]) hx hb dX6_daysLeft_113 rfl hl (by decide) rfl (fun ls hl => ?_)
        refine lv_iinc (v := (x3_4 + 1)) (lv' := [(3, .int (x3_4 + 1)), (2, .int s0_113), (0, .ref h0), (1, .int p1)]) hx hb dX6_daysLeft_114 hl (k := 3) rfl rfl (by decide) rfl (fun ls hl => ?_)
        refine lv_goto (tgt := 4) hx hb dX6_daysLeft_117 (by decide) ?_
        exact ih4 s0_113 (x3_4 + 1) (vm_up (vm_nle cL4) hm4) (vm_nn hi4 (vm_nle cL4)) (eF.trans (by rw [f_X6_daysLeft_j113])) eO ls (lv_sub hl [2, 3, 1, 0] rfl)
      have hJ112 : ¬ (z (Int32.toNatClampNeg 4)) ≤ x3_4 → rr = f_X6_daysLeft_j112 x2_4 x3_4 (f_X6_daysLeft_j4 z p1 n4) → o_X6_daysLeft_j112 x2_4 x3_4 (o_X6_daysLeft_j4 z p1 n4) → ∀ (ls : Array Slot), lv_has ls 6 [(0, .ref h0), (1, .int p1), (2, .int x2_4), (3, .int x3_4)] → W p l e (headSpec wsX6_daysLeft ({ frames := 2, cells := 0, slots := 0, locals := 46 })).room s m ([.ref h0, .int p1] : List Value).toArray below meth c s.heap [] 0 0 (MQ below (vp_Si (fun r9 : Int32 => r9 = rr)) ([.ref h0, .int p1] : List Value).toArray s 0 0 (fun _ => False)) (F0 m 112 ls []) := by
        intro cL4 eF eO ls hl
        rw [o_X6_daysLeft_j112] at eO
        refine lv_iload_n hx hb dX6_daysLeft_112 rfl (lv_at hl 2 rfl) ?_
        exact hJ113 x2_4 cL4 (eF.trans (by rw [f_X6_daysLeft_j112])) eO ls (lv_sub hl [0, 1, 3] rfl)
      have hJ107 : ∀ (x4_107 : Int32), ¬ (z (Int32.toNatClampNeg 4)) ≤ x3_4 → rr = f_X6_daysLeft_j107 x3_4 (f_X6_daysLeft_j4 z p1 n4) x4_107 → o_X6_daysLeft_j107 x3_4 (o_X6_daysLeft_j4 z p1 n4) x4_107 → ∀ (ls : Array Slot), lv_has ls 6 [(0, .ref h0), (1, .int p1), (3, .int x3_4), (4, .int x4_107)] → W p l e (headSpec wsX6_daysLeft ({ frames := 2, cells := 0, slots := 0, locals := 46 })).room s m ([.ref h0, .int p1] : List Value).toArray below meth c s.heap [] 0 0 (MQ below (vp_Si (fun r9 : Int32 => r9 = rr)) ([.ref h0, .int p1] : List Value).toArray s 0 0 (fun _ => False)) (F0 m 107 ls []) := by
        intro x4_107 cL4 eF eO ls hl
        rw [o_X6_daysLeft_j107] at eO
        refine lv_iload hx hb dX6_daysLeft_107 (lv_at hl 3 rfl) ?_
        refine lv_goto (tgt := 113) hx hb dX6_daysLeft_109 (by decide) ?_
        exact hJ113 x4_107 cL4 (eF.trans (by rw [f_X6_daysLeft_j107])) eO ls (lv_sub hl [0, 1, 2] rfl)
      have hJ89 : ∀ (x4_89 : Int32) (s0_89 : Bool), ¬ (z (Int32.toNatClampNeg 4)) ≤ x3_4 → rr = f_X6_daysLeft_j89 x2_4 x3_4 (f_X6_daysLeft_j4 z p1 n4) x4_89 s0_89 → o_X6_daysLeft_j89 x2_4 x3_4 (o_X6_daysLeft_j4 z p1 n4) x4_89 s0_89 → ∀ (ls : Array Slot), lv_has ls 6 [(0, .ref h0), (1, .int p1), (2, .int x2_4), (3, .int x3_4), (4, .int x4_89)] → W p l e (headSpec wsX6_daysLeft ({ frames := 2, cells := 0, slots := 0, locals := 46 })).room s m ([.ref h0, .int p1] : List Value).toArray below meth c s.heap [] 0 0 (MQ below (vp_Si (fun r9 : Int32 => r9 = rr)) ([.ref h0, .int p1] : List Value).toArray s 0 0 (fun _ => False)) (F0 m 89 ls [.int (vm_bi s0_89)]) := by
        intro x4_89 s0_89 cL4 eF eO ls hl
        rw [o_X6_daysLeft_j89] at eO
        refine lv_istore (lv' := [(5, .int (vm_bi s0_89)), (0, .ref h0), (1, .int p1), (2, .int x2_4), (3, .int x3_4), (4, .int x4_89)]) hx hb dX6_daysLeft_89 hl (by decide) rfl (fun ls hl => ?_)
        refine lv_iload hx hb dX6_daysLeft_91 (lv_at hl 0 rfl) ?_
        refine lv_if_eq (tgt := 112) hx hb dX6_daysLeft_93 (by decide) (fun c_1 => ?_) (fun c_1 => ?_)
        · rw [if_pos c_1] at eO
          exact hJ112 cL4 (eF.trans (by rw [f_X6_daysLeft_j89, if_pos c_1])) eO ls (lv_sub hl [1, 2, 3, 4] rfl)
        · rw [if_neg c_1] at eO
          refine lv_iload_n hx hb dX6_daysLeft_96 rfl (lv_at hl 3 rfl) ?_
          refine lv_iconst (v := (-1)) hx hb dX6_daysLeft_97 (by decide) ?_
          refine lv_icmp_eq (tgt := 107) hx hb dX6_daysLeft_98 (by decide) (fun c_2 => ?_) (fun c_2 => ?_)
          · rw [if_pos c_2] at eO
            exact hJ107 x4_89 cL4 (eF.trans (by rw [f_X6_daysLeft_j89, if_neg c_1, if_pos c_2])) eO ls (lv_sub hl [1, 2, 4, 5] rfl)
          · rw [if_neg c_2] at eO
            refine lv_iload hx hb dX6_daysLeft_101 (lv_at hl 5 rfl) ?_
            refine lv_iload_n hx hb dX6_daysLeft_103 rfl (lv_at hl 3 rfl) ?_
            refine lv_icmp_ge (tgt := 112) hx hb dX6_daysLeft_104 (by decide) (fun c_3 => ?_) (fun c_3 => ?_)
            · rw [if_pos c_3] at eO
              exact hJ112 cL4 (eF.trans (by rw [f_X6_daysLeft_j89, if_neg c_1, if_neg c_2, if_pos c_3])) eO ls (lv_sub hl [1, 2, 3, 4] rfl)
            · rw [if_neg c_3] at eO
              exact hJ107 x4_89 cL4 (eF.trans (by rw [f_X6_daysLeft_j89, if_neg c_1, if_neg c_2, if_neg c_3])) eO ls (lv_sub hl [1, 2, 4, 5] rfl)
      have hJ88 : ∀ (x4_88 : Int32), ¬ (z (Int32.toNatClampNeg 4)) ≤ x3_4 → rr = f_X6_daysLeft_j88 x2_4 x3_4 (f_X6_daysLeft_j4 z p1 n4) x4_88 → o_X6_daysLeft_j88 x2_4 x3_4 (o_X6_daysLeft_j4 z p1 n4) x4_88 → ∀ (ls : Array Slot), lv_has ls 6 [(0, .ref h0), (1, .int p1), (2, .int x2_4), (3, .int x3_4), (4, .int x4_88)] → W p l e (headSpec wsX6_daysLeft ({ frames := 2, cells := 0, slots := 0, locals := 46 })).room s m ([.ref h0, .int p1] : List Value).toArray below meth c s.heap [] 0 0 (MQ below (vp_Si (fun r9 : Int32 => r9 = rr)) ([.ref h0, .int p1] : List Value).toArray s 0 0 (fun _ => False)) (F0 m 88 ls []) := by
        intro x4_88 cL4 eF eO ls hl
        rw [o_X6_daysLeft_j88] at eO
        refine lv_iconst (v := 0) hx hb dX6_daysLeft_88 (by decide) ?_
        exact hJ89 x4_88 false cL4 (eF.trans (by rw [f_X6_daysLeft_j88])) eO ls (lv_sub hl [0, 1, 2, 3, 4] rfl)
      have hJ58 : ∀ (s0_58 : Int32), ¬ (z (Int32.toNatClampNeg 4)) ≤ x3_4 → rr = f_X6_daysLeft_j58 z p1 x2_4 x3_4 (f_X6_daysLeft_j4 z p1 n4) s0_58 → o_X6_daysLeft_j58 z p1 x2_4 x3_4 (o_X6_daysLeft_j4 z p1 n4) s0_58 → ∀ (ls : Array Slot), lv_has ls 6 [(0, .ref h0), (1, .int p1), (2, .int x2_4), (3, .int x3_4)] → W p l e (headSpec wsX6_daysLeft ({ frames := 2, cells := 0, slots := 0, locals := 46 })).room s m ([.ref h0, .int p1] : List Value).toArray below meth c s.heap [] 0 0 (MQ below (vp_Si (fun r9 : Int32 => r9 = rr)) ([.ref h0, .int p1] : List Value).toArray s 0 0 (fun _ => False)) (F0 m 58 ls [.int s0_58]) := by
        intro s0_58 cL4 eF eO ls hl
        rw [o_X6_daysLeft_j58] at eO
        refine lv_istore (lv' := [(4, .int s0_58), (0, .ref h0), (1, .int p1), (2, .int x2_4), (3, .int x3_4)]) hx hb dX6_daysLeft_58 hl (by decide) rfl (fun ls hl => ?_)
        refine lv_aload_n hx hb dX6_daysLeft_60 rfl (lv_at hl 1 rfl) ?_
        refine lv_iload_n hx hb dX6_daysLeft_61 rfl (lv_at hl 4 rfl) ?_
        refine lv_iconst (v := 3) hx hb dX6_daysLeft_62 (by decide) ?_
        obtain ⟨hv_4, eO⟩ := eO
        refine vm_roVx (v := (f_X6_ofRequest z x3_4 3)) (As := [.int x3_4, .int 3]) (rest := []) (T := TX6) (N := 11) (wc := [(h0, .inr (6, [.ref h1, .int states, .ref h2, .int ln, .ref h3, .int thr, .ref h4, .int rd, .int num, .int due, .long hash])), (h1, .inl (cI, 163, .inl z)), (h2, .inl (cI, 978, .inl hi)), (h3, .inl (cI, 60, .inl tx)), (h4, .inl (cI, 42, .inl pa))]) ⟨hx, hb, hml, hown, hts⟩ hK hN hP hl.1 ⟨Nat.le_of_ble_eq_true rfl, Nat.le_of_ble_eq_true rfl⟩ (c_X6_ofRequest l dC dI cI cB h0 h1 h2 h3 h4 states ln thr rd num due hash z hi tx pa x3_4 3 hv_4) (cwV 2 hts gX6_daysLeft_X6_ofRequest rfl rfl rfl yd_X6_ofRequest ⟨Nat.le_of_ble_eq_true rfl, Nat.le_of_ble_eq_true rfl⟩) [0, 1, 2, 3, 4] rfl 6 rfl rfl rfl rfl (Nat.le_of_ble_eq_true rfl) dX6_daysLeft_63 ?_
        refine lv_iconst (v := 1) hx hb dX6_daysLeft_66 (by decide) ?_
        refine lv_icmp_ne (tgt := 88) hx hb dX6_daysLeft_67 (by decide) (fun c_5 => ?_) (fun c_5 => ?_)
        · rw [if_neg c_5] at eO
          exact hJ88 s0_58 cL4 (eF.trans (by rw [f_X6_daysLeft_j58, if_neg c_5])) eO ls (lv_sub hl [1, 2, 3, 4, 0] rfl)
        · rw [if_pos c_5] at eO
          refine lv_aload_n hx hb dX6_daysLeft_70 rfl (lv_at hl 1 rfl) ?_
          refine lv_aload_n hx hb dX6_daysLeft_71 rfl (lv_at hl 1 rfl) ?_
          refine lv_iload_n hx hb dX6_daysLeft_72 rfl (lv_at hl 4 rfl) ?_
          refine lv_iconst (v := 0) hx hb dX6_daysLeft_73 (by decide) ?_
          obtain ⟨hv_6, eO⟩ := eO
          refine vm_roVx (v := (f_X6_ofRequest z x3_4 0)) (As := [.int x3_4, .int 0]) (rest := [.ref h0]) (T := TX6) (N := 11) (wc := [(h0, .inr (6, [.ref h1, .int states, .ref h2, .int ln, .ref h3, .int thr, .ref h4, .int rd, .int num, .int due, .long hash])), (h1, .inl (cI, 163, .inl z)), (h2, .inl (cI, 978, .inl hi)), (h3, .inl (cI, 60, .inl tx)), (h4, .inl (cI, 42, .inl pa))]) ⟨hx, hb, hml, hown, hts⟩ hK hN hP hl.1 ⟨Nat.le_of_ble_eq_true rfl, Nat.le_of_ble_eq_true rfl⟩ (c_X6_ofRequest l dC dI cI cB h0 h1 h2 h3 h4 states ln thr rd num due hash z hi tx pa x3_4 0 hv_6) (cwV 2 hts gX6_daysLeft_X6_ofRequest rfl rfl rfl yd_X6_ofRequest ⟨Nat.le_of_ble_eq_true rfl, Nat.le_of_ble_eq_true rfl⟩) [0, 1, 2, 3, 4] rfl 6 rfl rfl rfl rfl (Nat.le_of_ble_eq_true rfl) dX6_daysLeft_74 ?_
          refine lv_iload_n hx hb dX6_daysLeft_77 rfl (lv_at hl 2 rfl) ?_
          obtain ⟨hv_7, eO⟩ := eO
          refine vm_roVx (v := vm_bi (f_X6_isInChain z (f_X6_ofRequest z x3_4 0) p1)) (As := [.int (f_X6_ofRequest z x3_4 0), .int p1]) (rest := []) (T := TX6) (N := 11) (wc := [(h0, .inr (6, [.ref h1, .int states, .ref h2, .int ln, .ref h3, .int thr, .ref h4, .int rd, .int num, .int due, .long hash])), (h1, .inl (cI, 163, .inl z)), (h2, .inl (cI, 978, .inl hi)), (h3, .inl (cI, 60, .inl tx)), (h4, .inl (cI, 42, .inl pa))]) ⟨hx, hb, hml, hown, hts⟩ hK hN hP hl.1 ⟨Nat.le_of_ble_eq_true rfl, Nat.le_of_ble_eq_true rfl⟩ (c_X6_isInChain l dC dI cI cB h0 h1 h2 h3 h4 states ln thr rd num due hash z hi tx pa (f_X6_ofRequest z x3_4 0) p1 hv_7) (cwV 2 hts gX6_daysLeft_X6_isInChain rfl rfl rfl yd_X6_isInChain ⟨Nat.le_of_ble_eq_true rfl, Nat.le_of_ble_eq_true rfl⟩) [0, 1, 2, 3, 4] rfl 6 rfl rfl rfl rfl (Nat.le_of_ble_eq_true rfl) dX6_daysLeft_78 ?_
          refine lv_if_eq (tgt := 88) hx hb dX6_daysLeft_81 (by decide) (fun c_8 => ?_) (fun c_8 => ?_)
          · rw [if_pos c_8] at eO
            exact hJ88 s0_58 cL4 (eF.trans (by rw [f_X6_daysLeft_j58, if_pos c_5, if_pos c_8])) eO ls (lv_sub hl [1, 2, 3, 4, 0] rfl)
          · rw [if_neg c_8] at eO
            refine lv_iconst (v := 1) hx hb dX6_daysLeft_84 (by decide) ?_
            refine lv_goto (tgt := 89) hx hb dX6_daysLeft_85 (by decide) ?_
            exact hJ89 s0_58 true cL4 (eF.trans (by rw [f_X6_daysLeft_j58, if_pos c_5, if_neg c_8])) eO ls (lv_sub hl [1, 2, 3, 4, 0] rfl)
      refine lv_iload_n hx hb dX6_daysLeft_4 rfl (lv_at hl 3 rfl) ?_
      refine lv_aload_n hx hb dX6_daysLeft_5 rfl (lv_at hl 0 rfl) ?_
      refine va_get (D := (dC, dI)) (ci := 6) (v := .ref h1) (C := RX6) (T := TX6) (N := 11) hx hb hts iwsX60 hown hK hP 0 rfl rfl 0 (by decide) kw1 (fun _ h9 => h9) rfl dX6_daysLeft_6 ?_
      refine lv_iconst (v := 4) hx hb dX6_daysLeft_9 (by decide) ?_
      refine va_iald hx hb hK hP 1 0 rfl rfl (by unfold vp_in; decide) dX6_daysLeft_10 ?_
      refine lv_icmp_ge (tgt := 120) hx hb dX6_daysLeft_11 (by decide) (fun cL4 => ?_) (fun cL4 => ?_)
      · rw [if_pos cL4] at eO
        refine lv_iload_n hx hb dX6_daysLeft_120 rfl (lv_at hl 2 rfl) ?_
        have e9 : rr = x2_4 := eF.trans (by rw [f_X6_daysLeft_j4, if_pos cL4])
        exact W.iret (v := x2_4) hx hb hr (fun t ht hW => ⟨_, rfl, e9.symm, ht⟩) (fun _ hq => by cases hq) dX6_daysLeft_121
      · rw [if_neg cL4] at eO
        refine lv_aload_n hx hb dX6_daysLeft_14 rfl (lv_at hl 0 rfl) ?_
        refine lv_iload_n hx hb dX6_daysLeft_15 rfl (lv_at hl 1 rfl) ?_
        obtain ⟨hv_10, eO⟩ := eO
        refine vm_roVx (v := vm_bi (f_X6_stands z p1)) (As := [.int p1]) (rest := []) (T := TX6) (N := 11) (wc := [(h0, .inr (6, [.ref h1, .int states, .ref h2, .int ln, .ref h3, .int thr, .ref h4, .int rd, .int num, .int due, .long hash])), (h1, .inl (cI, 163, .inl z)), (h2, .inl (cI, 978, .inl hi)), (h3, .inl (cI, 60, .inl tx)), (h4, .inl (cI, 42, .inl pa))]) ⟨hx, hb, hml, hown, hts⟩ hK hN hP hl.1 ⟨Nat.le_of_ble_eq_true rfl, Nat.le_of_ble_eq_true rfl⟩ (c_X6_stands l dC dI cI cB h0 h1 h2 h3 h4 states ln thr rd num due hash z hi tx pa p1 hv_10) (cwV 1 hts gX6_daysLeft_X6_stands rfl rfl rfl yd_X6_stands ⟨Nat.le_of_ble_eq_true rfl, Nat.le_of_ble_eq_true rfl⟩) [0, 1, 2, 3, 4] rfl 6 rfl rfl rfl rfl (Nat.le_of_ble_eq_true rfl) dX6_daysLeft_16 ?_
        refine lv_if_eq (tgt := 120) hx hb dX6_daysLeft_19 (by decide) (fun c_11 => ?_) (fun c_11 => ?_)
        · rw [if_pos c_11] at eO
          refine lv_iload_n hx hb dX6_daysLeft_120 rfl (lv_at hl 2 rfl) ?_
          have e9 : rr = x2_4 := eF.trans (by rw [f_X6_daysLeft_j4, if_neg cL4, if_pos c_11])
          exact W.iret (v := x2_4) hx hb hr (fun t ht hW => ⟨_, rfl, e9.symm, ht⟩) (fun _ hq => by cases hq) dX6_daysLeft_121
        · rw [if_neg c_11] at eO
          refine lv_aload_n hx hb dX6_daysLeft_22 rfl (lv_at hl 0 rfl) ?_
          refine lv_iload_n hx hb dX6_daysLeft_23 rfl (lv_at hl 3 rfl) ?_
          refine lv_iconst (v := 2) hx hb dX6_daysLeft_24 (by decide) ?_
          obtain ⟨hv_12, eO⟩ := eO
          refine vm_roVx (v := (f_X6_ofRequest z x3_4 2)) (As := [.int x3_4, .int 2]) (rest := []) (T := TX6) (N := 11) (wc := [(h0, .inr (6, [.ref h1, .int states, .ref h2, .int ln, .ref h3, .int thr, .ref h4, .int rd, .int num, .int due, .long hash])), (h1, .inl (cI, 163, .inl z)), (h2, .inl (cI, 978, .inl hi)), (h3, .inl (cI, 60, .inl tx)), (h4, .inl (cI, 42, .inl pa))]) ⟨hx, hb, hml, hown, hts⟩ hK hN hP hl.1 ⟨Nat.le_of_ble_eq_true rfl, Nat.le_of_ble_eq_true rfl⟩ (c_X6_ofRequest l dC dI cI cB h0 h1 h2 h3 h4 states ln thr rd num due hash z hi tx pa x3_4 2 hv_12) (cwV 2 hts gX6_daysLeft_X6_ofRequest rfl rfl rfl yd_X6_ofRequest ⟨Nat.le_of_ble_eq_true rfl, Nat.le_of_ble_eq_true rfl⟩) [0, 1, 2, 3, 4] rfl 6 rfl rfl rfl rfl (Nat.le_of_ble_eq_true rfl) dX6_daysLeft_25 ?_
          refine lv_aload_n hx hb dX6_daysLeft_28 rfl (lv_at hl 0 rfl) ?_
          refine va_get (D := (dC, dI)) (ci := 6) (v := .ref h1) (C := RX6) (T := TX6) (N := 11) hx hb hts iwsX60 hown hK hP 0 rfl rfl 0 (by decide) kw1 (fun _ h9 => h9) rfl dX6_daysLeft_29 ?_
          refine lv_iconst (v := 0) hx hb dX6_daysLeft_32 (by decide) ?_
          refine va_iald hx hb hK hP 1 0 rfl rfl (by unfold vp_in; decide) dX6_daysLeft_33 ?_
          refine lv_iadd hx hb dX6_daysLeft_34 ?_
          refine lv_iconst (v := 1) hx hb dX6_daysLeft_35 (by decide) ?_
          refine lv_iadd hx hb dX6_daysLeft_36 ?_
          refine lv_aload_n hx hb dX6_daysLeft_37 rfl (lv_at hl 0 rfl) ?_
          refine va_get (D := (dC, dI)) (ci := 6) (v := .ref h1) (C := RX6) (T := TX6) (N := 11) hx hb hts iwsX60 hown hK hP 0 rfl rfl 0 (by decide) kw1 (fun _ h9 => h9) rfl dX6_daysLeft_38 ?_
          refine lv_iconst (v := 2) hx hb dX6_daysLeft_41 (by decide) ?_
          refine va_iald hx hb hK hP 1 0 rfl rfl (by unfold vp_in; decide) dX6_daysLeft_42 ?_
          refine lv_isub hx hb dX6_daysLeft_43 ?_
          refine lv_istore (lv' := [(4, .int ((((f_X6_ofRequest z x3_4 2) + (z (Int32.toNatClampNeg 0))) + 1) - (z (Int32.toNatClampNeg 2)))), (0, .ref h0), (1, .int p1), (2, .int x2_4), (3, .int x3_4)]) hx hb dX6_daysLeft_44 hl (by decide) rfl (fun ls hl => ?_)
          refine lv_iload hx hb dX6_daysLeft_46 (lv_at hl 0 rfl) ?_
          refine lv_iconst (v := 1) hx hb dX6_daysLeft_48 (by decide) ?_
          refine lv_icmp_ge (tgt := 56) hx hb dX6_daysLeft_49 (by decide) (fun c_13 => ?_) (fun c_13 => ?_)
          · rw [if_pos c_13] at eO
            refine lv_iload hx hb dX6_daysLeft_56 (lv_at hl 0 rfl) ?_
            exact hJ58 ((((f_X6_ofRequest z x3_4 2) + (z (Int32.toNatClampNeg 0))) + 1) - (z (Int32.toNatClampNeg 2))) cL4 (eF.trans (by rw [f_X6_daysLeft_j4, if_neg cL4, if_neg c_11, if_pos c_13])) eO ls (lv_sub hl [1, 2, 3, 4] rfl)
          · rw [if_neg c_13] at eO
            refine lv_iconst (v := 1) hx hb dX6_daysLeft_52 (by decide) ?_
            refine lv_goto (tgt := 58) hx hb dX6_daysLeft_53 (by decide) ?_
            exact hJ58 1 cL4 (eF.trans (by rw [f_X6_daysLeft_j4, if_neg cL4, if_neg c_11, if_neg c_13])) eO ls (lv_sub hl [1, 2, 3, 4] rfl)
  rw [o_X6_daysLeft] at eO
  refine lv_iconst (v := (-1)) hx hb dX6_daysLeft_0 (by decide) ?_
  refine lv_istore_n (lv' := [(2, .int (-1)), (0, .ref h0), (1, .int p1)]) hx hb dX6_daysLeft_1 rfl hl (by decide) rfl (fun ls hl => ?_)
  refine lv_iconst (v := 0) hx hb dX6_daysLeft_2 (by decide) ?_
  refine lv_istore_n (lv' := [(3, .int 0), (2, .int (-1)), (0, .ref h0), (1, .int p1)]) hx hb dX6_daysLeft_3 rfl hl (by decide) rfl (fun ls hl => ?_)
  exact hJ4 ((((z (Int32.toNatClampNeg 4))).toInt - ((0 : Int32)).toInt).toNat + 1) (-1) 0 (Nat.lt_succ_self _) (by decide) (eF.trans (by rw [f_X6_daysLeft])) eO ls (lv_sub hl [2, 3, 1, 0] rfl)

def f_X6_lapsesIn_j14 (z : Nat → Int32) (p1 : Int32) (s0_14 : Bool) : Int32 × Int32 :=
  if (vm_bi s0_14) ≤ 0 then
    ((f_X6_daysLeft z p1), vm_bi s0_14)
  else
    (0, vm_bi s0_14)
def f_X6_lapsesIn (z : Nat → Int32) (p1 : Int32) : Int32 × Int32 :=
  if (vm_bi (f_X6_isMandate z p1)) = 0 then
    f_X6_lapsesIn_j14 z p1 true
  else
    f_X6_lapsesIn_j14 z p1 false
def o_X6_lapsesIn_j14 (z : Nat → Int32) (p1 : Int32) (s0_14 : Bool) : Prop :=
  if (vm_bi s0_14) ≤ 0 then
    o_X6_daysLeft z p1 ∧
    (True)
  else
    True
def o_X6_lapsesIn (z : Nat → Int32) (p1 : Int32) : Prop :=
  if (vm_bi (f_X6_isMandate z p1)) = 0 then
    o_X6_lapsesIn_j14 z p1 true
  else
    o_X6_lapsesIn_j14 z p1 false
theorem yd_X6_lapsesIn : yX6_lapsesIn.cls = RX6 ∧ yX6_lapsesIn.cls ≠ "java/lang/invoke/MethodHandle" ∧ yX6_lapsesIn.cls ≠ "java/lang/invoke/VarHandle" ∧ (parseMethodDescriptor yX6_lapsesIn.desc).map (fun d => d.parameters.length) = some 1 := by decide +kernel
set_option maxHeartbeats 4000000 in
set_option maxRecDepth 100000 in
theorem c_X6_lapsesIn (l : Launch) (dC : Nat → ClassId) (dI : Nat → Nat → Nat) (cI cB : ClassId) (h0 h1 h2 h3 h4 : Nat) (sz : Nat) (states : Int32) (ln : Int32) (thr : Int32) (rd : Int32) (num : Int32) (due : Int32) (hash : Int64) (z : Nat → Int32) (hi : Nat → Int32) (tx : Nat → Int32) (pa : Nat → Int32) (p1 : Int32) (eO : o_X6_lapsesIn z p1) : Met l yX6_lapsesIn wsX6_lapsesIn ({ frames := 3, cells := 0, slots := 0, locals := 71 }) (vm_prw [.ref h0, .int p1] (dC, dI) [(h0, .inr (6, [.ref h1, .int states, .ref h2, .int ln, .ref h3, .int thr, .ref h4, .int rd, .int num, .int due, .long hash])), (h1, .inl (cI, 163, .inl z)), (h2, .inl (cI, 978, .inl hi)), (h3, .inl (cI, 60, .inl tx)), (h4, .inl (cI, 42, .inl pa))] cI cB sz) (va_Qi (fun (r9 : Int32) (_ : Unit) => r9 = (f_X6_lapsesIn z p1).1) (fun _ t => va_P (dC, dI) vwCl [(h0, .inr (6, [.ref h1, .int states, .ref h2, .int ln, .ref h3, .int ((f_X6_lapsesIn z p1).2), .ref h4, .int rd, .int num, .int due, .long hash])), (h1, .inl (cI, 163, .inl z)), (h2, .inl (cI, 978, .inl hi)), (h3, .inl (cI, 60, .inl tx)), (h4, .inl (cI, 42, .inl pa))] t.heap) (va_A [(h0, .inr (6, [.ref h1, .int states, .ref h2, .int ln, .ref h3, .int thr, .ref h4, .int rd, .int num, .int due, .long hash])), (h1, .inl (cI, 163, .inl z)), (h2, .inl (cI, 978, .inl hi)), (h3, .inl (cI, 60, .inl tx)), (h4, .inl (cI, 42, .inl pa))] sz)) 0 0 (va_A [(h0, .inr (6, [.ref h1, .int states, .ref h2, .int ln, .ref h3, .int thr, .ref h4, .int rd, .int num, .int due, .long hash])), (h1, .inl (cI, 163, .inl z)), (h2, .inl (cI, 978, .inl hi)), (h3, .inl (cI, 60, .inl tx)), (h4, .inl (cI, 42, .inl pa))] sz) := by
  refine Met.ofW (cc := cX6_lapsesIn) (maxL := 2) (ret := (some .int)) (by decide) rfl ?_
  intro p e s m args below meth c s₁ B hml hv
  obtain ⟨rfl, hsz, hP, hK, hN, hD0⟩ := hv
  have hx := B.exec
  have hb := B.bytes
  have hr := B.returns
  have hts := atoms_spec (ws := wsX6_lapsesIn) B.pre
  have hown : s.vm.findClass RX6 = some m.cls := findClass_of_methodNamed B.named
  have hlocks := B.notSynchronized
  subst hsz
  have hD := hD0.self (sz := s.heap.size)
  generalize hAe : va_A [(h0, .inr (6, [.ref h1, .int states, .ref h2, .int ln, .ref h3, .int thr, .ref h4, .int rd, .int num, .int due, .long hash])), (h1, .inl (cI, 163, .inl z)), (h2, .inl (cI, 978, .inl hi)), (h3, .inl (cI, 60, .inl tx)), (h4, .inl (cI, 42, .inl pa))] s.heap.size = A at hD ⊢
  have hA : ∀ q : Nat, s.heap.size ≤ q → A q := fun q h => by rw [← hAe]; exact Or.inr h
  have hS : va_S A s.heap s.heap [] := va_S.rf
  have hP : va_P (dC, dI) vwCl [(h0, .inr (6, [.ref h1, .int states, .ref h2, .int ln, .ref h3, .int thr, .ref h4, .int rd, .int num, .int due, .long hash])), (h1, .inl (cI, 163, .inl z)), (h2, .inl (cI, 978, .inl hi)), (h3, .inl (cI, 60, .inl tx)), (h4, .inl (cI, 42, .inl pa))] s.heap := hP
  have kw1 := hts (.fieldLink RX6 22 "LapseMandatesModel" "thrown" "I") (List.mem_of_getElem? (i := 1) rfl)
  have iwsX60 : ∀ w ∈ wsX60, w ∈ wsX6_lapsesIn := fun w h => List.mem_cons_of_mem _ (List.mem_append_right _ h)
  generalize hrr : f_X6_lapsesIn z p1 = rr
  have eF := hrr.symm
  have hl := lv_entry ([.ref h0, .int p1]) (n := 2) (Nat.le_of_ble_eq_true rfl)
  rw [lg_entry_eq]
  generalize (lg_sl ([.ref h0, .int p1]) ++ List.replicate (2 - (lg_sl ([.ref h0, .int p1])).length) Slot.unset).toArray = ls at hl ⊢
  have hl : lv_has ls 2 [(0, .ref h0), (1, .int p1)] := hl
  have hJ14 : ∀ (s0_14 : Bool), rr = f_X6_lapsesIn_j14 z p1 s0_14 → o_X6_lapsesIn_j14 z p1 s0_14 → ∀ (H : Heap) (locs : List Loc), va_P (dC, dI) vwCl [(h0, .inr (6, [.ref h1, .int states, .ref h2, .int ln, .ref h3, .int thr, .ref h4, .int rd, .int num, .int due, .long hash])), (h1, .inl (cI, 163, .inl z)), (h2, .inl (cI, 978, .inl hi)), (h3, .inl (cI, 60, .inl tx)), (h4, .inl (cI, 42, .inl pa))] H → va_D A [(h0, .inr (6, [.ref h1, .int states, .ref h2, .int ln, .ref h3, .int thr, .ref h4, .int rd, .int num, .int due, .long hash])), (h1, .inl (cI, 163, .inl z)), (h2, .inl (cI, 978, .inl hi)), (h3, .inl (cI, 60, .inl tx)), (h4, .inl (cI, 42, .inl pa))] → va_S A s.heap H locs → ∀ (ls : Array Slot), lv_has ls 2 [(0, .ref h0), (1, .int p1)] → W p l e (headSpec wsX6_lapsesIn ({ frames := 3, cells := 0, slots := 0, locals := 71 })).room s m ([.ref h0, .int p1] : List Value).toArray below meth c H locs 0 0 (MQ below (va_Qi (fun (r9 : Int32) (_ : Unit) => r9 = rr.1) (fun _ t => va_P (dC, dI) vwCl [(h0, .inr (6, [.ref h1, .int states, .ref h2, .int ln, .ref h3, .int rr.2, .ref h4, .int rd, .int num, .int due, .long hash])), (h1, .inl (cI, 163, .inl z)), (h2, .inl (cI, 978, .inl hi)), (h3, .inl (cI, 60, .inl tx)), (h4, .inl (cI, 42, .inl pa))] t.heap) A) ([.ref h0, .int p1] : List Value).toArray s 0 0 A) (F0 m 14 ls [.int (vm_bi s0_14), .ref h0]) := by
    intro s0_14 eF eO H locs hP hD hS ls hl
    rw [o_X6_lapsesIn_j14] at eO
    refine va_put (D := (dC, dI)) (ci := 6) (v := .int (vm_bi s0_14)) (ty := .int) (C := RX6) (T := TX6) (N := 11) hx hb hts iwsX60 tyX6 tyX6_ok nmX6 hown hK hP hD hS 0 rfl rfl 5 (by decide) kw1 (fun _ h9 => h9) rfl (by decide +kernel) rfl rfl (Nat.le_of_ble_eq_true rfl) dX6_lapsesIn_14 (fun H locs hP hD hS => ?_)
    have hP : va_P (dC, dI) vwCl [(h0, .inr (6, [.ref h1, .int states, .ref h2, .int ln, .ref h3, .int (vm_bi s0_14), .ref h4, .int rd, .int num, .int due, .long hash])), (h1, .inl (cI, 163, .inl z)), (h2, .inl (cI, 978, .inl hi)), (h3, .inl (cI, 60, .inl tx)), (h4, .inl (cI, 42, .inl pa))] H := hP
    have hD : va_D A [(h0, .inr (6, [.ref h1, .int states, .ref h2, .int ln, .ref h3, .int (vm_bi s0_14), .ref h4, .int rd, .int num, .int due, .long hash])), (h1, .inl (cI, 163, .inl z)), (h2, .inl (cI, 978, .inl hi)), (h3, .inl (cI, 60, .inl tx)), (h4, .inl (cI, 42, .inl pa))] := hD
    refine lv_aload_n hx hb dX6_lapsesIn_17 rfl (lv_at hl 0 rfl) ?_
    refine va_get (D := (dC, dI)) (ci := 6) (v := .int (vm_bi s0_14)) (C := RX6) (T := TX6) (N := 11) hx hb hts iwsX60 hown hK hP 0 rfl rfl 5 (by decide) kw1 (fun _ h9 => h9) rfl dX6_lapsesIn_18 ?_
    refine lv_if_le (tgt := 28) hx hb dX6_lapsesIn_21 (by decide) (fun c_1 => ?_) (fun c_1 => ?_)
    · rw [if_pos c_1] at eO
      refine lv_aload_n hx hb dX6_lapsesIn_28 rfl (lv_at hl 0 rfl) ?_
      refine lv_iload_n hx hb dX6_lapsesIn_29 rfl (lv_at hl 1 rfl) ?_
      obtain ⟨hv_2, eO⟩ := eO
      refine vm_roVx (v := (f_X6_daysLeft z p1)) (As := [.int p1]) (rest := []) (T := TX6) (N := 11) (wc := [(h0, .inr (6, [.ref h1, .int states, .ref h2, .int ln, .ref h3, .int (vm_bi s0_14), .ref h4, .int rd, .int num, .int due, .long hash])), (h1, .inl (cI, 163, .inl z)), (h2, .inl (cI, 978, .inl hi)), (h3, .inl (cI, 60, .inl tx)), (h4, .inl (cI, 42, .inl pa))]) ⟨hx, hb, hml, hown, hts⟩ hK hN hP hl.1 ⟨Nat.le_of_ble_eq_true rfl, Nat.le_of_ble_eq_true rfl⟩ (c_X6_daysLeft l dC dI cI cB h0 h1 h2 h3 h4 states ln (vm_bi s0_14) rd num due hash z hi tx pa p1 hv_2) (cwV 1 hts gX6_lapsesIn_X6_daysLeft rfl rfl rfl yd_X6_daysLeft ⟨Nat.le_of_ble_eq_true rfl, Nat.le_of_ble_eq_true rfl⟩) [0, 1, 2, 3, 4] rfl 6 rfl rfl rfl rfl (Nat.le_of_ble_eq_true rfl) dX6_lapsesIn_30 ?_
      have e9 : rr = (((f_X6_daysLeft z p1), vm_bi s0_14) : Int32 × Int32) := eF.trans (by rw [f_X6_lapsesIn_j14, if_pos c_1])
      exact W.iret (v := (f_X6_daysLeft z p1)) hx hb hr (fun t ht hW => ⟨⟨_, (), rfl, by rw [e9], (by rw [e9]; show va_P _ _ _ t.heap; rw [ht]; exact hP)⟩, hS.F ht⟩) hS.2.2 dX6_lapsesIn_33
    · rw [if_neg c_1] at eO
      refine lv_iconst (v := 0) hx hb dX6_lapsesIn_24 (by decide) ?_
      refine lv_goto (tgt := 33) hx hb dX6_lapsesIn_25 (by decide) ?_
      have e9 : rr = ((0, vm_bi s0_14) : Int32 × Int32) := eF.trans (by rw [f_X6_lapsesIn_j14, if_neg c_1])
      exact W.iret (v := 0) hx hb hr (fun t ht hW => ⟨⟨_, (), rfl, by rw [e9], (by rw [e9]; show va_P _ _ _ t.heap; rw [ht]; exact hP)⟩, hS.F ht⟩) hS.2.2 dX6_lapsesIn_33
  rw [o_X6_lapsesIn] at eO
  refine lv_aload_n hx hb dX6_lapsesIn_0 rfl (lv_at hl 0 rfl) ?_
  refine lv_aload_n hx hb dX6_lapsesIn_1 rfl (lv_at hl 0 rfl) ?_
  refine lv_iload_n hx hb dX6_lapsesIn_2 rfl (lv_at hl 1 rfl) ?_
  refine vm_roVx (v := vm_bi (f_X6_isMandate z p1)) (As := [.int p1]) (rest := [.ref h0]) (T := TX6) (N := 11) (wc := [(h0, .inr (6, [.ref h1, .int states, .ref h2, .int ln, .ref h3, .int thr, .ref h4, .int rd, .int num, .int due, .long hash])), (h1, .inl (cI, 163, .inl z)), (h2, .inl (cI, 978, .inl hi)), (h3, .inl (cI, 60, .inl tx)), (h4, .inl (cI, 42, .inl pa))]) ⟨hx, hb, hml, hown, hts⟩ hK hN hP hl.1 ⟨Nat.le_of_ble_eq_true rfl, Nat.le_of_ble_eq_true rfl⟩ (c_X6_isMandate l dC dI cI cB h0 h1 h2 h3 h4 states ln thr rd num due hash z hi tx pa p1) (cwV 1 hts gX6_lapsesIn_X6_isMandate rfl rfl rfl yd_X6_isMandate ⟨Nat.le_of_ble_eq_true rfl, Nat.le_of_ble_eq_true rfl⟩) [0, 1, 2, 3, 4] rfl 6 rfl rfl rfl rfl (Nat.le_of_ble_eq_true rfl) dX6_lapsesIn_3 ?_
  refine lv_if_eq (tgt := 13) hx hb dX6_lapsesIn_6 (by decide) (fun c_3 => ?_) (fun c_3 => ?_)
  · rw [if_pos c_3] at eO
    refine lv_iconst (v := 1) hx hb dX6_lapsesIn_13 (by decide) ?_
    exact hJ14 true (eF.trans (by rw [f_X6_lapsesIn, if_pos c_3])) eO _ _ hP hD hS ls (lv_sub hl [0, 1] rfl)
  · rw [if_neg c_3] at eO
    refine lv_iconst (v := 0) hx hb dX6_lapsesIn_9 (by decide) ?_
    refine lv_goto (tgt := 14) hx hb dX6_lapsesIn_10 (by decide) ?_
    exact hJ14 false (eF.trans (by rw [f_X6_lapsesIn, if_neg c_3])) eO _ _ hP hD hS ls (lv_sub hl [0, 1] rfl)

def f_X6_usedOf (z : Nat → Int32) (p1 : Int32) : UInt64 :=
  (FP.ddiv (FP.i2d (f_X6_of z p1 6)) (FP.i2d (f_X6_of z p1 3)))
def o_X6_usedOf (z : Nat → Int32) (p1 : Int32) : Prop :=
  o_X6_of z p1 6 ∧
  (o_X6_of z p1 3 ∧
  (vf_n64 (FP.ddiv (FP.i2d (f_X6_of z p1 6)) (FP.i2d (f_X6_of z p1 3))) ∧
  (True)))
theorem yd_X6_usedOf : yX6_usedOf.cls = RX6 ∧ yX6_usedOf.cls ≠ "java/lang/invoke/MethodHandle" ∧ yX6_usedOf.cls ≠ "java/lang/invoke/VarHandle" ∧ (parseMethodDescriptor yX6_usedOf.desc).map (fun d => d.parameters.length) = some 1 := by decide +kernel
set_option maxHeartbeats 4000000 in
set_option maxRecDepth 100000 in
theorem c_X6_usedOf (l : Launch) (dC : Nat → ClassId) (dI : Nat → Nat → Nat) (cI cB : ClassId) (h0 h1 h2 h3 h4 : Nat) (states : Int32) (ln : Int32) (thr : Int32) (rd : Int32) (num : Int32) (due : Int32) (hash : Int64) (z : Nat → Int32) (hi : Nat → Int32) (tx : Nat → Int32) (pa : Nat → Int32) (p1 : Int32) (eO : o_X6_usedOf z p1) : Met l yX6_usedOf wsX6_usedOf ({ frames := 1, cells := 0, slots := 0, locals := 22 }) (vm_pre [.ref h0, .int p1] (dC, dI) [(h0, .inr (6, [.ref h1, .int states, .ref h2, .int ln, .ref h3, .int thr, .ref h4, .int rd, .int num, .int due, .long hash])), (h1, .inl (cI, 163, .inl z)), (h2, .inl (cI, 978, .inl hi)), (h3, .inl (cI, 60, .inl tx)), (h4, .inl (cI, 42, .inl pa))] cI cB) (vp_Sd (fun r9 : UInt64 => r9 = (f_X6_usedOf z p1))) 0 0 (fun _ => False) := by
  refine Met.ofW (cc := cX6_usedOf) (maxL := 2) (ret := (some .double)) (by decide) rfl ?_
  intro p e s m args below meth c s₁ B hml hv
  obtain ⟨rfl, hP, hK, hN⟩ := hv
  have hx := B.exec
  have hb := B.bytes
  have hr := B.returns
  have hts := atoms_spec (ws := wsX6_usedOf) B.pre
  have hown : s.vm.findClass RX6 = some m.cls := findClass_of_methodNamed B.named
  have hlocks := B.notSynchronized
  generalize hrr : f_X6_usedOf z p1 = rr
  have eF := hrr.symm
  have hl := lv_entry ([.ref h0, .int p1]) (n := 2) (Nat.le_of_ble_eq_true rfl)
  rw [lg_entry_eq]
  generalize (lg_sl ([.ref h0, .int p1]) ++ List.replicate (2 - (lg_sl ([.ref h0, .int p1])).length) Slot.unset).toArray = ls at hl ⊢
  have hl : lv_has ls 2 [(0, .ref h0), (1, .int p1)] := hl
  rw [o_X6_usedOf] at eO
  refine lv_aload_n hx hb dX6_usedOf_0 rfl (lv_at hl 0 rfl) ?_
  refine lv_iload_n hx hb dX6_usedOf_1 rfl (lv_at hl 1 rfl) ?_
  refine lv_bipush (v := 6) hx hb dX6_usedOf_2 (by decide) ?_
  obtain ⟨hv_1, eO⟩ := eO
  refine vm_roVx (v := (f_X6_of z p1 6)) (As := [.int p1, .int 6]) (rest := []) (T := TX6) (N := 11) (wc := [(h0, .inr (6, [.ref h1, .int states, .ref h2, .int ln, .ref h3, .int thr, .ref h4, .int rd, .int num, .int due, .long hash])), (h1, .inl (cI, 163, .inl z)), (h2, .inl (cI, 978, .inl hi)), (h3, .inl (cI, 60, .inl tx)), (h4, .inl (cI, 42, .inl pa))]) ⟨hx, hb, hml, hown, hts⟩ hK hN hP hl.1 ⟨Nat.le_of_ble_eq_true rfl, Nat.le_of_ble_eq_true rfl⟩ (c_X6_of l dC dI cI cB h0 h1 h2 h3 h4 states ln thr rd num due hash z hi tx pa p1 6 hv_1) (cwV 2 hts gX6_usedOf_X6_of rfl rfl rfl yd_X6_of ⟨Nat.le_of_ble_eq_true rfl, Nat.le_of_ble_eq_true rfl⟩) [0, 1, 2, 3, 4] rfl 6 rfl rfl rfl rfl (Nat.le_of_ble_eq_true rfl) dX6_usedOf_4 ?_
  refine lv_i2d hx hb dX6_usedOf_7 ?_
  refine lv_aload_n hx hb dX6_usedOf_8 rfl (lv_at hl 0 rfl) ?_
  refine lv_iload_n hx hb dX6_usedOf_9 rfl (lv_at hl 1 rfl) ?_
  refine lv_iconst (v := 3) hx hb dX6_usedOf_10 (by decide) ?_
  obtain ⟨hv_2, eO⟩ := eO
  refine vm_roVx (v := (f_X6_of z p1 3)) (As := [.int p1, .int 3]) (rest := [.double (FP.i2d (f_X6_of z p1 6))]) (T := TX6) (N := 11) (wc := [(h0, .inr (6, [.ref h1, .int states, .ref h2, .int ln, .ref h3, .int thr, .ref h4, .int rd, .int num, .int due, .long hash])), (h1, .inl (cI, 163, .inl z)), (h2, .inl (cI, 978, .inl hi)), (h3, .inl (cI, 60, .inl tx)), (h4, .inl (cI, 42, .inl pa))]) ⟨hx, hb, hml, hown, hts⟩ hK hN hP hl.1 ⟨Nat.le_of_ble_eq_true rfl, Nat.le_of_ble_eq_true rfl⟩ (c_X6_of l dC dI cI cB h0 h1 h2 h3 h4 states ln thr rd num due hash z hi tx pa p1 3 hv_2) (cwV 2 hts gX6_usedOf_X6_of rfl rfl rfl yd_X6_of ⟨Nat.le_of_ble_eq_true rfl, Nat.le_of_ble_eq_true rfl⟩) [0, 1, 2, 3, 4] rfl 6 rfl rfl rfl rfl (Nat.le_of_ble_eq_true rfl) dX6_usedOf_11 ?_
  refine lv_i2d hx hb dX6_usedOf_14 ?_
  obtain ⟨hv_3, eO⟩ := eO
  refine lv_ddiv hx hb dX6_usedOf_15 hv_3 ?_
  have e9 : rr = (FP.ddiv (FP.i2d (f_X6_of z p1 6)) (FP.i2d (f_X6_of z p1 3))) := eF.trans (by rw [f_X6_usedOf])
  exact W.dret (v := (FP.ddiv (FP.i2d (f_X6_of z p1 6)) (FP.i2d (f_X6_of z p1 3)))) hx hb hr (fun t ht hW => ⟨_, rfl, e9.symm, ht⟩) (fun _ hq => by cases hq) dX6_usedOf_16

def f_X6_usedShare_j14 (z : Nat → Int32) (p1 : Int32) (s0_14 : Bool) : UInt64 × Int32 :=
  if (vm_bi s0_14) ≤ 0 then
    ((f_X6_usedOf z p1), vm_bi s0_14)
  else
    (FP.dconst0, vm_bi s0_14)
def f_X6_usedShare (z : Nat → Int32) (p1 : Int32) : UInt64 × Int32 :=
  if (vm_bi (f_X6_isMandate z p1)) = 0 then
    f_X6_usedShare_j14 z p1 true
  else
    f_X6_usedShare_j14 z p1 false
def o_X6_usedShare_j14 (z : Nat → Int32) (p1 : Int32) (s0_14 : Bool) : Prop :=
  if (vm_bi s0_14) ≤ 0 then
    o_X6_usedOf z p1 ∧
    (True)
  else
    True
def o_X6_usedShare (z : Nat → Int32) (p1 : Int32) : Prop :=
  if (vm_bi (f_X6_isMandate z p1)) = 0 then
    o_X6_usedShare_j14 z p1 true
  else
    o_X6_usedShare_j14 z p1 false
theorem yd_X6_usedShare : yX6_usedShare.cls = RX6 ∧ yX6_usedShare.cls ≠ "java/lang/invoke/MethodHandle" ∧ yX6_usedShare.cls ≠ "java/lang/invoke/VarHandle" ∧ (parseMethodDescriptor yX6_usedShare.desc).map (fun d => d.parameters.length) = some 1 := by decide +kernel
set_option maxHeartbeats 4000000 in
set_option maxRecDepth 100000 in
theorem c_X6_usedShare (l : Launch) (dC : Nat → ClassId) (dI : Nat → Nat → Nat) (cI cB : ClassId) (h0 h1 h2 h3 h4 : Nat) (sz : Nat) (states : Int32) (ln : Int32) (thr : Int32) (rd : Int32) (num : Int32) (due : Int32) (hash : Int64) (z : Nat → Int32) (hi : Nat → Int32) (tx : Nat → Int32) (pa : Nat → Int32) (p1 : Int32) (eO : o_X6_usedShare z p1) : Met l yX6_usedShare wsX6_usedShare ({ frames := 2, cells := 0, slots := 0, locals := 43 }) (vm_prw [.ref h0, .int p1] (dC, dI) [(h0, .inr (6, [.ref h1, .int states, .ref h2, .int ln, .ref h3, .int thr, .ref h4, .int rd, .int num, .int due, .long hash])), (h1, .inl (cI, 163, .inl z)), (h2, .inl (cI, 978, .inl hi)), (h3, .inl (cI, 60, .inl tx)), (h4, .inl (cI, 42, .inl pa))] cI cB sz) (va_Qd (fun (r9 : UInt64) (_ : Unit) => r9 = (f_X6_usedShare z p1).1) (fun _ t => va_P (dC, dI) vwCl [(h0, .inr (6, [.ref h1, .int states, .ref h2, .int ln, .ref h3, .int ((f_X6_usedShare z p1).2), .ref h4, .int rd, .int num, .int due, .long hash])), (h1, .inl (cI, 163, .inl z)), (h2, .inl (cI, 978, .inl hi)), (h3, .inl (cI, 60, .inl tx)), (h4, .inl (cI, 42, .inl pa))] t.heap) (va_A [(h0, .inr (6, [.ref h1, .int states, .ref h2, .int ln, .ref h3, .int thr, .ref h4, .int rd, .int num, .int due, .long hash])), (h1, .inl (cI, 163, .inl z)), (h2, .inl (cI, 978, .inl hi)), (h3, .inl (cI, 60, .inl tx)), (h4, .inl (cI, 42, .inl pa))] sz)) 0 0 (va_A [(h0, .inr (6, [.ref h1, .int states, .ref h2, .int ln, .ref h3, .int thr, .ref h4, .int rd, .int num, .int due, .long hash])), (h1, .inl (cI, 163, .inl z)), (h2, .inl (cI, 978, .inl hi)), (h3, .inl (cI, 60, .inl tx)), (h4, .inl (cI, 42, .inl pa))] sz) := by
  refine Met.ofW (cc := cX6_usedShare) (maxL := 2) (ret := (some .double)) (by decide) rfl ?_
  intro p e s m args below meth c s₁ B hml hv
  obtain ⟨rfl, hsz, hP, hK, hN, hD0⟩ := hv
  have hx := B.exec
  have hb := B.bytes
  have hr := B.returns
  have hts := atoms_spec (ws := wsX6_usedShare) B.pre
  have hown : s.vm.findClass RX6 = some m.cls := findClass_of_methodNamed B.named
  have hlocks := B.notSynchronized
  subst hsz
  have hD := hD0.self (sz := s.heap.size)
  generalize hAe : va_A [(h0, .inr (6, [.ref h1, .int states, .ref h2, .int ln, .ref h3, .int thr, .ref h4, .int rd, .int num, .int due, .long hash])), (h1, .inl (cI, 163, .inl z)), (h2, .inl (cI, 978, .inl hi)), (h3, .inl (cI, 60, .inl tx)), (h4, .inl (cI, 42, .inl pa))] s.heap.size = A at hD ⊢
  have hA : ∀ q : Nat, s.heap.size ≤ q → A q := fun q h => by rw [← hAe]; exact Or.inr h
  have hS : va_S A s.heap s.heap [] := va_S.rf
  have hP : va_P (dC, dI) vwCl [(h0, .inr (6, [.ref h1, .int states, .ref h2, .int ln, .ref h3, .int thr, .ref h4, .int rd, .int num, .int due, .long hash])), (h1, .inl (cI, 163, .inl z)), (h2, .inl (cI, 978, .inl hi)), (h3, .inl (cI, 60, .inl tx)), (h4, .inl (cI, 42, .inl pa))] s.heap := hP
  have kw1 := hts (.fieldLink RX6 22 "LapseMandatesModel" "thrown" "I") (List.mem_of_getElem? (i := 1) rfl)
  have iwsX60 : ∀ w ∈ wsX60, w ∈ wsX6_usedShare := fun w h => List.mem_cons_of_mem _ (List.mem_append_right _ h)
  generalize hrr : f_X6_usedShare z p1 = rr
  have eF := hrr.symm
  have hl := lv_entry ([.ref h0, .int p1]) (n := 2) (Nat.le_of_ble_eq_true rfl)
  rw [lg_entry_eq]
  generalize (lg_sl ([.ref h0, .int p1]) ++ List.replicate (2 - (lg_sl ([.ref h0, .int p1])).length) Slot.unset).toArray = ls at hl ⊢
  have hl : lv_has ls 2 [(0, .ref h0), (1, .int p1)] := hl
  have hJ14 : ∀ (s0_14 : Bool), rr = f_X6_usedShare_j14 z p1 s0_14 → o_X6_usedShare_j14 z p1 s0_14 → ∀ (H : Heap) (locs : List Loc), va_P (dC, dI) vwCl [(h0, .inr (6, [.ref h1, .int states, .ref h2, .int ln, .ref h3, .int thr, .ref h4, .int rd, .int num, .int due, .long hash])), (h1, .inl (cI, 163, .inl z)), (h2, .inl (cI, 978, .inl hi)), (h3, .inl (cI, 60, .inl tx)), (h4, .inl (cI, 42, .inl pa))] H → va_D A [(h0, .inr (6, [.ref h1, .int states, .ref h2, .int ln, .ref h3, .int thr, .ref h4, .int rd, .int num, .int due, .long hash])), (h1, .inl (cI, 163, .inl z)), (h2, .inl (cI, 978, .inl hi)), (h3, .inl (cI, 60, .inl tx)), (h4, .inl (cI, 42, .inl pa))] → va_S A s.heap H locs → ∀ (ls : Array Slot), lv_has ls 2 [(0, .ref h0), (1, .int p1)] → W p l e (headSpec wsX6_usedShare ({ frames := 2, cells := 0, slots := 0, locals := 43 })).room s m ([.ref h0, .int p1] : List Value).toArray below meth c H locs 0 0 (MQ below (va_Qd (fun (r9 : UInt64) (_ : Unit) => r9 = rr.1) (fun _ t => va_P (dC, dI) vwCl [(h0, .inr (6, [.ref h1, .int states, .ref h2, .int ln, .ref h3, .int rr.2, .ref h4, .int rd, .int num, .int due, .long hash])), (h1, .inl (cI, 163, .inl z)), (h2, .inl (cI, 978, .inl hi)), (h3, .inl (cI, 60, .inl tx)), (h4, .inl (cI, 42, .inl pa))] t.heap) A) ([.ref h0, .int p1] : List Value).toArray s 0 0 A) (F0 m 14 ls [.int (vm_bi s0_14), .ref h0]) := by
    intro s0_14 eF eO H locs hP hD hS ls hl
    rw [o_X6_usedShare_j14] at eO
    refine va_put (D := (dC, dI)) (ci := 6) (v := .int (vm_bi s0_14)) (ty := .int) (C := RX6) (T := TX6) (N := 11) hx hb hts iwsX60 tyX6 tyX6_ok nmX6 hown hK hP hD hS 0 rfl rfl 5 (by decide) kw1 (fun _ h9 => h9) rfl (by decide +kernel) rfl rfl (Nat.le_of_ble_eq_true rfl) dX6_usedShare_14 (fun H locs hP hD hS => ?_)
    have hP : va_P (dC, dI) vwCl [(h0, .inr (6, [.ref h1, .int states, .ref h2, .int ln, .ref h3, .int (vm_bi s0_14), .ref h4, .int rd, .int num, .int due, .long hash])), (h1, .inl (cI, 163, .inl z)), (h2, .inl (cI, 978, .inl hi)), (h3, .inl (cI, 60, .inl tx)), (h4, .inl (cI, 42, .inl pa))] H := hP
    have hD : va_D A [(h0, .inr (6, [.ref h1, .int states, .ref h2, .int ln, .ref h3, .int (vm_bi s0_14), .ref h4, .int rd, .int num, .int due, .long hash])), (h1, .inl (cI, 163, .inl z)), (h2, .inl (cI, 978, .inl hi)), (h3, .inl (cI, 60, .inl tx)), (h4, .inl (cI, 42, .inl pa))] := hD
    refine lv_aload_n hx hb dX6_usedShare_17 rfl (lv_at hl 0 rfl) ?_
    refine va_get (D := (dC, dI)) (ci := 6) (v := .int (vm_bi s0_14)) (C := RX6) (T := TX6) (N := 11) hx hb hts iwsX60 hown hK hP 0 rfl rfl 5 (by decide) kw1 (fun _ h9 => h9) rfl dX6_usedShare_18 ?_
    refine lv_if_le (tgt := 28) hx hb dX6_usedShare_21 (by decide) (fun c_1 => ?_) (fun c_1 => ?_)
    · rw [if_pos c_1] at eO
      refine lv_aload_n hx hb dX6_usedShare_28 rfl (lv_at hl 0 rfl) ?_
      refine lv_iload_n hx hb dX6_usedShare_29 rfl (lv_at hl 1 rfl) ?_
      obtain ⟨hv_2, eO⟩ := eO
      refine vm_roVdx (v := (f_X6_usedOf z p1)) (As := [.int p1]) (rest := []) (T := TX6) (N := 11) (wc := [(h0, .inr (6, [.ref h1, .int states, .ref h2, .int ln, .ref h3, .int (vm_bi s0_14), .ref h4, .int rd, .int num, .int due, .long hash])), (h1, .inl (cI, 163, .inl z)), (h2, .inl (cI, 978, .inl hi)), (h3, .inl (cI, 60, .inl tx)), (h4, .inl (cI, 42, .inl pa))]) ⟨hx, hb, hml, hown, hts⟩ hK hN hP hl.1 ⟨Nat.le_of_ble_eq_true rfl, Nat.le_of_ble_eq_true rfl⟩ (c_X6_usedOf l dC dI cI cB h0 h1 h2 h3 h4 states ln (vm_bi s0_14) rd num due hash z hi tx pa p1 hv_2) (cwV 1 hts gX6_usedShare_X6_usedOf rfl rfl rfl yd_X6_usedOf ⟨Nat.le_of_ble_eq_true rfl, Nat.le_of_ble_eq_true rfl⟩) [0, 1, 2, 3, 4] rfl 6 rfl rfl rfl rfl (Nat.le_of_ble_eq_true rfl) dX6_usedShare_30 ?_
      have e9 : rr = (((f_X6_usedOf z p1), vm_bi s0_14) : UInt64 × Int32) := eF.trans (by rw [f_X6_usedShare_j14, if_pos c_1])
      exact W.dret (v := (f_X6_usedOf z p1)) hx hb hr (fun t ht hW => ⟨⟨_, (), rfl, by rw [e9], (by rw [e9]; show va_P _ _ _ t.heap; rw [ht]; exact hP)⟩, hS.F ht⟩) hS.2.2 dX6_usedShare_33
    · rw [if_neg c_1] at eO
      refine lv_dconst0 hx hb dX6_usedShare_24 ?_
      refine lv_goto (tgt := 33) hx hb dX6_usedShare_25 (by decide) ?_
      have e9 : rr = ((FP.dconst0, vm_bi s0_14) : UInt64 × Int32) := eF.trans (by rw [f_X6_usedShare_j14, if_neg c_1])
      exact W.dret (v := FP.dconst0) hx hb hr (fun t ht hW => ⟨⟨_, (), rfl, by rw [e9], (by rw [e9]; show va_P _ _ _ t.heap; rw [ht]; exact hP)⟩, hS.F ht⟩) hS.2.2 dX6_usedShare_33
  rw [o_X6_usedShare] at eO
  refine lv_aload_n hx hb dX6_usedShare_0 rfl (lv_at hl 0 rfl) ?_
  refine lv_aload_n hx hb dX6_usedShare_1 rfl (lv_at hl 0 rfl) ?_
  refine lv_iload_n hx hb dX6_usedShare_2 rfl (lv_at hl 1 rfl) ?_
  refine vm_roVx (v := vm_bi (f_X6_isMandate z p1)) (As := [.int p1]) (rest := [.ref h0]) (T := TX6) (N := 11) (wc := [(h0, .inr (6, [.ref h1, .int states, .ref h2, .int ln, .ref h3, .int thr, .ref h4, .int rd, .int num, .int due, .long hash])), (h1, .inl (cI, 163, .inl z)), (h2, .inl (cI, 978, .inl hi)), (h3, .inl (cI, 60, .inl tx)), (h4, .inl (cI, 42, .inl pa))]) ⟨hx, hb, hml, hown, hts⟩ hK hN hP hl.1 ⟨Nat.le_of_ble_eq_true rfl, Nat.le_of_ble_eq_true rfl⟩ (c_X6_isMandate l dC dI cI cB h0 h1 h2 h3 h4 states ln thr rd num due hash z hi tx pa p1) (cwV 1 hts gX6_usedShare_X6_isMandate rfl rfl rfl yd_X6_isMandate ⟨Nat.le_of_ble_eq_true rfl, Nat.le_of_ble_eq_true rfl⟩) [0, 1, 2, 3, 4] rfl 6 rfl rfl rfl rfl (Nat.le_of_ble_eq_true rfl) dX6_usedShare_3 ?_
  refine lv_if_eq (tgt := 13) hx hb dX6_usedShare_6 (by decide) (fun c_3 => ?_) (fun c_3 => ?_)
  · rw [if_pos c_3] at eO
    refine lv_iconst (v := 1) hx hb dX6_usedShare_13 (by decide) ?_
    exact hJ14 true (eF.trans (by rw [f_X6_usedShare, if_pos c_3])) eO _ _ hP hD hS ls (lv_sub hl [0, 1] rfl)
  · rw [if_neg c_3] at eO
    refine lv_iconst (v := 0) hx hb dX6_usedShare_9 (by decide) ?_
    refine lv_goto (tgt := 14) hx hb dX6_usedShare_10 (by decide) ?_
    exact hJ14 false (eF.trans (by rw [f_X6_usedShare, if_neg c_3])) eO _ _ hP hD hS ls (lv_sub hl [0, 1] rfl)

def f_X6_mix (hash : Int64) (p1 : Int64) : Int64 :=
  ((31 * hash) + p1)
theorem yd_X6_mix : yX6_mix.cls = RX6 ∧ yX6_mix.cls ≠ "java/lang/invoke/MethodHandle" ∧ yX6_mix.cls ≠ "java/lang/invoke/VarHandle" ∧ (parseMethodDescriptor yX6_mix.desc).map (fun d => d.parameters.length) = some 1 := by decide +kernel
set_option maxHeartbeats 4000000 in
set_option maxRecDepth 100000 in
theorem c_X6_mix (l : Launch) (dC : Nat → ClassId) (dI : Nat → Nat → Nat) (cI cB : ClassId) (h0 h1 h2 h3 h4 : Nat) (sz : Nat) (states : Int32) (ln : Int32) (thr : Int32) (rd : Int32) (num : Int32) (due : Int32) (hash : Int64) (z : Nat → Int32) (hi : Nat → Int32) (tx : Nat → Int32) (pa : Nat → Int32) (p1 : Int64) : Met l yX6_mix wsX6_mix ({ frames := 0, cells := 0, slots := 0, locals := 0 }) (vm_prw [.ref h0, .long p1] (dC, dI) [(h0, .inr (6, [.ref h1, .int states, .ref h2, .int ln, .ref h3, .int thr, .ref h4, .int rd, .int num, .int due, .long hash])), (h1, .inl (cI, 163, .inl z)), (h2, .inl (cI, 978, .inl hi)), (h3, .inl (cI, 60, .inl tx)), (h4, .inl (cI, 42, .inl pa))] cI cB sz) (va_Qv (fun _ : Unit => True) (fun _ t => va_P (dC, dI) vwCl [(h0, .inr (6, [.ref h1, .int states, .ref h2, .int ln, .ref h3, .int thr, .ref h4, .int rd, .int num, .int due, .long (f_X6_mix hash p1)])), (h1, .inl (cI, 163, .inl z)), (h2, .inl (cI, 978, .inl hi)), (h3, .inl (cI, 60, .inl tx)), (h4, .inl (cI, 42, .inl pa))] t.heap) (va_A [(h0, .inr (6, [.ref h1, .int states, .ref h2, .int ln, .ref h3, .int thr, .ref h4, .int rd, .int num, .int due, .long hash])), (h1, .inl (cI, 163, .inl z)), (h2, .inl (cI, 978, .inl hi)), (h3, .inl (cI, 60, .inl tx)), (h4, .inl (cI, 42, .inl pa))] sz)) 0 0 (va_A [(h0, .inr (6, [.ref h1, .int states, .ref h2, .int ln, .ref h3, .int thr, .ref h4, .int rd, .int num, .int due, .long hash])), (h1, .inl (cI, 163, .inl z)), (h2, .inl (cI, 978, .inl hi)), (h3, .inl (cI, 60, .inl tx)), (h4, .inl (cI, 42, .inl pa))] sz) := by
  refine Met.ofW (cc := cX6_mix) (maxL := 3) (ret := none) (by decide) rfl ?_
  intro p e s m args below meth c s₁ B hml hv
  obtain ⟨rfl, hsz, hP, hK, hN, hD0⟩ := hv
  have hx := B.exec
  have hb := B.bytes
  have hr := B.returns
  have hts := atoms_spec (ws := wsX6_mix) B.pre
  have hown : s.vm.findClass RX6 = some m.cls := findClass_of_methodNamed B.named
  have hlocks := B.notSynchronized
  subst hsz
  have hD := hD0.self (sz := s.heap.size)
  generalize hAe : va_A [(h0, .inr (6, [.ref h1, .int states, .ref h2, .int ln, .ref h3, .int thr, .ref h4, .int rd, .int num, .int due, .long hash])), (h1, .inl (cI, 163, .inl z)), (h2, .inl (cI, 978, .inl hi)), (h3, .inl (cI, 60, .inl tx)), (h4, .inl (cI, 42, .inl pa))] s.heap.size = A at hD ⊢
  have hA : ∀ q : Nat, s.heap.size ≤ q → A q := fun q h => by rw [← hAe]; exact Or.inr h
  have hS : va_S A s.heap s.heap [] := va_S.rf
  have hP : va_P (dC, dI) vwCl [(h0, .inr (6, [.ref h1, .int states, .ref h2, .int ln, .ref h3, .int thr, .ref h4, .int rd, .int num, .int due, .long hash])), (h1, .inl (cI, 163, .inl z)), (h2, .inl (cI, 978, .inl hi)), (h3, .inl (cI, 60, .inl tx)), (h4, .inl (cI, 42, .inl pa))] s.heap := hP
  have kw1 := hts (.constantLong RX6 204 (31)) (List.mem_of_getElem? (i := 1) rfl)
  have kw2 := hts (.fieldLink RX6 206 "LapseMandatesModel" "hash" "J") (List.mem_of_getElem? (i := 2) rfl)
  have iwsX60 : ∀ w ∈ wsX60, w ∈ wsX6_mix := fun w h => List.mem_cons_of_mem _ (List.mem_append_right _ h)
  generalize hrr : f_X6_mix hash p1 = rr
  have eF := hrr.symm
  have hl := lv_entry ([.ref h0, .long p1]) (n := 3) (Nat.le_of_ble_eq_true rfl)
  rw [lg_entry_eq]
  generalize (lg_sl ([.ref h0, .long p1]) ++ List.replicate (3 - (lg_sl ([.ref h0, .long p1])).length) Slot.unset).toArray = ls at hl ⊢
  have hl : lv_has ls 3 [(0, .ref h0), (1, .long p1)] := hl
  refine lv_aload_n hx hb dX6_mix_0 rfl (lv_at hl 0 rfl) ?_
  refine lv_ldc2 (v := 31) hx hb hown kw1 dX6_mix_1 ?_
  refine lv_aload_n hx hb dX6_mix_4 rfl (lv_at hl 0 rfl) ?_
  refine va_get (D := (dC, dI)) (ci := 6) (v := .long hash) (C := RX6) (T := TX6) (N := 11) hx hb hts iwsX60 hown hK hP 0 rfl rfl 10 (by decide) kw2 (fun _ h9 => h9) rfl dX6_mix_5 ?_
  refine lv_lmul hx hb dX6_mix_8 ?_
  refine lv_lload_n hx hb dX6_mix_9 rfl (lv_at hl 1 rfl) ?_
  refine lv_ladd hx hb dX6_mix_10 ?_
  refine va_put (D := (dC, dI)) (ci := 6) (v := .long ((31 * hash) + p1)) (ty := .long) (C := RX6) (T := TX6) (N := 11) hx hb hts iwsX60 tyX6 tyX6_ok nmX6 hown hK hP hD hS 0 rfl rfl 10 (by decide) kw2 (fun _ h9 => h9) rfl (by decide +kernel) rfl rfl (Nat.le_of_ble_eq_true rfl) dX6_mix_11 (fun H locs hP hD hS => ?_)
  have hP : va_P (dC, dI) vwCl [(h0, .inr (6, [.ref h1, .int states, .ref h2, .int ln, .ref h3, .int thr, .ref h4, .int rd, .int num, .int due, .long ((31 * hash) + p1)])), (h1, .inl (cI, 163, .inl z)), (h2, .inl (cI, 978, .inl hi)), (h3, .inl (cI, 60, .inl tx)), (h4, .inl (cI, 42, .inl pa))] H := hP
  have hD : va_D A [(h0, .inr (6, [.ref h1, .int states, .ref h2, .int ln, .ref h3, .int thr, .ref h4, .int rd, .int num, .int due, .long ((31 * hash) + p1)])), (h1, .inl (cI, 163, .inl z)), (h2, .inl (cI, 978, .inl hi)), (h3, .inl (cI, 60, .inl tx)), (h4, .inl (cI, 42, .inl pa))] := hD
  have e9 : rr = ((31 * hash) + p1) := eF.trans (by rw [f_X6_mix])
  exact W.vret hx hb hr (fun t ht hW => ⟨⟨(), rfl, trivial, (by rw [e9]; show va_P _ _ _ t.heap; rw [ht]; exact hP)⟩, hS.F ht⟩) hS.2.2 dX6_mix_14

def f_X6_mixMandate_c19 (x2_2 : Int32) (kj2 : Int32 → Int64 → Int64) (hash_c19 : Int64) : Int64 :=
  kj2 (x2_2 + 1) hash_c19
def f_X6_mixMandate_c101 (hash_c101 : Int64) : Int64 :=
  hash_c101
def f_X6_mixMandate_c89 (z : Nat → Int32) (p1 : Int32) (hash_c89 : Int64) : Int64 :=
  f_X6_mixMandate_c101 (f_X6_mix hash_c89 (f_Jxe99ae_doubleToLongBits_ccdee (f_X6_usedOf z p1)))
def f_X6_mixMandate_c79 (z : Nat → Int32) (p1 : Int32) (hash_c79 : Int64) : Int64 :=
  f_X6_mixMandate_c89 z p1 (f_X6_mix hash_c79 (Int32.toInt64 (f_X6_daysLeft z p1)))
def f_X6_mixMandate_c69 (z : Nat → Int32) (p1 : Int32) (hash_c69 : Int64) : Int64 :=
  f_X6_mixMandate_c79 z p1 (f_X6_mix hash_c69 (Int32.toInt64 (f_X6_narrowestOf z p1)))
def f_X6_mixMandate_c59 (z : Nat → Int32) (p1 : Int32) (hash_c59 : Int64) : Int64 :=
  f_X6_mixMandate_c69 z p1 (f_X6_mix hash_c59 (Int32.toInt64 (f_X6_lapsing z p1)))
def f_X6_mixMandate_c48 (z : Nat → Int32) (p1 : Int32) (hash_c48 : Int64) : Int64 :=
  f_X6_mixMandate_c59 z p1 (f_X6_mix hash_c48 (Int32.toInt64 (f_X6_roomOf z p1 1)))
def f_X6_mixMandate_c37 (z : Nat → Int32) (p1 : Int32) (hash_c37 : Int64) : Int64 :=
  f_X6_mixMandate_c48 z p1 (f_X6_mix hash_c37 (Int32.toInt64 (f_X6_roomOf z p1 0)))
def f_X6_mixMandate_j2 (z : Nat → Int32) (p1 : Int32) : Nat → Int32 → Int64 → Int64
  | 0, _, _ => 0
  | n2 + 1, x2_2, hash_2 => if 12 ≤ x2_2 then
      f_X6_mixMandate_c37 z p1 (f_X6_mix hash_2 (Int32.toInt64 (f_X6_reason z p1 100)))
    else
      f_X6_mixMandate_c19 x2_2 (f_X6_mixMandate_j2 z p1 n2) (f_X6_mix hash_2 (Int32.toInt64 (f_X6_mandateNow z p1 x2_2)))
def f_X6_mixMandate (hash : Int64) (z : Nat → Int32) (p1 : Int32) : Int64 :=
  f_X6_mixMandate_j2 z p1 ((((12 : Int32)).toInt - ((0 : Int32)).toInt).toNat + 1) 0 hash
def o_X6_mixMandate_c19 (x2_2 : Int32) (koj2 : Int32 → Int64 → Prop) (hash_c19 : Int64) : Prop :=
  koj2 (x2_2 + 1) hash_c19
def o_X6_mixMandate_c101 (hash_c101 : Int64) : Prop :=
  True
def o_X6_mixMandate_c89 (z : Nat → Int32) (p1 : Int32) (hash_c89 : Int64) : Prop :=
  o_X6_usedOf z p1 ∧
  (o_X6_mixMandate_c101 (f_X6_mix hash_c89 (f_Jxe99ae_doubleToLongBits_ccdee (f_X6_usedOf z p1))))
def o_X6_mixMandate_c79 (z : Nat → Int32) (p1 : Int32) (hash_c79 : Int64) : Prop :=
  o_X6_daysLeft z p1 ∧
  (o_X6_mixMandate_c89 z p1 (f_X6_mix hash_c79 (Int32.toInt64 (f_X6_daysLeft z p1))))
def o_X6_mixMandate_c69 (z : Nat → Int32) (p1 : Int32) (hash_c69 : Int64) : Prop :=
  o_X6_narrowestOf z p1 ∧
  (o_X6_mixMandate_c79 z p1 (f_X6_mix hash_c69 (Int32.toInt64 (f_X6_narrowestOf z p1))))
def o_X6_mixMandate_c59 (z : Nat → Int32) (p1 : Int32) (hash_c59 : Int64) : Prop :=
  o_X6_lapsing z p1 ∧
  (o_X6_mixMandate_c69 z p1 (f_X6_mix hash_c59 (Int32.toInt64 (f_X6_lapsing z p1))))
def o_X6_mixMandate_c48 (z : Nat → Int32) (p1 : Int32) (hash_c48 : Int64) : Prop :=
  o_X6_roomOf z p1 1 ∧
  (o_X6_mixMandate_c59 z p1 (f_X6_mix hash_c48 (Int32.toInt64 (f_X6_roomOf z p1 1))))
def o_X6_mixMandate_c37 (z : Nat → Int32) (p1 : Int32) (hash_c37 : Int64) : Prop :=
  o_X6_roomOf z p1 0 ∧
  (o_X6_mixMandate_c48 z p1 (f_X6_mix hash_c37 (Int32.toInt64 (f_X6_roomOf z p1 0))))
def o_X6_mixMandate_j2 (z : Nat → Int32) (p1 : Int32) : Nat → Int32 → Int64 → Prop
  | 0, _, _ => True
  | n2 + 1, x2_2, hash_2 => if 12 ≤ x2_2 then
      o_X6_reason z p1 100 ∧
      (o_X6_mixMandate_c37 z p1 (f_X6_mix hash_2 (Int32.toInt64 (f_X6_reason z p1 100))))
    else
      o_X6_mandateNow z p1 x2_2 ∧
      (o_X6_mixMandate_c19 x2_2 (o_X6_mixMandate_j2 z p1 n2) (f_X6_mix hash_2 (Int32.toInt64 (f_X6_mandateNow z p1 x2_2))))
def o_X6_mixMandate (hash : Int64) (z : Nat → Int32) (p1 : Int32) : Prop :=
  o_X6_mixMandate_j2 z p1 ((((12 : Int32)).toInt - ((0 : Int32)).toInt).toNat + 1) 0 hash
theorem yd_X6_mixMandate : yX6_mixMandate.cls = RX6 ∧ yX6_mixMandate.cls ≠ "java/lang/invoke/MethodHandle" ∧ yX6_mixMandate.cls ≠ "java/lang/invoke/VarHandle" ∧ (parseMethodDescriptor yX6_mixMandate.desc).map (fun d => d.parameters.length) = some 1 := by decide +kernel
set_option maxHeartbeats 4000000 in
set_option maxRecDepth 100000 in
theorem c_X6_mixMandate (l : Launch) (dC : Nat → ClassId) (dI : Nat → Nat → Nat) (cI cB : ClassId) (h0 h1 h2 h3 h4 : Nat) (sz : Nat) (states : Int32) (ln : Int32) (thr : Int32) (rd : Int32) (num : Int32) (due : Int32) (hash : Int64) (z : Nat → Int32) (hi : Nat → Int32) (tx : Nat → Int32) (pa : Nat → Int32) (p1 : Int32) (eO : o_X6_mixMandate hash z p1) : Met l yX6_mixMandate wsX6_mixMandate ({ frames := 4, cells := 0, slots := 0, locals := 91 }) (vm_prw [.ref h0, .int p1] (dC, dI) [(h0, .inr (6, [.ref h1, .int states, .ref h2, .int ln, .ref h3, .int thr, .ref h4, .int rd, .int num, .int due, .long hash])), (h1, .inl (cI, 163, .inl z)), (h2, .inl (cI, 978, .inl hi)), (h3, .inl (cI, 60, .inl tx)), (h4, .inl (cI, 42, .inl pa))] cI cB sz) (va_Qv (fun _ : Unit => True) (fun _ t => va_P (dC, dI) vwCl [(h0, .inr (6, [.ref h1, .int states, .ref h2, .int ln, .ref h3, .int thr, .ref h4, .int rd, .int num, .int due, .long (f_X6_mixMandate hash z p1)])), (h1, .inl (cI, 163, .inl z)), (h2, .inl (cI, 978, .inl hi)), (h3, .inl (cI, 60, .inl tx)), (h4, .inl (cI, 42, .inl pa))] t.heap) (va_A [(h0, .inr (6, [.ref h1, .int states, .ref h2, .int ln, .ref h3, .int thr, .ref h4, .int rd, .int num, .int due, .long hash])), (h1, .inl (cI, 163, .inl z)), (h2, .inl (cI, 978, .inl hi)), (h3, .inl (cI, 60, .inl tx)), (h4, .inl (cI, 42, .inl pa))] sz)) 0 0 (va_A [(h0, .inr (6, [.ref h1, .int states, .ref h2, .int ln, .ref h3, .int thr, .ref h4, .int rd, .int num, .int due, .long hash])), (h1, .inl (cI, 163, .inl z)), (h2, .inl (cI, 978, .inl hi)), (h3, .inl (cI, 60, .inl tx)), (h4, .inl (cI, 42, .inl pa))] sz) := by
  refine Met.ofW (cc := cX6_mixMandate) (maxL := 3) (ret := none) (by decide) rfl ?_
  intro p e s m args below meth c s₁ B hml hv
  obtain ⟨rfl, hsz, hP, hK, hN, hD0⟩ := hv
  have hx := B.exec
  have hb := B.bytes
  have hr := B.returns
  have hts := atoms_spec (ws := wsX6_mixMandate) B.pre
  have hown : s.vm.findClass RX6 = some m.cls := findClass_of_methodNamed B.named
  have hlocks := B.notSynchronized
  subst hsz
  have hD := hD0.self (sz := s.heap.size)
  generalize hAe : va_A [(h0, .inr (6, [.ref h1, .int states, .ref h2, .int ln, .ref h3, .int thr, .ref h4, .int rd, .int num, .int due, .long hash])), (h1, .inl (cI, 163, .inl z)), (h2, .inl (cI, 978, .inl hi)), (h3, .inl (cI, 60, .inl tx)), (h4, .inl (cI, 42, .inl pa))] s.heap.size = A at hD ⊢
  have hA : ∀ q : Nat, s.heap.size ≤ q → A q := fun q h => by rw [← hAe]; exact Or.inr h
  have hS : va_S A s.heap s.heap [] := va_S.rf
  have hP : va_P (dC, dI) vwCl [(h0, .inr (6, [.ref h1, .int states, .ref h2, .int ln, .ref h3, .int thr, .ref h4, .int rd, .int num, .int due, .long hash])), (h1, .inl (cI, 163, .inl z)), (h2, .inl (cI, 978, .inl hi)), (h3, .inl (cI, 60, .inl tx)), (h4, .inl (cI, 42, .inl pa))] s.heap := hP
  generalize hrr : f_X6_mixMandate hash z p1 = rr
  have eF := hrr.symm
  have hl := lv_entry ([.ref h0, .int p1]) (n := 3) (Nat.le_of_ble_eq_true rfl)
  rw [lg_entry_eq]
  generalize (lg_sl ([.ref h0, .int p1]) ++ List.replicate (3 - (lg_sl ([.ref h0, .int p1])).length) Slot.unset).toArray = ls at hl ⊢
  have hl : lv_has ls 3 [(0, .ref h0), (1, .int p1)] := hl
  have hJ2 : ∀ (n2 : Nat) (x2_2 : Int32) (hash_2 : Int64), (((12 : Int32)).toInt - (x2_2).toInt).toNat < n2 → 0 ≤ x2_2 → rr = f_X6_mixMandate_j2 z p1 n2 x2_2 hash_2 → o_X6_mixMandate_j2 z p1 n2 x2_2 hash_2 → ∀ (H : Heap) (locs : List Loc), va_P (dC, dI) vwCl [(h0, .inr (6, [.ref h1, .int states, .ref h2, .int ln, .ref h3, .int thr, .ref h4, .int rd, .int num, .int due, .long hash_2])), (h1, .inl (cI, 163, .inl z)), (h2, .inl (cI, 978, .inl hi)), (h3, .inl (cI, 60, .inl tx)), (h4, .inl (cI, 42, .inl pa))] H → va_D A [(h0, .inr (6, [.ref h1, .int states, .ref h2, .int ln, .ref h3, .int thr, .ref h4, .int rd, .int num, .int due, .long hash_2])), (h1, .inl (cI, 163, .inl z)), (h2, .inl (cI, 978, .inl hi)), (h3, .inl (cI, 60, .inl tx)), (h4, .inl (cI, 42, .inl pa))] → va_S A s.heap H locs → ∀ (ls : Array Slot), lv_has ls 3 [(0, .ref h0), (1, .int p1), (2, .int x2_2)] → W p l e (headSpec wsX6_mixMandate ({ frames := 4, cells := 0, slots := 0, locals := 91 })).room s m ([.ref h0, .int p1] : List Value).toArray below meth c H locs 0 0 (MQ below (va_Qv (fun _ : Unit => True) (fun _ t => va_P (dC, dI) vwCl [(h0, .inr (6, [.ref h1, .int states, .ref h2, .int ln, .ref h3, .int thr, .ref h4, .int rd, .int num, .int due, .long rr])), (h1, .inl (cI, 163, .inl z)), (h2, .inl (cI, 978, .inl hi)), (h3, .inl (cI, 60, .inl tx)), (h4, .inl (cI, 42, .inl pa))] t.heap) A) ([.ref h0, .int p1] : List Value).toArray s 0 0 A) (F0 m 2 ls []) := by
    intro n2
    induction n2 with
    | zero =>
      intro x2_2 hash_2 hm2
      exact absurd hm2 (Nat.not_lt_zero _)
    | succ n2 ih2 =>
      intro x2_2 hash_2 hm2 hi2 eF eO H locs hP hD hS ls hl
      rw [o_X6_mixMandate_j2] at eO
      refine lv_iload_n hx hb dX6_mixMandate_2 rfl (lv_at hl 2 rfl) ?_
      refine lv_bipush (v := 12) hx hb dX6_mixMandate_3 (by decide) ?_
      refine lv_icmp_ge (tgt := 25) hx hb dX6_mixMandate_5 (by decide) (fun cL2 => ?_) (fun cL2 => ?_)
      · rw [if_pos cL2] at eO
        refine lv_aload_n hx hb dX6_mixMandate_25 rfl (lv_at hl 0 rfl) ?_
        refine lv_aload_n hx hb dX6_mixMandate_26 rfl (lv_at hl 0 rfl) ?_
        refine lv_iload_n hx hb dX6_mixMandate_27 rfl (lv_at hl 1 rfl) ?_
        refine lv_bipush (v := 100) hx hb dX6_mixMandate_28 (by decide) ?_
        obtain ⟨hv_2, eO⟩ := eO
        refine vm_roVx (v := (f_X6_reason z p1 100)) (As := [.int p1, .int 100]) (rest := [.ref h0]) (T := TX6) (N := 11) (wc := [(h0, .inr (6, [.ref h1, .int states, .ref h2, .int ln, .ref h3, .int thr, .ref h4, .int rd, .int num, .int due, .long hash_2])), (h1, .inl (cI, 163, .inl z)), (h2, .inl (cI, 978, .inl hi)), (h3, .inl (cI, 60, .inl tx)), (h4, .inl (cI, 42, .inl pa))]) ⟨hx, hb, hml, hown, hts⟩ hK hN hP hl.1 ⟨Nat.le_of_ble_eq_true rfl, Nat.le_of_ble_eq_true rfl⟩ (c_X6_reason l dC dI cI cB h0 h1 h2 h3 h4 states ln thr rd num due hash_2 z hi tx pa p1 100 hv_2) (cwV 2 hts gX6_mixMandate_X6_reason rfl rfl rfl yd_X6_reason ⟨Nat.le_of_ble_eq_true rfl, Nat.le_of_ble_eq_true rfl⟩) [0, 1, 2, 3, 4] rfl 6 rfl rfl rfl rfl (Nat.le_of_ble_eq_true rfl) dX6_mixMandate_30 ?_
        refine lv_i2l (v := (Int32.toInt64 (f_X6_reason z p1 100))) hx hb dX6_mixMandate_33 rfl ?_
        refine vm_rwVv (As := [.long (Int32.toInt64 (f_X6_reason z p1 100))]) (rest := []) (T := TX6) (N := 11) (wc := [(h0, .inr (6, [.ref h1, .int states, .ref h2, .int ln, .ref h3, .int thr, .ref h4, .int rd, .int num, .int due, .long hash_2])), (h1, .inl (cI, 163, .inl z)), (h2, .inl (cI, 978, .inl hi)), (h3, .inl (cI, 60, .inl tx)), (h4, .inl (cI, 42, .inl pa))]) (w1 := [(h0, .inr (6, [.ref h1, .int states, .ref h2, .int ln, .ref h3, .int thr, .ref h4, .int rd, .int num, .int due, .long (f_X6_mix hash_2 (Int32.toInt64 (f_X6_reason z p1 100)))])), (h1, .inl (cI, 163, .inl z)), (h2, .inl (cI, 978, .inl hi)), (h3, .inl (cI, 60, .inl tx)), (h4, .inl (cI, 42, .inl pa))]) ⟨hx, hb, hml, hown, hts⟩ hK hN hP hD hS hA hl.1 ⟨Nat.le_of_ble_eq_true rfl, Nat.le_of_ble_eq_true rfl⟩ (c_X6_mix l dC dI cI cB h0 h1 h2 h3 h4 _ states ln thr rd num due hash_2 z hi tx pa (Int32.toInt64 (f_X6_reason z p1 100))) (cwV 1 hts gX6_mixMandate_X6_mix rfl rfl rfl yd_X6_mix ⟨Nat.le_of_ble_eq_true rfl, Nat.le_of_ble_eq_true rfl⟩) [0, 1, 2, 3, 4] rfl rfl rfl 6 rfl rfl rfl rfl (Nat.le_of_ble_eq_true rfl) dX6_mixMandate_34 (fun H locs hP hD hS => ?_)
        have hP : va_P (dC, dI) vwCl [(h0, .inr (6, [.ref h1, .int states, .ref h2, .int ln, .ref h3, .int thr, .ref h4, .int rd, .int num, .int due, .long (f_X6_mix hash_2 (Int32.toInt64 (f_X6_reason z p1 100)))])), (h1, .inl (cI, 163, .inl z)), (h2, .inl (cI, 978, .inl hi)), (h3, .inl (cI, 60, .inl tx)), (h4, .inl (cI, 42, .inl pa))] H := hP
        have hD : va_D A [(h0, .inr (6, [.ref h1, .int states, .ref h2, .int ln, .ref h3, .int thr, .ref h4, .int rd, .int num, .int due, .long (f_X6_mix hash_2 (Int32.toInt64 (f_X6_reason z p1 100)))])), (h1, .inl (cI, 163, .inl z)), (h2, .inl (cI, 978, .inl hi)), (h3, .inl (cI, 60, .inl tx)), (h4, .inl (cI, 42, .inl pa))] := hD
        obtain ⟨hash_c37, ehash_c37⟩ : ∃ zz9, zz9 = (f_X6_mix hash_2 (Int32.toInt64 (f_X6_reason z p1 100))) := ⟨_, rfl⟩
        rw [← ehash_c37] at hP hD
        have eF : rr = f_X6_mixMandate_c37 z p1 hash_c37 := eF.trans (by rw [f_X6_mixMandate_j2, if_pos cL2, ehash_c37])
        have eO : o_X6_mixMandate_c37 z p1 hash_c37 := by rw [ehash_c37]; exact eO
        rw [o_X6_mixMandate_c37] at eO
        refine lv_aload_n hx hb dX6_mixMandate_37 rfl (lv_at hl 0 rfl) ?_
        refine lv_aload_n hx hb dX6_mixMandate_38 rfl (lv_at hl 0 rfl) ?_
        refine lv_iload_n hx hb dX6_mixMandate_39 rfl (lv_at hl 1 rfl) ?_
        refine lv_iconst (v := 0) hx hb dX6_mixMandate_40 (by decide) ?_
        obtain ⟨hv_3, eO⟩ := eO
        refine vm_roVx (v := (f_X6_roomOf z p1 0)) (As := [.int p1, .int 0]) (rest := [.ref h0]) (T := TX6) (N := 11) (wc := [(h0, .inr (6, [.ref h1, .int states, .ref h2, .int ln, .ref h3, .int thr, .ref h4, .int rd, .int num, .int due, .long hash_c37])), (h1, .inl (cI, 163, .inl z)), (h2, .inl (cI, 978, .inl hi)), (h3, .inl (cI, 60, .inl tx)), (h4, .inl (cI, 42, .inl pa))]) ⟨hx, hb, hml, hown, hts⟩ hK hN hP hl.1 ⟨Nat.le_of_ble_eq_true rfl, Nat.le_of_ble_eq_true rfl⟩ (c_X6_roomOf l dC dI cI cB h0 h1 h2 h3 h4 states ln thr rd num due hash_c37 z hi tx pa p1 0 hv_3) (cwV 2 hts gX6_mixMandate_X6_roomOf rfl rfl rfl yd_X6_roomOf ⟨Nat.le_of_ble_eq_true rfl, Nat.le_of_ble_eq_true rfl⟩) [0, 1, 2, 3, 4] rfl 6 rfl rfl rfl rfl (Nat.le_of_ble_eq_true rfl) dX6_mixMandate_41 ?_
        refine lv_i2l (v := (Int32.toInt64 (f_X6_roomOf z p1 0))) hx hb dX6_mixMandate_44 rfl ?_
        refine vm_rwVv (As := [.long (Int32.toInt64 (f_X6_roomOf z p1 0))]) (rest := []) (T := TX6) (N := 11) (wc := [(h0, .inr (6, [.ref h1, .int states, .ref h2, .int ln, .ref h3, .int thr, .ref h4, .int rd, .int num, .int due, .long hash_c37])), (h1, .inl (cI, 163, .inl z)), (h2, .inl (cI, 978, .inl hi)), (h3, .inl (cI, 60, .inl tx)), (h4, .inl (cI, 42, .inl pa))]) (w1 := [(h0, .inr (6, [.ref h1, .int states, .ref h2, .int ln, .ref h3, .int thr, .ref h4, .int rd, .int num, .int due, .long (f_X6_mix hash_c37 (Int32.toInt64 (f_X6_roomOf z p1 0)))])), (h1, .inl (cI, 163, .inl z)), (h2, .inl (cI, 978, .inl hi)), (h3, .inl (cI, 60, .inl tx)), (h4, .inl (cI, 42, .inl pa))]) ⟨hx, hb, hml, hown, hts⟩ hK hN hP hD hS hA hl.1 ⟨Nat.le_of_ble_eq_true rfl, Nat.le_of_ble_eq_true rfl⟩ (c_X6_mix l dC dI cI cB h0 h1 h2 h3 h4 _ states ln thr rd num due hash_c37 z hi tx pa (Int32.toInt64 (f_X6_roomOf z p1 0))) (cwV 1 hts gX6_mixMandate_X6_mix rfl rfl rfl yd_X6_mix ⟨Nat.le_of_ble_eq_true rfl, Nat.le_of_ble_eq_true rfl⟩) [0, 1, 2, 3, 4] rfl rfl rfl 6 rfl rfl rfl rfl (Nat.le_of_ble_eq_true rfl) dX6_mixMandate_45 (fun H locs hP hD hS => ?_)
        have hP : va_P (dC, dI) vwCl [(h0, .inr (6, [.ref h1, .int states, .ref h2, .int ln, .ref h3, .int thr, .ref h4, .int rd, .int num, .int due, .long (f_X6_mix hash_c37 (Int32.toInt64 (f_X6_roomOf z p1 0)))])), (h1, .inl (cI, 163, .inl z)), (h2, .inl (cI, 978, .inl hi)), (h3, .inl (cI, 60, .inl tx)), (h4, .inl (cI, 42, .inl pa))] H := hP
        have hD : va_D A [(h0, .inr (6, [.ref h1, .int states, .ref h2, .int ln, .ref h3, .int thr, .ref h4, .int rd, .int num, .int due, .long (f_X6_mix hash_c37 (Int32.toInt64 (f_X6_roomOf z p1 0)))])), (h1, .inl (cI, 163, .inl z)), (h2, .inl (cI, 978, .inl hi)), (h3, .inl (cI, 60, .inl tx)), (h4, .inl (cI, 42, .inl pa))] := hD
        obtain ⟨hash_c48, ehash_c48⟩ : ∃ zz9, zz9 = (f_X6_mix hash_c37 (Int32.toInt64 (f_X6_roomOf z p1 0))) := ⟨_, rfl⟩
        rw [← ehash_c48] at hP hD
        have eF : rr = f_X6_mixMandate_c48 z p1 hash_c48 := eF.trans (by rw [f_X6_mixMandate_c37, ehash_c48])
        have eO : o_X6_mixMandate_c48 z p1 hash_c48 := by rw [ehash_c48]; exact eO
        rw [o_X6_mixMandate_c48] at eO
        refine lv_aload_n hx hb dX6_mixMandate_48 rfl (lv_at hl 0 rfl) ?_
        refine lv_aload_n hx hb dX6_mixMandate_49 rfl (lv_at hl 0 rfl) ?_
        refine lv_iload_n hx hb dX6_mixMandate_50 rfl (lv_at hl 1 rfl) ?_
        refine lv_iconst (v := 1) hx hb dX6_mixMandate_51 (by decide) ?_
        obtain ⟨hv_4, eO⟩ := eO
        refine vm_roVx (v := (f_X6_roomOf z p1 1)) (As := [.int p1, .int 1]) (rest := [.ref h0]) (T := TX6) (N := 11) (wc := [(h0, .inr (6, [.ref h1, .int states, .ref h2, .int ln, .ref h3, .int thr, .ref h4, .int rd, .int num, .int due, .long hash_c48])), (h1, .inl (cI, 163, .inl z)), (h2, .inl (cI, 978, .inl hi)), (h3, .inl (cI, 60, .inl tx)), (h4, .inl (cI, 42, .inl pa))]) ⟨hx, hb, hml, hown, hts⟩ hK hN hP hl.1 ⟨Nat.le_of_ble_eq_true rfl, Nat.le_of_ble_eq_true rfl⟩ (c_X6_roomOf l dC dI cI cB h0 h1 h2 h3 h4 states ln thr rd num due hash_c48 z hi tx pa p1 1 hv_4) (cwV 2 hts gX6_mixMandate_X6_roomOf rfl rfl rfl yd_X6_roomOf ⟨Nat.le_of_ble_eq_true rfl, Nat.le_of_ble_eq_true rfl⟩) [0, 1, 2, 3, 4] rfl 6 rfl rfl rfl rfl (Nat.le_of_ble_eq_true rfl) dX6_mixMandate_52 ?_
        refine lv_i2l (v := (Int32.toInt64 (f_X6_roomOf z p1 1))) hx hb dX6_mixMandate_55 rfl ?_
        refine vm_rwVv (As := [.long (Int32.toInt64 (f_X6_roomOf z p1 1))]) (rest := []) (T := TX6) (N := 11) (wc := [(h0, .inr (6, [.ref h1, .int states, .ref h2, .int ln, .ref h3, .int thr, .ref h4, .int rd, .int num, .int due, .long hash_c48])), (h1, .inl (cI, 163, .inl z)), (h2, .inl (cI, 978, .inl hi)), (h3, .inl (cI, 60, .inl tx)), (h4, .inl (cI, 42, .inl pa))]) (w1 := [(h0, .inr (6, [.ref h1, .int states, .ref h2, .int ln, .ref h3, .int thr, .ref h4, .int rd, .int num, .int due, .long (f_X6_mix hash_c48 (Int32.toInt64 (f_X6_roomOf z p1 1)))])), (h1, .inl (cI, 163, .inl z)), (h2, .inl (cI, 978, .inl hi)), (h3, .inl (cI, 60, .inl tx)), (h4, .inl (cI, 42, .inl pa))]) ⟨hx, hb, hml, hown, hts⟩ hK hN hP hD hS hA hl.1 ⟨Nat.le_of_ble_eq_true rfl, Nat.le_of_ble_eq_true rfl⟩ (c_X6_mix l dC dI cI cB h0 h1 h2 h3 h4 _ states ln thr rd num due hash_c48 z hi tx pa (Int32.toInt64 (f_X6_roomOf z p1 1))) (cwV 1 hts gX6_mixMandate_X6_mix rfl rfl rfl yd_X6_mix ⟨Nat.le_of_ble_eq_true rfl, Nat.le_of_ble_eq_true rfl⟩) [0, 1, 2, 3, 4] rfl rfl rfl 6 rfl rfl rfl rfl (Nat.le_of_ble_eq_true rfl) dX6_mixMandate_56 (fun H locs hP hD hS => ?_)
        have hP : va_P (dC, dI) vwCl [(h0, .inr (6, [.ref h1, .int states, .ref h2, .int ln, .ref h3, .int thr, .ref h4, .int rd, .int num, .int due, .long (f_X6_mix hash_c48 (Int32.toInt64 (f_X6_roomOf z p1 1)))])), (h1, .inl (cI, 163, .inl z)), (h2, .inl (cI, 978, .inl hi)), (h3, .inl (cI, 60, .inl tx)), (h4, .inl (cI, 42, .inl pa))] H := hP
        have hD : va_D A [(h0, .inr (6, [.ref h1, .int states, .ref h2, .int ln, .ref h3, .int thr, .ref h4, .int rd, .int num, .int due, .long (f_X6_mix hash_c48 (Int32.toInt64 (f_X6_roomOf z p1 1)))])), (h1, .inl (cI, 163, .inl z)), (h2, .inl (cI, 978, .inl hi)), (h3, .inl (cI, 60, .inl tx)), (h4, .inl (cI, 42, .inl pa))] := hD
        obtain ⟨hash_c59, ehash_c59⟩ : ∃ zz9, zz9 = (f_X6_mix hash_c48 (Int32.toInt64 (f_X6_roomOf z p1 1))) := ⟨_, rfl⟩
        rw [← ehash_c59] at hP hD
        have eF : rr = f_X6_mixMandate_c59 z p1 hash_c59 := eF.trans (by rw [f_X6_mixMandate_c48, ehash_c59])
        have eO : o_X6_mixMandate_c59 z p1 hash_c59 := by rw [ehash_c59]; exact eO
        rw [o_X6_mixMandate_c59] at eO
        refine lv_aload_n hx hb dX6_mixMandate_59 rfl (lv_at hl 0 rfl) ?_
        refine lv_aload_n hx hb dX6_mixMandate_60 rfl (lv_at hl 0 rfl) ?_
        refine lv_iload_n hx hb dX6_mixMandate_61 rfl (lv_at hl 1 rfl) ?_
        obtain ⟨hv_5, eO⟩ := eO
        refine vm_roVx (v := (f_X6_lapsing z p1)) (As := [.int p1]) (rest := [.ref h0]) (T := TX6) (N := 11) (wc := [(h0, .inr (6, [.ref h1, .int states, .ref h2, .int ln, .ref h3, .int thr, .ref h4, .int rd, .int num, .int due, .long hash_c59])), (h1, .inl (cI, 163, .inl z)), (h2, .inl (cI, 978, .inl hi)), (h3, .inl (cI, 60, .inl tx)), (h4, .inl (cI, 42, .inl pa))]) ⟨hx, hb, hml, hown, hts⟩ hK hN hP hl.1 ⟨Nat.le_of_ble_eq_true rfl, Nat.le_of_ble_eq_true rfl⟩ (c_X6_lapsing l dC dI cI cB h0 h1 h2 h3 h4 states ln thr rd num due hash_c59 z hi tx pa p1 hv_5) (cwV 1 hts gX6_mixMandate_X6_lapsing rfl rfl rfl yd_X6_lapsing ⟨Nat.le_of_ble_eq_true rfl, Nat.le_of_ble_eq_true rfl⟩) [0, 1, 2, 3, 4] rfl 6 rfl rfl rfl rfl (Nat.le_of_ble_eq_true rfl) dX6_mixMandate_62 ?_
        refine lv_i2l (v := (Int32.toInt64 (f_X6_lapsing z p1))) hx hb dX6_mixMandate_65 rfl ?_
        refine vm_rwVv (As := [.long (Int32.toInt64 (f_X6_lapsing z p1))]) (rest := []) (T := TX6) (N := 11) (wc := [(h0, .inr (6, [.ref h1, .int states, .ref h2, .int ln, .ref h3, .int thr, .ref h4, .int rd, .int num, .int due, .long hash_c59])), (h1, .inl (cI, 163, .inl z)), (h2, .inl (cI, 978, .inl hi)), (h3, .inl (cI, 60, .inl tx)), (h4, .inl (cI, 42, .inl pa))]) (w1 := [(h0, .inr (6, [.ref h1, .int states, .ref h2, .int ln, .ref h3, .int thr, .ref h4, .int rd, .int num, .int due, .long (f_X6_mix hash_c59 (Int32.toInt64 (f_X6_lapsing z p1)))])), (h1, .inl (cI, 163, .inl z)), (h2, .inl (cI, 978, .inl hi)), (h3, .inl (cI, 60, .inl tx)), (h4, .inl (cI, 42, .inl pa))]) ⟨hx, hb, hml, hown, hts⟩ hK hN hP hD hS hA hl.1 ⟨Nat.le_of_ble_eq_true rfl, Nat.le_of_ble_eq_true rfl⟩ (c_X6_mix l dC dI cI cB h0 h1 h2 h3 h4 _ states ln thr rd num due hash_c59 z hi tx pa (Int32.toInt64 (f_X6_lapsing z p1))) (cwV 1 hts gX6_mixMandate_X6_mix rfl rfl rfl yd_X6_mix ⟨Nat.le_of_ble_eq_true rfl, Nat.le_of_ble_eq_true rfl⟩) [0, 1, 2, 3, 4] rfl rfl rfl 6 rfl rfl rfl rfl (Nat.le_of_ble_eq_true rfl) dX6_mixMandate_66 (fun H locs hP hD hS => ?_)
        have hP : va_P (dC, dI) vwCl [(h0, .inr (6, [.ref h1, .int states, .ref h2, .int ln, .ref h3, .int thr, .ref h4, .int rd, .int num, .int due, .long (f_X6_mix hash_c59 (Int32.toInt64 (f_X6_lapsing z p1)))])), (h1, .inl (cI, 163, .inl z)), (h2, .inl (cI, 978, .inl hi)), (h3, .inl (cI, 60, .inl tx)), (h4, .inl (cI, 42, .inl pa))] H := hP
        have hD : va_D A [(h0, .inr (6, [.ref h1, .int states, .ref h2, .int ln, .ref h3, .int thr, .ref h4, .int rd, .int num, .int due, .long (f_X6_mix hash_c59 (Int32.toInt64 (f_X6_lapsing z p1)))])), (h1, .inl (cI, 163, .inl z)), (h2, .inl (cI, 978, .inl hi)), (h3, .inl (cI, 60, .inl tx)), (h4, .inl (cI, 42, .inl pa))] := hD
        obtain ⟨hash_c69, ehash_c69⟩ : ∃ zz9, zz9 = (f_X6_mix hash_c59 (Int32.toInt64 (f_X6_lapsing z p1))) := ⟨_, rfl⟩
        rw [← ehash_c69] at hP hD
        have eF : rr = f_X6_mixMandate_c69 z p1 hash_c69 := eF.trans (by rw [f_X6_mixMandate_c59, ehash_c69])
        have eO : o_X6_mixMandate_c69 z p1 hash_c69 := by rw [ehash_c69]; exact eO
        rw [o_X6_mixMandate_c69] at eO
        refine lv_aload_n hx hb dX6_mixMandate_69 rfl (lv_at hl 0 rfl) ?_
        refine lv_aload_n hx hb dX6_mixMandate_70 rfl (lv_at hl 0 rfl) ?_
        refine lv_iload_n hx hb dX6_mixMandate_71 rfl (lv_at hl 1 rfl) ?_
        obtain ⟨hv_6, eO⟩ := eO
        refine vm_roVx (v := (f_X6_narrowestOf z p1)) (As := [.int p1]) (rest := [.ref h0]) (T := TX6) (N := 11) (wc := [(h0, .inr (6, [.ref h1, .int states, .ref h2, .int ln, .ref h3, .int thr, .ref h4, .int rd, .int num, .int due, .long hash_c69])), (h1, .inl (cI, 163, .inl z)), (h2, .inl (cI, 978, .inl hi)), (h3, .inl (cI, 60, .inl tx)), (h4, .inl (cI, 42, .inl pa))]) ⟨hx, hb, hml, hown, hts⟩ hK hN hP hl.1 ⟨Nat.le_of_ble_eq_true rfl, Nat.le_of_ble_eq_true rfl⟩ (c_X6_narrowestOf l dC dI cI cB h0 h1 h2 h3 h4 states ln thr rd num due hash_c69 z hi tx pa p1 hv_6) (cwV 1 hts gX6_mixMandate_X6_narrowestOf rfl rfl rfl yd_X6_narrowestOf ⟨Nat.le_of_ble_eq_true rfl, Nat.le_of_ble_eq_true rfl⟩) [0, 1, 2, 3, 4] rfl 6 rfl rfl rfl rfl (Nat.le_of_ble_eq_true rfl) dX6_mixMandate_72 ?_
        refine lv_i2l (v := (Int32.toInt64 (f_X6_narrowestOf z p1))) hx hb dX6_mixMandate_75 rfl ?_
        refine vm_rwVv (As := [.long (Int32.toInt64 (f_X6_narrowestOf z p1))]) (rest := []) (T := TX6) (N := 11) (wc := [(h0, .inr (6, [.ref h1, .int states, .ref h2, .int ln, .ref h3, .int thr, .ref h4, .int rd, .int num, .int due, .long hash_c69])), (h1, .inl (cI, 163, .inl z)), (h2, .inl (cI, 978, .inl hi)), (h3, .inl (cI, 60, .inl tx)), (h4, .inl (cI, 42, .inl pa))]) (w1 := [(h0, .inr (6, [.ref h1, .int states, .ref h2, .int ln, .ref h3, .int thr, .ref h4, .int rd, .int num, .int due, .long (f_X6_mix hash_c69 (Int32.toInt64 (f_X6_narrowestOf z p1)))])), (h1, .inl (cI, 163, .inl z)), (h2, .inl (cI, 978, .inl hi)), (h3, .inl (cI, 60, .inl tx)), (h4, .inl (cI, 42, .inl pa))]) ⟨hx, hb, hml, hown, hts⟩ hK hN hP hD hS hA hl.1 ⟨Nat.le_of_ble_eq_true rfl, Nat.le_of_ble_eq_true rfl⟩ (c_X6_mix l dC dI cI cB h0 h1 h2 h3 h4 _ states ln thr rd num due hash_c69 z hi tx pa (Int32.toInt64 (f_X6_narrowestOf z p1))) (cwV 1 hts gX6_mixMandate_X6_mix rfl rfl rfl yd_X6_mix ⟨Nat.le_of_ble_eq_true rfl, Nat.le_of_ble_eq_true rfl⟩) [0, 1, 2, 3, 4] rfl rfl rfl 6 rfl rfl rfl rfl (Nat.le_of_ble_eq_true rfl) dX6_mixMandate_76 (fun H locs hP hD hS => ?_)
        have hP : va_P (dC, dI) vwCl [(h0, .inr (6, [.ref h1, .int states, .ref h2, .int ln, .ref h3, .int thr, .ref h4, .int rd, .int num, .int due, .long (f_X6_mix hash_c69 (Int32.toInt64 (f_X6_narrowestOf z p1)))])), (h1, .inl (cI, 163, .inl z)), (h2, .inl (cI, 978, .inl hi)), (h3, .inl (cI, 60, .inl tx)), (h4, .inl (cI, 42, .inl pa))] H := hP
        have hD : va_D A [(h0, .inr (6, [.ref h1, .int states, .ref h2, .int ln, .ref h3, .int thr, .ref h4, .int rd, .int num, .int due, .long (f_X6_mix hash_c69 (Int32.toInt64 (f_X6_narrowestOf z p1)))])), (h1, .inl (cI, 163, .inl z)), (h2, .inl (cI, 978, .inl hi)), (h3, .inl (cI, 60, .inl tx)), (h4, .inl (cI, 42, .inl pa))] := hD
        obtain ⟨hash_c79, ehash_c79⟩ : ∃ zz9, zz9 = (f_X6_mix hash_c69 (Int32.toInt64 (f_X6_narrowestOf z p1))) := ⟨_, rfl⟩
        rw [← ehash_c79] at hP hD
        have eF : rr = f_X6_mixMandate_c79 z p1 hash_c79 := eF.trans (by rw [f_X6_mixMandate_c69, ehash_c79])
        have eO : o_X6_mixMandate_c79 z p1 hash_c79 := by rw [ehash_c79]; exact eO
        rw [o_X6_mixMandate_c79] at eO
        refine lv_aload_n hx hb dX6_mixMandate_79 rfl (lv_at hl 0 rfl) ?_
        refine lv_aload_n hx hb dX6_mixMandate_80 rfl (lv_at hl 0 rfl) ?_
        refine lv_iload_n hx hb dX6_mixMandate_81 rfl (lv_at hl 1 rfl) ?_
        obtain ⟨hv_7, eO⟩ := eO
        refine vm_roVx (v := (f_X6_daysLeft z p1)) (As := [.int p1]) (rest := [.ref h0]) (T := TX6) (N := 11) (wc := [(h0, .inr (6, [.ref h1, .int states, .ref h2, .int ln, .ref h3, .int thr, .ref h4, .int rd, .int num, .int due, .long hash_c79])), (h1, .inl (cI, 163, .inl z)), (h2, .inl (cI, 978, .inl hi)), (h3, .inl (cI, 60, .inl tx)), (h4, .inl (cI, 42, .inl pa))]) ⟨hx, hb, hml, hown, hts⟩ hK hN hP hl.1 ⟨Nat.le_of_ble_eq_true rfl, Nat.le_of_ble_eq_true rfl⟩ (c_X6_daysLeft l dC dI cI cB h0 h1 h2 h3 h4 states ln thr rd num due hash_c79 z hi tx pa p1 hv_7) (cwV 1 hts gX6_mixMandate_X6_daysLeft rfl rfl rfl yd_X6_daysLeft ⟨Nat.le_of_ble_eq_true rfl, Nat.le_of_ble_eq_true rfl⟩) [0, 1, 2, 3, 4] rfl 6 rfl rfl rfl rfl (Nat.le_of_ble_eq_true rfl) dX6_mixMandate_82 ?_
        refine lv_i2l (v := (Int32.toInt64 (f_X6_daysLeft z p1))) hx hb dX6_mixMandate_85 rfl ?_
        refine vm_rwVv (As := [.long (Int32.toInt64 (f_X6_daysLeft z p1))]) (rest := []) (T := TX6) (N := 11) (wc := [(h0, .inr (6, [.ref h1, .int states, .ref h2, .int ln, .ref h3, .int thr, .ref h4, .int rd, .int num, .int due, .long hash_c79])), (h1, .inl (cI, 163, .inl z)), (h2, .inl (cI, 978, .inl hi)), (h3, .inl (cI, 60, .inl tx)), (h4, .inl (cI, 42, .inl pa))]) (w1 := [(h0, .inr (6, [.ref h1, .int states, .ref h2, .int ln, .ref h3, .int thr, .ref h4, .int rd, .int num, .int due, .long (f_X6_mix hash_c79 (Int32.toInt64 (f_X6_daysLeft z p1)))])), (h1, .inl (cI, 163, .inl z)), (h2, .inl (cI, 978, .inl hi)), (h3, .inl (cI, 60, .inl tx)), (h4, .inl (cI, 42, .inl pa))]) ⟨hx, hb, hml, hown, hts⟩ hK hN hP hD hS hA hl.1 ⟨Nat.le_of_ble_eq_true rfl, Nat.le_of_ble_eq_true rfl⟩ (c_X6_mix l dC dI cI cB h0 h1 h2 h3 h4 _ states ln thr rd num due hash_c79 z hi tx pa (Int32.toInt64 (f_X6_daysLeft z p1))) (cwV 1 hts gX6_mixMandate_X6_mix rfl rfl rfl yd_X6_mix ⟨Nat.le_of_ble_eq_true rfl, Nat.le_of_ble_eq_true rfl⟩) [0, 1, 2, 3, 4] rfl rfl rfl 6 rfl rfl rfl rfl (Nat.le_of_ble_eq_true rfl) dX6_mixMandate_86 (fun H locs hP hD hS => ?_)
        have hP : va_P (dC, dI) vwCl [(h0, .inr (6, [.ref h1, .int states, .ref h2, .int ln, .ref h3, .int thr, .ref h4, .int rd, .int num, .int due, .long (f_X6_mix hash_c79 (Int32.toInt64 (f_X6_daysLeft z p1)))])), (h1, .inl (cI, 163, .inl z)), (h2, .inl (cI, 978, .inl hi)), (h3, .inl (cI, 60, .inl tx)), (h4, .inl (cI, 42, .inl pa))] H := hP
        have hD : va_D A [(h0, .inr (6, [.ref h1, .int states, .ref h2, .int ln, .ref h3, .int thr, .ref h4, .int rd, .int num, .int due, .long (f_X6_mix hash_c79 (Int32.toInt64 (f_X6_daysLeft z p1)))])), (h1, .inl (cI, 163, .inl z)), (h2, .inl (cI, 978, .inl hi)), (h3, .inl (cI, 60, .inl tx)), (h4, .inl (cI, 42, .inl pa))] := hD
        obtain ⟨hash_c89, ehash_c89⟩ : ∃ zz9, zz9 = (f_X6_mix hash_c79 (Int32.toInt64 (f_X6_daysLeft z p1))) := ⟨_, rfl⟩
        rw [← ehash_c89] at hP hD
        have eF : rr = f_X6_mixMandate_c89 z p1 hash_c89 := eF.trans (by rw [f_X6_mixMandate_c79, ehash_c89])
        have eO : o_X6_mixMandate_c89 z p1 hash_c89 := by rw [ehash_c89]; exact eO
        rw [o_X6_mixMandate_c89] at eO
        refine lv_aload_n hx hb dX6_mixMandate_89 rfl (lv_at hl 0 rfl) ?_
        refine lv_aload_n hx hb dX6_mixMandate_90 rfl (lv_at hl 0 rfl) ?_
        refine lv_iload_n hx hb dX6_mixMandate_91 rfl (lv_at hl 1 rfl) ?_
        obtain ⟨hv_8, eO⟩ := eO
        refine vm_roVdx (v := (f_X6_usedOf z p1)) (As := [.int p1]) (rest := [.ref h0]) (T := TX6) (N := 11) (wc := [(h0, .inr (6, [.ref h1, .int states, .ref h2, .int ln, .ref h3, .int thr, .ref h4, .int rd, .int num, .int due, .long hash_c89])), (h1, .inl (cI, 163, .inl z)), (h2, .inl (cI, 978, .inl hi)), (h3, .inl (cI, 60, .inl tx)), (h4, .inl (cI, 42, .inl pa))]) ⟨hx, hb, hml, hown, hts⟩ hK hN hP hl.1 ⟨Nat.le_of_ble_eq_true rfl, Nat.le_of_ble_eq_true rfl⟩ (c_X6_usedOf l dC dI cI cB h0 h1 h2 h3 h4 states ln thr rd num due hash_c89 z hi tx pa p1 hv_8) (cwV 1 hts gX6_mixMandate_X6_usedOf rfl rfl rfl yd_X6_usedOf ⟨Nat.le_of_ble_eq_true rfl, Nat.le_of_ble_eq_true rfl⟩) [0, 1, 2, 3, 4] rfl 6 rfl rfl rfl rfl (Nat.le_of_ble_eq_true rfl) dX6_mixMandate_92 ?_
        refine vm_roSlx (v := (f_Jxe99ae_doubleToLongBits_ccdee (f_X6_usedOf z p1))) (As := [.double (f_X6_usedOf z p1)]) (rest := [.ref h0]) ⟨hx, hb, hml, hown, hts⟩ hK hN hP hl.1 ⟨Nat.le_of_ble_eq_true rfl, Nat.le_of_ble_eq_true rfl⟩ (c_Jxe99ae_doubleToLongBits_ccdee l dC dI cI cB (f_X6_usedOf z p1)) (va_cwS 1 hts gX6_mixMandate_Jxe99ae_doubleToLongBits_ccdee rfl rfl rfl yd_Jxe99ae_doubleToLongBits_ccdee ⟨Nat.le_of_ble_eq_true rfl, Nat.le_of_ble_eq_true rfl⟩) rfl rfl (Nat.le_of_ble_eq_true rfl) dX6_mixMandate_95 ?_
        refine vm_rwVv (As := [.long (f_Jxe99ae_doubleToLongBits_ccdee (f_X6_usedOf z p1))]) (rest := []) (T := TX6) (N := 11) (wc := [(h0, .inr (6, [.ref h1, .int states, .ref h2, .int ln, .ref h3, .int thr, .ref h4, .int rd, .int num, .int due, .long hash_c89])), (h1, .inl (cI, 163, .inl z)), (h2, .inl (cI, 978, .inl hi)), (h3, .inl (cI, 60, .inl tx)), (h4, .inl (cI, 42, .inl pa))]) (w1 := [(h0, .inr (6, [.ref h1, .int states, .ref h2, .int ln, .ref h3, .int thr, .ref h4, .int rd, .int num, .int due, .long (f_X6_mix hash_c89 (f_Jxe99ae_doubleToLongBits_ccdee (f_X6_usedOf z p1)))])), (h1, .inl (cI, 163, .inl z)), (h2, .inl (cI, 978, .inl hi)), (h3, .inl (cI, 60, .inl tx)), (h4, .inl (cI, 42, .inl pa))]) ⟨hx, hb, hml, hown, hts⟩ hK hN hP hD hS hA hl.1 ⟨Nat.le_of_ble_eq_true rfl, Nat.le_of_ble_eq_true rfl⟩ (c_X6_mix l dC dI cI cB h0 h1 h2 h3 h4 _ states ln thr rd num due hash_c89 z hi tx pa (f_Jxe99ae_doubleToLongBits_ccdee (f_X6_usedOf z p1))) (cwV 1 hts gX6_mixMandate_X6_mix rfl rfl rfl yd_X6_mix ⟨Nat.le_of_ble_eq_true rfl, Nat.le_of_ble_eq_true rfl⟩) [0, 1, 2, 3, 4] rfl rfl rfl 6 rfl rfl rfl rfl (Nat.le_of_ble_eq_true rfl) dX6_mixMandate_98 (fun H locs hP hD hS => ?_)
        have hP : va_P (dC, dI) vwCl [(h0, .inr (6, [.ref h1, .int states, .ref h2, .int ln, .ref h3, .int thr, .ref h4, .int rd, .int num, .int due, .long (f_X6_mix hash_c89 (f_Jxe99ae_doubleToLongBits_ccdee (f_X6_usedOf z p1)))])), (h1, .inl (cI, 163, .inl z)), (h2, .inl (cI, 978, .inl hi)), (h3, .inl (cI, 60, .inl tx)), (h4, .inl (cI, 42, .inl pa))] H := hP
        have hD : va_D A [(h0, .inr (6, [.ref h1, .int states, .ref h2, .int ln, .ref h3, .int thr, .ref h4, .int rd, .int num, .int due, .long (f_X6_mix hash_c89 (f_Jxe99ae_doubleToLongBits_ccdee (f_X6_usedOf z p1)))])), (h1, .inl (cI, 163, .inl z)), (h2, .inl (cI, 978, .inl hi)), (h3, .inl (cI, 60, .inl tx)), (h4, .inl (cI, 42, .inl pa))] := hD
        obtain ⟨hash_c101, ehash_c101⟩ : ∃ zz9, zz9 = (f_X6_mix hash_c89 (f_Jxe99ae_doubleToLongBits_ccdee (f_X6_usedOf z p1))) := ⟨_, rfl⟩
        rw [← ehash_c101] at hP hD
        have eF : rr = f_X6_mixMandate_c101 hash_c101 := eF.trans (by rw [f_X6_mixMandate_c89, ehash_c101])
        have eO : o_X6_mixMandate_c101 hash_c101 := by rw [ehash_c101]; exact eO
        rw [o_X6_mixMandate_c101] at eO
        have e9 : rr = hash_c101 := eF.trans (by rw [f_X6_mixMandate_c101])
        exact W.vret hx hb hr (fun t ht hW => ⟨⟨(), rfl, trivial, (by rw [e9]; show va_P _ _ _ t.heap; rw [ht]; exact hP)⟩, hS.F ht⟩) hS.2.2 dX6_mixMandate_101
      · rw [if_neg cL2] at eO
        refine lv_aload_n hx hb dX6_mixMandate_8 rfl (lv_at hl 0 rfl) ?_
        refine lv_aload_n hx hb dX6_mixMandate_9 rfl (lv_at hl 0 rfl) ?_
        refine lv_iload_n hx hb dX6_mixMandate_10 rfl (lv_at hl 1 rfl) ?_
        refine lv_iload_n hx hb dX6_mixMandate_11 rfl (lv_at hl 2 rfl) ?_
        obtain ⟨hv_9, eO⟩ := eO
        refine vm_roVx (v := (f_X6_mandateNow z p1 x2_2)) (As := [.int p1, .int x2_2]) (rest := [.ref h0]) (T := TX6) (N := 11) (wc := [(h0, .inr (6, [.ref h1, .int states, .ref h2, .int ln, .ref h3, .int thr, .ref h4, .int rd, .int num, .int due, .long hash_2])), (h1, .inl (cI, 163, .inl z)), (h2, .inl (cI, 978, .inl hi)), (h3, .inl (cI, 60, .inl tx)), (h4, .inl (cI, 42, .inl pa))]) ⟨hx, hb, hml, hown, hts⟩ hK hN hP hl.1 ⟨Nat.le_of_ble_eq_true rfl, Nat.le_of_ble_eq_true rfl⟩ (c_X6_mandateNow l dC dI cI cB h0 h1 h2 h3 h4 states ln thr rd num due hash_2 z hi tx pa p1 x2_2 hv_9) (cwV 2 hts gX6_mixMandate_X6_mandateNow rfl rfl rfl yd_X6_mandateNow ⟨Nat.le_of_ble_eq_true rfl, Nat.le_of_ble_eq_true rfl⟩) [0, 1, 2, 3, 4] rfl 6 rfl rfl rfl rfl (Nat.le_of_ble_eq_true rfl) dX6_mixMandate_12 ?_
        refine lv_i2l (v := (Int32.toInt64 (f_X6_mandateNow z p1 x2_2))) hx hb dX6_mixMandate_15 rfl ?_
        refine vm_rwVv (As := [.long (Int32.toInt64 (f_X6_mandateNow z p1 x2_2))]) (rest := []) (T := TX6) (N := 11) (wc := [(h0, .inr (6, [.ref h1, .int states, .ref h2, .int ln, .ref h3, .int thr, .ref h4, .int rd, .int num, .int due, .long hash_2])), (h1, .inl (cI, 163, .inl z)), (h2, .inl (cI, 978, .inl hi)), (h3, .inl (cI, 60, .inl tx)), (h4, .inl (cI, 42, .inl pa))]) (w1 := [(h0, .inr (6, [.ref h1, .int states, .ref h2, .int ln, .ref h3, .int thr, .ref h4, .int rd, .int num, .int due, .long (f_X6_mix hash_2 (Int32.toInt64 (f_X6_mandateNow z p1 x2_2)))])), (h1, .inl (cI, 163, .inl z)), (h2, .inl (cI, 978, .inl hi)), (h3, .inl (cI, 60, .inl tx)), (h4, .inl (cI, 42, .inl pa))]) ⟨hx, hb, hml, hown, hts⟩ hK hN hP hD hS hA hl.1 ⟨Nat.le_of_ble_eq_true rfl, Nat.le_of_ble_eq_true rfl⟩ (c_X6_mix l dC dI cI cB h0 h1 h2 h3 h4 _ states ln thr rd num due hash_2 z hi tx pa (Int32.toInt64 (f_X6_mandateNow z p1 x2_2))) (cwV 1 hts gX6_mixMandate_X6_mix rfl rfl rfl yd_X6_mix ⟨Nat.le_of_ble_eq_true rfl, Nat.le_of_ble_eq_true rfl⟩) [0, 1, 2, 3, 4] rfl rfl rfl 6 rfl rfl rfl rfl (Nat.le_of_ble_eq_true rfl) dX6_mixMandate_16 (fun H locs hP hD hS => ?_)
        have hP : va_P (dC, dI) vwCl [(h0, .inr (6, [.ref h1, .int states, .ref h2, .int ln, .ref h3, .int thr, .ref h4, .int rd, .int num, .int due, .long (f_X6_mix hash_2 (Int32.toInt64 (f_X6_mandateNow z p1 x2_2)))])), (h1, .inl (cI, 163, .inl z)), (h2, .inl (cI, 978, .inl hi)), (h3, .inl (cI, 60, .inl tx)), (h4, .inl (cI, 42, .inl pa))] H := hP
        have hD : va_D A [(h0, .inr (6, [.ref h1, .int states, .ref h2, .int ln, .ref h3, .int thr, .ref h4, .int rd, .int num, .int due, .long (f_X6_mix hash_2 (Int32.toInt64 (f_X6_mandateNow z p1 x2_2)))])), (h1, .inl (cI, 163, .inl z)), (h2, .inl (cI, 978, .inl hi)), (h3, .inl (cI, 60, .inl tx)), (h4, .inl (cI, 42, .inl pa))] := hD
        obtain ⟨hash_c19, ehash_c19⟩ : ∃ zz9, zz9 = (f_X6_mix hash_2 (Int32.toInt64 (f_X6_mandateNow z p1 x2_2))) := ⟨_, rfl⟩
        rw [← ehash_c19] at hP hD
        have eF : rr = f_X6_mixMandate_c19 x2_2 (f_X6_mixMandate_j2 z p1 n2) hash_c19 := eF.trans (by rw [f_X6_mixMandate_j2, if_neg cL2, ehash_c19])
        have eO : o_X6_mixMandate_c19 x2_2 (o_X6_mixMandate_j2 z p1 n2) hash_c19 := by rw [ehash_c19]; exact eO
        rw [o_X6_mixMandate_c19] at eO
        refine lv_iinc (v := (x2_2 + 1)) (lv' := [(2, .int (x2_2 + 1)), (0, .ref h0), (1, .int p1)]) hx hb dX6_mixMandate_19 hl (k := 2) rfl rfl (by decide) rfl (fun ls hl => ?_)
        refine lv_goto (tgt := 2) hx hb dX6_mixMandate_22 (by decide) ?_
        exact ih2 (x2_2 + 1) hash_c19 (vm_up (vm_nle cL2) hm2) (vm_nn hi2 (vm_nle cL2)) (eF.trans (by rw [f_X6_mixMandate_c19])) eO _ _ hP hD hS ls (lv_sub hl [1, 2, 0] rfl)
  rw [o_X6_mixMandate] at eO
  refine lv_iconst (v := 0) hx hb dX6_mixMandate_0 (by decide) ?_
  refine lv_istore_n (lv' := [(2, .int 0), (0, .ref h0), (1, .int p1)]) hx hb dX6_mixMandate_1 rfl hl (by decide) rfl (fun ls hl => ?_)
  exact hJ2 ((((12 : Int32)).toInt - ((0 : Int32)).toInt).toNat + 1) 0 hash (Nat.lt_succ_self _) (by decide) (eF.trans (by rw [f_X6_mixMandate])) eO _ _ hP hD hS ls (lv_sub hl [1, 2, 0] rfl)
