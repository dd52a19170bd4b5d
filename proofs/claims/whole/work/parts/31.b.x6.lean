def f_X6_save_j54 (z : Nat → Int32) : Nat → Int32 → Int32 → (Nat → Int32) → Int32 × (Nat → Int32)
  | 0, _, _, _ => (0, (fun _ => 0))
  | n54 + 1, x1_54, states_54, hi_54 => if 163 ≤ x1_54 then
      ((states_54 + 1), hi_54)
    else
      f_X6_save_j54 z n54 (x1_54 + 1) states_54 (upd hi_54 (Int32.toNatClampNeg ((163 * states_54) + x1_54)) (z (Int32.toNatClampNeg x1_54)))
def f_X6_save_j52 (z : Nat → Int32) (states_52 : Int32) (hi_52 : Nat → Int32) : Int32 × (Nat → Int32) :=
  f_X6_save_j54 z ((((163 : Int32)).toInt - ((0 : Int32)).toInt).toNat + 1) 0 states_52 hi_52
def f_X6_save_j13 (states : Int32) (z : Nat → Int32) : Nat → Int32 → (Nat → Int32) → Int32 × (Nat → Int32)
  | 0, _, _ => (0, (fun _ => 0))
  | n13 + 1, x1_13, hi_13 => if 978 ≤ x1_13 then
      f_X6_save_j52 z (states - 1) hi_13
    else
      f_X6_save_j13 states z n13 (x1_13 + 1) (upd hi_13 (Int32.toNatClampNeg (x1_13 - 163)) (hi_13 (Int32.toNatClampNeg x1_13)))
def f_X6_save (states : Int32) (z : Nat → Int32) (hi : Nat → Int32) : Int32 × (Nat → Int32) :=
  if states = 6 then
    f_X6_save_j13 states z ((((978 : Int32)).toInt - ((163 : Int32)).toInt).toNat + 1) 163 hi
  else
    f_X6_save_j52 z states hi
def o_X6_save_j54 (z : Nat → Int32) : Nat → Int32 → Int32 → (Nat → Int32) → Prop
  | 0, _, _, _ => True
  | n54 + 1, x1_54, states_54, hi_54 => if 163 ≤ x1_54 then
      True
    else
      vp_in ((163 * states_54) + x1_54) 978 ∧
      (o_X6_save_j54 z n54 (x1_54 + 1) states_54 (upd hi_54 (Int32.toNatClampNeg ((163 * states_54) + x1_54)) (z (Int32.toNatClampNeg x1_54))))
def o_X6_save_j52 (z : Nat → Int32) (states_52 : Int32) (hi_52 : Nat → Int32) : Prop :=
  o_X6_save_j54 z ((((163 : Int32)).toInt - ((0 : Int32)).toInt).toNat + 1) 0 states_52 hi_52
def o_X6_save_j13 (states : Int32) (z : Nat → Int32) : Nat → Int32 → (Nat → Int32) → Prop
  | 0, _, _ => True
  | n13 + 1, x1_13, hi_13 => if 978 ≤ x1_13 then
      o_X6_save_j52 z (states - 1) hi_13
    else
      vp_in (x1_13 - 163) 978 ∧
      (o_X6_save_j13 states z n13 (x1_13 + 1) (upd hi_13 (Int32.toNatClampNeg (x1_13 - 163)) (hi_13 (Int32.toNatClampNeg x1_13))))
def o_X6_save (states : Int32) (z : Nat → Int32) (hi : Nat → Int32) : Prop :=
  if states = 6 then
    o_X6_save_j13 states z ((((978 : Int32)).toInt - ((163 : Int32)).toInt).toNat + 1) 163 hi
  else
    o_X6_save_j52 z states hi
theorem yd_X6_save : yX6_save.cls = RX6 ∧ yX6_save.cls ≠ "java/lang/invoke/MethodHandle" ∧ yX6_save.cls ≠ "java/lang/invoke/VarHandle" ∧ (parseMethodDescriptor yX6_save.desc).map (fun d => d.parameters.length) = some 0 := by decide +kernel
set_option maxHeartbeats 4000000 in
set_option maxRecDepth 100000 in
theorem c_X6_save (l : Launch) (dC : Nat → ClassId) (dI : Nat → Nat → Nat) (cI cB : ClassId) (h0 h1 h2 h3 h4 : Nat) (sz : Nat) (states : Int32) (ln : Int32) (thr : Int32) (rd : Int32) (num : Int32) (due : Int32) (hash : Int64) (z : Nat → Int32) (hi : Nat → Int32) (tx : Nat → Int32) (pa : Nat → Int32) (eO : o_X6_save states z hi) : Met l yX6_save wsX6_save ({ frames := 0, cells := 0, slots := 0, locals := 0 }) (vm_prw [.ref h0] (dC, dI) [(h0, .inr (6, [.ref h1, .int states, .ref h2, .int ln, .ref h3, .int thr, .ref h4, .int rd, .int num, .int due, .long hash])), (h1, .inl (cI, 163, .inl z)), (h2, .inl (cI, 978, .inl hi)), (h3, .inl (cI, 60, .inl tx)), (h4, .inl (cI, 42, .inl pa))] cI cB sz) (va_Qv (fun _ : Unit => True) (fun _ t => va_P (dC, dI) vwCl [(h0, .inr (6, [.ref h1, .int ((f_X6_save states z hi).1), .ref h2, .int ln, .ref h3, .int thr, .ref h4, .int rd, .int num, .int due, .long hash])), (h1, .inl (cI, 163, .inl z)), (h2, .inl (cI, 978, .inl ((f_X6_save states z hi).2))), (h3, .inl (cI, 60, .inl tx)), (h4, .inl (cI, 42, .inl pa))] t.heap) (va_A [(h0, .inr (6, [.ref h1, .int states, .ref h2, .int ln, .ref h3, .int thr, .ref h4, .int rd, .int num, .int due, .long hash])), (h1, .inl (cI, 163, .inl z)), (h2, .inl (cI, 978, .inl hi)), (h3, .inl (cI, 60, .inl tx)), (h4, .inl (cI, 42, .inl pa))] sz)) 0 0 (va_A [(h0, .inr (6, [.ref h1, .int states, .ref h2, .int ln, .ref h3, .int thr, .ref h4, .int rd, .int num, .int due, .long hash])), (h1, .inl (cI, 163, .inl z)), (h2, .inl (cI, 978, .inl hi)), (h3, .inl (cI, 60, .inl tx)), (h4, .inl (cI, 42, .inl pa))] sz) := by
  refine Met.ofW (cc := cX6_save) (maxL := 2) (ret := none) (by decide) rfl ?_
  intro p e s m args below meth c s₁ B hml hv
  obtain ⟨rfl, hsz, hP, hK, hN, hD0⟩ := hv
  have hx := B.exec
  have hb := B.bytes
  have hr := B.returns
  have hts := atoms_spec (ws := wsX6_save) B.pre
  have hown : s.vm.findClass RX6 = some m.cls := findClass_of_methodNamed B.named
  have hlocks := B.notSynchronized
  subst hsz
  have hD := hD0.self (sz := s.heap.size)
  generalize hAe : va_A [(h0, .inr (6, [.ref h1, .int states, .ref h2, .int ln, .ref h3, .int thr, .ref h4, .int rd, .int num, .int due, .long hash])), (h1, .inl (cI, 163, .inl z)), (h2, .inl (cI, 978, .inl hi)), (h3, .inl (cI, 60, .inl tx)), (h4, .inl (cI, 42, .inl pa))] s.heap.size = A at hD ⊢
  have hA : ∀ q : Nat, s.heap.size ≤ q → A q := fun q h => by rw [← hAe]; exact Or.inr h
  have hS : va_S A s.heap s.heap [] := va_S.rf
  have hP : va_P (dC, dI) vwCl [(h0, .inr (6, [.ref h1, .int states, .ref h2, .int ln, .ref h3, .int thr, .ref h4, .int rd, .int num, .int due, .long hash])), (h1, .inl (cI, 163, .inl z)), (h2, .inl (cI, 978, .inl hi)), (h3, .inl (cI, 60, .inl tx)), (h4, .inl (cI, 42, .inl pa))] s.heap := hP
  have kw1 := hts (.fieldLink RX6 26 "LapseMandatesModel" "states" "I") (List.mem_of_getElem? (i := 1) rfl)
  have kw2 := hts (.fieldLink RX6 13 "LapseMandatesModel" "history" "[I") (List.mem_of_getElem? (i := 2) rfl)
  have kw3 := hts (.fieldLink RX6 7 "LapseMandatesModel" "z" "[I") (List.mem_of_getElem? (i := 3) rfl)
  have iwsX60 : ∀ w ∈ wsX60, w ∈ wsX6_save := fun w h => List.mem_cons_of_mem _ (List.mem_append_right _ h)
  generalize hrr : f_X6_save states z hi = rr
  have eF := hrr.symm
  have hl := lv_entry ([.ref h0]) (n := 2) (Nat.le_of_ble_eq_true rfl)
  rw [lg_entry_eq]
  generalize (lg_sl ([.ref h0]) ++ List.replicate (2 - (lg_sl ([.ref h0])).length) Slot.unset).toArray = ls at hl ⊢
  have hl : lv_has ls 2 [(0, .ref h0)] := hl
  have hJ54 : ∀ (n54 : Nat) (x1_54 : Int32) (states_54 : Int32) (hi_54 : Nat → Int32), (((163 : Int32)).toInt - (x1_54).toInt).toNat < n54 → 0 ≤ x1_54 → rr = f_X6_save_j54 z n54 x1_54 states_54 hi_54 → o_X6_save_j54 z n54 x1_54 states_54 hi_54 → ∀ (H : Heap) (locs : List Loc), va_P (dC, dI) vwCl [(h0, .inr (6, [.ref h1, .int states_54, .ref h2, .int ln, .ref h3, .int thr, .ref h4, .int rd, .int num, .int due, .long hash])), (h1, .inl (cI, 163, .inl z)), (h2, .inl (cI, 978, .inl hi_54)), (h3, .inl (cI, 60, .inl tx)), (h4, .inl (cI, 42, .inl pa))] H → va_D A [(h0, .inr (6, [.ref h1, .int states_54, .ref h2, .int ln, .ref h3, .int thr, .ref h4, .int rd, .int num, .int due, .long hash])), (h1, .inl (cI, 163, .inl z)), (h2, .inl (cI, 978, .inl hi_54)), (h3, .inl (cI, 60, .inl tx)), (h4, .inl (cI, 42, .inl pa))] → va_S A s.heap H locs → ∀ (ls : Array Slot), lv_has ls 2 [(0, .ref h0), (1, .int x1_54)] → W p l e (headSpec wsX6_save ({ frames := 0, cells := 0, slots := 0, locals := 0 })).room s m ([.ref h0] : List Value).toArray below meth c H locs 0 0 (MQ below (va_Qv (fun _ : Unit => True) (fun _ t => va_P (dC, dI) vwCl [(h0, .inr (6, [.ref h1, .int rr.1, .ref h2, .int ln, .ref h3, .int thr, .ref h4, .int rd, .int num, .int due, .long hash])), (h1, .inl (cI, 163, .inl z)), (h2, .inl (cI, 978, .inl rr.2)), (h3, .inl (cI, 60, .inl tx)), (h4, .inl (cI, 42, .inl pa))] t.heap) A) ([.ref h0] : List Value).toArray s 0 0 A) (F0 m 54 ls []) := by
    intro n54
    induction n54 with
    | zero =>
      intro x1_54 states_54 hi_54 hm54
      exact absurd hm54 (Nat.not_lt_zero _)
    | succ n54 ih54 =>
      intro x1_54 states_54 hi_54 hm54 hi54 eF eO H locs hP hD hS ls hl
      rw [o_X6_save_j54] at eO
      refine lv_iload_n hx hb dX6_save_54 rfl (lv_at hl 1 rfl) ?_
      refine lv_sipush (v := 163) hx hb dX6_save_55 (by decide) ?_
      refine lv_icmp_ge (tgt := 88) hx hb dX6_save_58 (by decide) (fun cL54 => ?_) (fun cL54 => ?_)
      · rw [if_pos cL54] at eO
        refine lv_aload_n hx hb dX6_save_88 rfl (lv_at hl 0 rfl) ?_
        refine lv_dup hx hb dX6_save_89 rfl ?_
        refine va_get (D := (dC, dI)) (ci := 6) (v := .int states_54) (C := RX6) (T := TX6) (N := 11) hx hb hts iwsX60 hown hK hP 0 rfl rfl 1 (by decide) kw1 (fun _ h9 => h9) rfl dX6_save_90 ?_
        refine lv_iconst (v := 1) hx hb dX6_save_93 (by decide) ?_
        refine lv_iadd hx hb dX6_save_94 ?_
        refine va_put (D := (dC, dI)) (ci := 6) (v := .int (states_54 + 1)) (ty := .int) (C := RX6) (T := TX6) (N := 11) hx hb hts iwsX60 tyX6 tyX6_ok nmX6 hown hK hP hD hS 0 rfl rfl 1 (by decide) kw1 (fun _ h9 => h9) rfl (by decide +kernel) rfl rfl (Nat.le_of_ble_eq_true rfl) dX6_save_95 (fun H locs hP hD hS => ?_)
        have hP : va_P (dC, dI) vwCl [(h0, .inr (6, [.ref h1, .int (states_54 + 1), .ref h2, .int ln, .ref h3, .int thr, .ref h4, .int rd, .int num, .int due, .long hash])), (h1, .inl (cI, 163, .inl z)), (h2, .inl (cI, 978, .inl hi_54)), (h3, .inl (cI, 60, .inl tx)), (h4, .inl (cI, 42, .inl pa))] H := hP
        have hD : va_D A [(h0, .inr (6, [.ref h1, .int (states_54 + 1), .ref h2, .int ln, .ref h3, .int thr, .ref h4, .int rd, .int num, .int due, .long hash])), (h1, .inl (cI, 163, .inl z)), (h2, .inl (cI, 978, .inl hi_54)), (h3, .inl (cI, 60, .inl tx)), (h4, .inl (cI, 42, .inl pa))] := hD
        have e9 : rr = ((states_54 + 1), hi_54) := eF.trans (by rw [f_X6_save_j54, if_pos cL54])
        exact W.vret hx hb hr (fun t ht hW => ⟨⟨(), rfl, trivial, (by rw [e9]; show va_P _ _ _ t.heap; rw [ht]; exact hP)⟩, hS.F ht⟩) hS.2.2 dX6_save_98
      · rw [if_neg cL54] at eO
        refine lv_aload_n hx hb dX6_save_61 rfl (lv_at hl 0 rfl) ?_
        refine va_get (D := (dC, dI)) (ci := 6) (v := .ref h2) (C := RX6) (T := TX6) (N := 11) hx hb hts iwsX60 hown hK hP 0 rfl rfl 2 (by decide) kw2 (fun _ h9 => h9) rfl dX6_save_62 ?_
        refine lv_sipush (v := 163) hx hb dX6_save_65 (by decide) ?_
        refine lv_aload_n hx hb dX6_save_68 rfl (lv_at hl 0 rfl) ?_
        refine va_get (D := (dC, dI)) (ci := 6) (v := .int states_54) (C := RX6) (T := TX6) (N := 11) hx hb hts iwsX60 hown hK hP 0 rfl rfl 1 (by decide) kw1 (fun _ h9 => h9) rfl dX6_save_69 ?_
        refine lv_imul hx hb dX6_save_72 ?_
        refine lv_iload_n hx hb dX6_save_73 rfl (lv_at hl 1 rfl) ?_
        refine lv_iadd hx hb dX6_save_74 ?_
        refine lv_aload_n hx hb dX6_save_75 rfl (lv_at hl 0 rfl) ?_
        refine va_get (D := (dC, dI)) (ci := 6) (v := .ref h1) (C := RX6) (T := TX6) (N := 11) hx hb hts iwsX60 hown hK hP 0 rfl rfl 0 (by decide) kw3 (fun _ h9 => h9) rfl dX6_save_76 ?_
        refine lv_iload_n hx hb dX6_save_79 rfl (lv_at hl 1 rfl) ?_
        refine va_iald hx hb hK hP 1 0 rfl rfl (vm_in hi54 (vm_nle cL54) (by decide)) dX6_save_80 ?_
        obtain ⟨hv_2, eO⟩ := eO
        refine va_iast hx hb hK hP hD hS 2 0 rfl rfl hv_2 dX6_save_81 (fun H locs hP hD hS => ?_)
        have hP : va_P (dC, dI) vwCl [(h0, .inr (6, [.ref h1, .int states_54, .ref h2, .int ln, .ref h3, .int thr, .ref h4, .int rd, .int num, .int due, .long hash])), (h1, .inl (cI, 163, .inl z)), (h2, .inl (cI, 978, .inl (upd hi_54 (Int32.toNatClampNeg ((163 * states_54) + x1_54)) (z (Int32.toNatClampNeg x1_54))))), (h3, .inl (cI, 60, .inl tx)), (h4, .inl (cI, 42, .inl pa))] H := hP
        have hD : va_D A [(h0, .inr (6, [.ref h1, .int states_54, .ref h2, .int ln, .ref h3, .int thr, .ref h4, .int rd, .int num, .int due, .long hash])), (h1, .inl (cI, 163, .inl z)), (h2, .inl (cI, 978, .inl (upd hi_54 (Int32.toNatClampNeg ((163 * states_54) + x1_54)) (z (Int32.toNatClampNeg x1_54))))), (h3, .inl (cI, 60, .inl tx)), (h4, .inl (cI, 42, .inl pa))] := hD
        refine lv_iinc (v := (x1_54 + 1)) (lv' := [(1, .int (x1_54 + 1)), (0, .ref h0)]) hx hb dX6_save_82 hl (k := 1) rfl rfl (by decide) rfl (fun ls hl => ?_)
        refine lv_goto (tgt := 54) hx hb dX6_save_85 (by decide) ?_
        exact ih54 (x1_54 + 1) states_54 (upd hi_54 (Int32.toNatClampNeg ((163 * states_54) + x1_54)) (z (Int32.toNatClampNeg x1_54))) (vm_up (vm_nle cL54) hm54) (vm_nn hi54 (vm_nle cL54)) (eF.trans (by rw [f_X6_save_j54, if_neg cL54])) eO _ _ hP hD hS ls (lv_sub hl [1, 0] rfl)
  have hJ52 : ∀ (states_52 : Int32) (hi_52 : Nat → Int32), rr = f_X6_save_j52 z states_52 hi_52 → o_X6_save_j52 z states_52 hi_52 → ∀ (H : Heap) (locs : List Loc), va_P (dC, dI) vwCl [(h0, .inr (6, [.ref h1, .int states_52, .ref h2, .int ln, .ref h3, .int thr, .ref h4, .int rd, .int num, .int due, .long hash])), (h1, .inl (cI, 163, .inl z)), (h2, .inl (cI, 978, .inl hi_52)), (h3, .inl (cI, 60, .inl tx)), (h4, .inl (cI, 42, .inl pa))] H → va_D A [(h0, .inr (6, [.ref h1, .int states_52, .ref h2, .int ln, .ref h3, .int thr, .ref h4, .int rd, .int num, .int due, .long hash])), (h1, .inl (cI, 163, .inl z)), (h2, .inl (cI, 978, .inl hi_52)), (h3, .inl (cI, 60, .inl tx)), (h4, .inl (cI, 42, .inl pa))] → va_S A s.heap H locs → ∀ (ls : Array Slot), lv_has ls 2 [(0, .ref h0)] → W p l e (headSpec wsX6_save ({ frames := 0, cells := 0, slots := 0, locals := 0 })).room s m ([.ref h0] : List Value).toArray below meth c H locs 0 0 (MQ below (va_Qv (fun _ : Unit => True) (fun _ t => va_P (dC, dI) vwCl [(h0, .inr (6, [.ref h1, .int rr.1, .ref h2, .int ln, .ref h3, .int thr, .ref h4, .int rd, .int num, .int due, .long hash])), (h1, .inl (cI, 163, .inl z)), (h2, .inl (cI, 978, .inl rr.2)), (h3, .inl (cI, 60, .inl tx)), (h4, .inl (cI, 42, .inl pa))] t.heap) A) ([.ref h0] : List Value).toArray s 0 0 A) (F0 m 52 ls []) := by
    intro states_52 hi_52 eF eO H locs hP hD hS ls hl
    rw [o_X6_save_j52] at eO
    refine lv_iconst (v := 0) hx hb dX6_save_52 (by decide) ?_
    refine lv_istore_n (lv' := [(1, .int 0), (0, .ref h0)]) hx hb dX6_save_53 rfl hl (by decide) rfl (fun ls hl => ?_)
    exact hJ54 ((((163 : Int32)).toInt - ((0 : Int32)).toInt).toNat + 1) 0 states_52 hi_52 (Nat.lt_succ_self _) (by decide) (eF.trans (by rw [f_X6_save_j52])) eO _ _ hP hD hS ls (lv_sub hl [1, 0] rfl)
  have hJ13 : ∀ (n13 : Nat) (x1_13 : Int32) (hi_13 : Nat → Int32), (((978 : Int32)).toInt - (x1_13).toInt).toNat < n13 → 0 ≤ x1_13 → rr = f_X6_save_j13 states z n13 x1_13 hi_13 → o_X6_save_j13 states z n13 x1_13 hi_13 → ∀ (H : Heap) (locs : List Loc), va_P (dC, dI) vwCl [(h0, .inr (6, [.ref h1, .int states, .ref h2, .int ln, .ref h3, .int thr, .ref h4, .int rd, .int num, .int due, .long hash])), (h1, .inl (cI, 163, .inl z)), (h2, .inl (cI, 978, .inl hi_13)), (h3, .inl (cI, 60, .inl tx)), (h4, .inl (cI, 42, .inl pa))] H → va_D A [(h0, .inr (6, [.ref h1, .int states, .ref h2, .int ln, .ref h3, .int thr, .ref h4, .int rd, .int num, .int due, .long hash])), (h1, .inl (cI, 163, .inl z)), (h2, .inl (cI, 978, .inl hi_13)), (h3, .inl (cI, 60, .inl tx)), (h4, .inl (cI, 42, .inl pa))] → va_S A s.heap H locs → ∀ (ls : Array Slot), lv_has ls 2 [(0, .ref h0), (1, .int x1_13)] → W p l e (headSpec wsX6_save ({ frames := 0, cells := 0, slots := 0, locals := 0 })).room s m ([.ref h0] : List Value).toArray below meth c H locs 0 0 (MQ below (va_Qv (fun _ : Unit => True) (fun _ t => va_P (dC, dI) vwCl [(h0, .inr (6, [.ref h1, .int rr.1, .ref h2, .int ln, .ref h3, .int thr, .ref h4, .int rd, .int num, .int due, .long hash])), (h1, .inl (cI, 163, .inl z)), (h2, .inl (cI, 978, .inl rr.2)), (h3, .inl (cI, 60, .inl tx)), (h4, .inl (cI, 42, .inl pa))] t.heap) A) ([.ref h0] : List Value).toArray s 0 0 A) (F0 m 13 ls []) := by
    intro n13
    induction n13 with
    | zero =>
      intro x1_13 hi_13 hm13
      exact absurd hm13 (Nat.not_lt_zero _)
    | succ n13 ih13 =>
      intro x1_13 hi_13 hm13 hi13 eF eO H locs hP hD hS ls hl
      rw [o_X6_save_j13] at eO
      refine lv_iload_n hx hb dX6_save_13 rfl (lv_at hl 1 rfl) ?_
      refine lv_sipush (v := 978) hx hb dX6_save_14 (by decide) ?_
      refine lv_icmp_ge (tgt := 42) hx hb dX6_save_17 (by decide) (fun cL13 => ?_) (fun cL13 => ?_)
      · rw [if_pos cL13] at eO
        refine lv_aload_n hx hb dX6_save_42 rfl (lv_at hl 0 rfl) ?_
        refine lv_dup hx hb dX6_save_43 rfl ?_
        refine va_get (D := (dC, dI)) (ci := 6) (v := .int states) (C := RX6) (T := TX6) (N := 11) hx hb hts iwsX60 hown hK hP 0 rfl rfl 1 (by decide) kw1 (fun _ h9 => h9) rfl dX6_save_44 ?_
        refine lv_iconst (v := 1) hx hb dX6_save_47 (by decide) ?_
        refine lv_isub hx hb dX6_save_48 ?_
        refine va_put (D := (dC, dI)) (ci := 6) (v := .int (states - 1)) (ty := .int) (C := RX6) (T := TX6) (N := 11) hx hb hts iwsX60 tyX6 tyX6_ok nmX6 hown hK hP hD hS 0 rfl rfl 1 (by decide) kw1 (fun _ h9 => h9) rfl (by decide +kernel) rfl rfl (Nat.le_of_ble_eq_true rfl) dX6_save_49 (fun H locs hP hD hS => ?_)
        have hP : va_P (dC, dI) vwCl [(h0, .inr (6, [.ref h1, .int (states - 1), .ref h2, .int ln, .ref h3, .int thr, .ref h4, .int rd, .int num, .int due, .long hash])), (h1, .inl (cI, 163, .inl z)), (h2, .inl (cI, 978, .inl hi_13)), (h3, .inl (cI, 60, .inl tx)), (h4, .inl (cI, 42, .inl pa))] H := hP
        have hD : va_D A [(h0, .inr (6, [.ref h1, .int (states - 1), .ref h2, .int ln, .ref h3, .int thr, .ref h4, .int rd, .int num, .int due, .long hash])), (h1, .inl (cI, 163, .inl z)), (h2, .inl (cI, 978, .inl hi_13)), (h3, .inl (cI, 60, .inl tx)), (h4, .inl (cI, 42, .inl pa))] := hD
        exact hJ52 (states - 1) hi_13 (eF.trans (by rw [f_X6_save_j13, if_pos cL13])) eO _ _ hP hD hS ls (lv_sub hl [0] rfl)
      · rw [if_neg cL13] at eO
        refine lv_aload_n hx hb dX6_save_20 rfl (lv_at hl 0 rfl) ?_
        refine va_get (D := (dC, dI)) (ci := 6) (v := .ref h2) (C := RX6) (T := TX6) (N := 11) hx hb hts iwsX60 hown hK hP 0 rfl rfl 2 (by decide) kw2 (fun _ h9 => h9) rfl dX6_save_21 ?_
        refine lv_iload_n hx hb dX6_save_24 rfl (lv_at hl 1 rfl) ?_
        refine lv_sipush (v := 163) hx hb dX6_save_25 (by decide) ?_
        refine lv_isub hx hb dX6_save_28 ?_
        refine lv_aload_n hx hb dX6_save_29 rfl (lv_at hl 0 rfl) ?_
        refine va_get (D := (dC, dI)) (ci := 6) (v := .ref h2) (C := RX6) (T := TX6) (N := 11) hx hb hts iwsX60 hown hK hP 0 rfl rfl 2 (by decide) kw2 (fun _ h9 => h9) rfl dX6_save_30 ?_
        refine lv_iload_n hx hb dX6_save_33 rfl (lv_at hl 1 rfl) ?_
        refine va_iald hx hb hK hP 2 0 rfl rfl (vm_in hi13 (vm_nle cL13) (by decide)) dX6_save_34 ?_
        obtain ⟨hv_4, eO⟩ := eO
        refine va_iast hx hb hK hP hD hS 2 0 rfl rfl hv_4 dX6_save_35 (fun H locs hP hD hS => ?_)
        have hP : va_P (dC, dI) vwCl [(h0, .inr (6, [.ref h1, .int states, .ref h2, .int ln, .ref h3, .int thr, .ref h4, .int rd, .int num, .int due, .long hash])), (h1, .inl (cI, 163, .inl z)), (h2, .inl (cI, 978, .inl (upd hi_13 (Int32.toNatClampNeg (x1_13 - 163)) (hi_13 (Int32.toNatClampNeg x1_13))))), (h3, .inl (cI, 60, .inl tx)), (h4, .inl (cI, 42, .inl pa))] H := hP
        have hD : va_D A [(h0, .inr (6, [.ref h1, .int states, .ref h2, .int ln, .ref h3, .int thr, .ref h4, .int rd, .int num, .int due, .long hash])), (h1, .inl (cI, 163, .inl z)), (h2, .inl (cI, 978, .inl (upd hi_13 (Int32.toNatClampNeg (x1_13 - 163)) (hi_13 (Int32.toNatClampNeg x1_13))))), (h3, .inl (cI, 60, .inl tx)), (h4, .inl (cI, 42, .inl pa))] := hD
        refine lv_iinc (v := (x1_13 + 1)) (lv' := [(1, .int (x1_13 + 1)), (0, .ref h0)]) hx hb dX6_save_36 hl (k := 1) rfl rfl (by decide) rfl (fun ls hl => ?_)
        refine lv_goto (tgt := 13) hx hb dX6_save_39 (by decide) ?_
        exact ih13 (x1_13 + 1) (upd hi_13 (Int32.toNatClampNeg (x1_13 - 163)) (hi_13 (Int32.toNatClampNeg x1_13))) (vm_up (vm_nle cL13) hm13) (vm_nn hi13 (vm_nle cL13)) (eF.trans (by rw [f_X6_save_j13, if_neg cL13])) eO _ _ hP hD hS ls (lv_sub hl [1, 0] rfl)
  rw [o_X6_save] at eO
  refine lv_aload_n hx hb dX6_save_0 rfl (lv_at hl 0 rfl) ?_
  refine va_get (D := (dC, dI)) (ci := 6) (v := .int states) (C := RX6) (T := TX6) (N := 11) hx hb hts iwsX60 hown hK hP 0 rfl rfl 1 (by decide) kw1 (fun _ h9 => h9) rfl dX6_save_1 ?_
  refine lv_bipush (v := 6) hx hb dX6_save_4 (by decide) ?_
  refine lv_icmp_ne (tgt := 52) hx hb dX6_save_6 (by decide) (fun c_5 => ?_) (fun c_5 => ?_)
  · rw [if_neg c_5] at eO
    exact hJ52 states hi (eF.trans (by rw [f_X6_save, if_neg c_5])) eO _ _ hP hD hS ls (lv_sub hl [0] rfl)
  · rw [if_pos c_5] at eO
    refine lv_sipush (v := 163) hx hb dX6_save_9 (by decide) ?_
    refine lv_istore_n (lv' := [(1, .int 163), (0, .ref h0)]) hx hb dX6_save_12 rfl hl (by decide) rfl (fun ls hl => ?_)
    exact hJ13 ((((978 : Int32)).toInt - ((163 : Int32)).toInt).toNat + 1) 163 hi (Nat.lt_succ_self _) (by decide) (eF.trans (by rw [f_X6_save, if_pos c_5])) eO _ _ hP hD hS ls (lv_sub hl [1, 0] rfl)

def f_X6_give_c193 (z : Nat → Int32) (s0_82 : Int32) (states_c98 : Int32) (hi_c98 : Nat → Int32) (z_c193 : Nat → Int32) : Int32 × Int32 × Int32 × (Nat → Int32) × (Nat → Int32) :=
  ((z (Int32.toNatClampNeg 3)), states_c98, s0_82, z_c193, hi_c98)
def f_X6_give_c184 (z : Nat → Int32) (s0_82 : Int32) (states_c98 : Int32) (hi_c98 : Nat → Int32) (z_c184 : Nat → Int32) : Int32 × Int32 × Int32 × (Nat → Int32) × (Nat → Int32) :=
  f_X6_give_c193 z s0_82 states_c98 hi_c98 (f_X6_put z_c184 (z (Int32.toNatClampNeg 3)) 8 (-1))
def f_X6_give_c175 (z : Nat → Int32) (s0_82 : Int32) (states_c98 : Int32) (hi_c98 : Nat → Int32) (z_c175 : Nat → Int32) : Int32 × Int32 × Int32 × (Nat → Int32) × (Nat → Int32) :=
  f_X6_give_c184 z s0_82 states_c98 hi_c98 (f_X6_put z_c175 (z (Int32.toNatClampNeg 3)) 7 0)
def f_X6_give_c166 (z : Nat → Int32) (s0_82 : Int32) (states_c98 : Int32) (hi_c98 : Nat → Int32) (z_c166 : Nat → Int32) : Int32 × Int32 × Int32 × (Nat → Int32) × (Nat → Int32) :=
  f_X6_give_c175 z s0_82 states_c98 hi_c98 (f_X6_put z_c166 (z (Int32.toNatClampNeg 3)) 6 0)
def f_X6_give_c158 (z : Nat → Int32) (s0_82 : Int32) (states_c98 : Int32) (hi_c98 : Nat → Int32) (z_c158 : Nat → Int32) : Int32 × Int32 × Int32 × (Nat → Int32) × (Nat → Int32) :=
  f_X6_give_c166 z s0_82 states_c98 hi_c98 (f_X6_put z_c158 (z (Int32.toNatClampNeg 3)) 5 1)
def f_X6_give_c149 (z : Nat → Int32) (p5 : Int32) (s0_82 : Int32) (states_c98 : Int32) (hi_c98 : Nat → Int32) (z_c149 : Nat → Int32) : Int32 × Int32 × Int32 × (Nat → Int32) × (Nat → Int32) :=
  f_X6_give_c158 z s0_82 states_c98 hi_c98 (f_X6_put z_c149 (z (Int32.toNatClampNeg 3)) 4 p5)
def f_X6_give_c140 (z : Nat → Int32) (p4 : Int32) (p5 : Int32) (s0_82 : Int32) (states_c98 : Int32) (hi_c98 : Nat → Int32) (z_c140 : Nat → Int32) : Int32 × Int32 × Int32 × (Nat → Int32) × (Nat → Int32) :=
  f_X6_give_c149 z p5 s0_82 states_c98 hi_c98 (f_X6_put z_c140 (z (Int32.toNatClampNeg 3)) 3 p4)
def f_X6_give_c132 (z : Nat → Int32) (p3 : Int32) (p4 : Int32) (p5 : Int32) (s0_82 : Int32) (states_c98 : Int32) (hi_c98 : Nat → Int32) (z_c132 : Nat → Int32) : Int32 × Int32 × Int32 × (Nat → Int32) × (Nat → Int32) :=
  f_X6_give_c140 z p4 p5 s0_82 states_c98 hi_c98 (f_X6_put z_c132 (z (Int32.toNatClampNeg 3)) 2 p3)
def f_X6_give_c124 (z : Nat → Int32) (p2 : Int32) (p3 : Int32) (p4 : Int32) (p5 : Int32) (s0_82 : Int32) (states_c98 : Int32) (hi_c98 : Nat → Int32) (z_c124 : Nat → Int32) : Int32 × Int32 × Int32 × (Nat → Int32) × (Nat → Int32) :=
  f_X6_give_c132 z p3 p4 p5 s0_82 states_c98 hi_c98 (f_X6_put z_c124 (z (Int32.toNatClampNeg 3)) 1 p2)
def f_X6_give_c98 (z : Nat → Int32) (p1 : Int32) (p2 : Int32) (p3 : Int32) (p4 : Int32) (p5 : Int32) (s0_82 : Int32) (states_c98 : Int32) (hi_c98 : Nat → Int32) : Int32 × Int32 × Int32 × (Nat → Int32) × (Nat → Int32) :=
  f_X6_give_c124 z p2 p3 p4 p5 s0_82 states_c98 hi_c98 (f_X6_put (upd z (Int32.toNatClampNeg 3) ((z (Int32.toNatClampNeg 3)) + 1)) (z (Int32.toNatClampNeg 3)) 0 p1)
def f_X6_give_j82 (states : Int32) (z : Nat → Int32) (hi : Nat → Int32) (p1 : Int32) (p2 : Int32) (p3 : Int32) (p4 : Int32) (p5 : Int32) (s0_82 : Int32) : Int32 × Int32 × Int32 × (Nat → Int32) × (Nat → Int32) :=
  if s0_82 ≤ 0 then
    f_X6_give_c98 z p1 p2 p3 p4 p5 s0_82 ((f_X6_save states z hi).1) ((f_X6_save states z hi).2)
  else
    (0, states, s0_82, z, hi)
def f_X6_give_j57 (states : Int32) (z : Nat → Int32) (hi : Nat → Int32) (p1 : Int32) (p2 : Int32) (p3 : Int32) (p4 : Int32) (p5 : Int32) (x6_57 : Bool) : Int32 × Int32 × Int32 × (Nat → Int32) × (Nat → Int32) :=
  if (vm_bi x6_57) = 0 then
    f_X6_give_j82 states z hi p1 p2 p3 p4 p5 2
  else
    if (vm_bi (f_X6_canGive z p1 p3 p4)) = 0 then
      f_X6_give_j82 states z hi p1 p2 p3 p4 p5 3
    else
      f_X6_give_j82 states z hi p1 p2 p3 p4 p5 0
def f_X6_give_j37 (states : Int32) (z : Nat → Int32) (hi : Nat → Int32) (p1 : Int32) (p2 : Int32) (p3 : Int32) (p4 : Int32) (p5 : Int32) (s0_37 : Bool) : Int32 × Int32 × Int32 × (Nat → Int32) × (Nat → Int32) :=
  if p1 = (-1) then
    f_X6_give_j57 states z hi p1 p2 p3 p4 p5 s0_37
  else
    if (vm_bi (f_X6_isMandate z p1)) = 0 then
      f_X6_give_j82 states z hi p1 p2 p3 p4 p5 1
    else
      f_X6_give_j57 states z hi p1 p2 p3 p4 p5 s0_37
def f_X6_give_j36 (states : Int32) (z : Nat → Int32) (hi : Nat → Int32) (p1 : Int32) (p2 : Int32) (p3 : Int32) (p4 : Int32) (p5 : Int32) : Int32 × Int32 × Int32 × (Nat → Int32) × (Nat → Int32) :=
  f_X6_give_j37 states z hi p1 p2 p3 p4 p5 false
def f_X6_give (states : Int32) (z : Nat → Int32) (hi : Nat → Int32) (p1 : Int32) (p2 : Int32) (p3 : Int32) (p4 : Int32) (p5 : Int32) : Int32 × Int32 × Int32 × (Nat → Int32) × (Nat → Int32) :=
  if (vm_bi (f_X6_isPerson p2)) = 0 then
    f_X6_give_j36 states z hi p1 p2 p3 p4 p5
  else
    if (vm_bi (f_X6_isMoney p3)) = 0 then
      f_X6_give_j36 states z hi p1 p2 p3 p4 p5
    else
      if (vm_bi (f_X6_isMoney p4)) = 0 then
        f_X6_give_j36 states z hi p1 p2 p3 p4 p5
      else
        if (vm_bi (f_X6_within p5 0 3)) = 0 then
          f_X6_give_j36 states z hi p1 p2 p3 p4 p5
        else
          f_X6_give_j37 states z hi p1 p2 p3 p4 p5 true
def o_X6_give_c193 (z : Nat → Int32) (s0_82 : Int32) (states_c98 : Int32) (hi_c98 : Nat → Int32) (z_c193 : Nat → Int32) : Prop :=
  True
def o_X6_give_c184 (z : Nat → Int32) (s0_82 : Int32) (states_c98 : Int32) (hi_c98 : Nat → Int32) (z_c184 : Nat → Int32) : Prop :=
  o_X6_put z_c184 (z (Int32.toNatClampNeg 3)) 8 (-1) ∧
  (o_X6_give_c193 z s0_82 states_c98 hi_c98 (f_X6_put z_c184 (z (Int32.toNatClampNeg 3)) 8 (-1)))
def o_X6_give_c175 (z : Nat → Int32) (s0_82 : Int32) (states_c98 : Int32) (hi_c98 : Nat → Int32) (z_c175 : Nat → Int32) : Prop :=
  o_X6_put z_c175 (z (Int32.toNatClampNeg 3)) 7 0 ∧
  (o_X6_give_c184 z s0_82 states_c98 hi_c98 (f_X6_put z_c175 (z (Int32.toNatClampNeg 3)) 7 0))
def o_X6_give_c166 (z : Nat → Int32) (s0_82 : Int32) (states_c98 : Int32) (hi_c98 : Nat → Int32) (z_c166 : Nat → Int32) : Prop :=
  o_X6_put z_c166 (z (Int32.toNatClampNeg 3)) 6 0 ∧
  (o_X6_give_c175 z s0_82 states_c98 hi_c98 (f_X6_put z_c166 (z (Int32.toNatClampNeg 3)) 6 0))
def o_X6_give_c158 (z : Nat → Int32) (s0_82 : Int32) (states_c98 : Int32) (hi_c98 : Nat → Int32) (z_c158 : Nat → Int32) : Prop :=
  o_X6_put z_c158 (z (Int32.toNatClampNeg 3)) 5 1 ∧
  (o_X6_give_c166 z s0_82 states_c98 hi_c98 (f_X6_put z_c158 (z (Int32.toNatClampNeg 3)) 5 1))
def o_X6_give_c149 (z : Nat → Int32) (p5 : Int32) (s0_82 : Int32) (states_c98 : Int32) (hi_c98 : Nat → Int32) (z_c149 : Nat → Int32) : Prop :=
  o_X6_put z_c149 (z (Int32.toNatClampNeg 3)) 4 p5 ∧
  (o_X6_give_c158 z s0_82 states_c98 hi_c98 (f_X6_put z_c149 (z (Int32.toNatClampNeg 3)) 4 p5))
def o_X6_give_c140 (z : Nat → Int32) (p4 : Int32) (p5 : Int32) (s0_82 : Int32) (states_c98 : Int32) (hi_c98 : Nat → Int32) (z_c140 : Nat → Int32) : Prop :=
  o_X6_put z_c140 (z (Int32.toNatClampNeg 3)) 3 p4 ∧
  (o_X6_give_c149 z p5 s0_82 states_c98 hi_c98 (f_X6_put z_c140 (z (Int32.toNatClampNeg 3)) 3 p4))
def o_X6_give_c132 (z : Nat → Int32) (p3 : Int32) (p4 : Int32) (p5 : Int32) (s0_82 : Int32) (states_c98 : Int32) (hi_c98 : Nat → Int32) (z_c132 : Nat → Int32) : Prop :=
  o_X6_put z_c132 (z (Int32.toNatClampNeg 3)) 2 p3 ∧
  (o_X6_give_c140 z p4 p5 s0_82 states_c98 hi_c98 (f_X6_put z_c132 (z (Int32.toNatClampNeg 3)) 2 p3))
def o_X6_give_c124 (z : Nat → Int32) (p2 : Int32) (p3 : Int32) (p4 : Int32) (p5 : Int32) (s0_82 : Int32) (states_c98 : Int32) (hi_c98 : Nat → Int32) (z_c124 : Nat → Int32) : Prop :=
  o_X6_put z_c124 (z (Int32.toNatClampNeg 3)) 1 p2 ∧
  (o_X6_give_c132 z p3 p4 p5 s0_82 states_c98 hi_c98 (f_X6_put z_c124 (z (Int32.toNatClampNeg 3)) 1 p2))
def o_X6_give_c98 (z : Nat → Int32) (p1 : Int32) (p2 : Int32) (p3 : Int32) (p4 : Int32) (p5 : Int32) (s0_82 : Int32) (states_c98 : Int32) (hi_c98 : Nat → Int32) : Prop :=
  o_X6_put (upd z (Int32.toNatClampNeg 3) ((z (Int32.toNatClampNeg 3)) + 1)) (z (Int32.toNatClampNeg 3)) 0 p1 ∧
  (o_X6_give_c124 z p2 p3 p4 p5 s0_82 states_c98 hi_c98 (f_X6_put (upd z (Int32.toNatClampNeg 3) ((z (Int32.toNatClampNeg 3)) + 1)) (z (Int32.toNatClampNeg 3)) 0 p1))
def o_X6_give_j82 (states : Int32) (z : Nat → Int32) (hi : Nat → Int32) (p1 : Int32) (p2 : Int32) (p3 : Int32) (p4 : Int32) (p5 : Int32) (s0_82 : Int32) : Prop :=
  if s0_82 ≤ 0 then
    o_X6_save states z hi ∧
    (o_X6_give_c98 z p1 p2 p3 p4 p5 s0_82 ((f_X6_save states z hi).1) ((f_X6_save states z hi).2))
  else
    True
def o_X6_give_j57 (states : Int32) (z : Nat → Int32) (hi : Nat → Int32) (p1 : Int32) (p2 : Int32) (p3 : Int32) (p4 : Int32) (p5 : Int32) (x6_57 : Bool) : Prop :=
  if (vm_bi x6_57) = 0 then
    o_X6_give_j82 states z hi p1 p2 p3 p4 p5 2
  else
    o_X6_canGive z p1 p3 p4 ∧
    (if (vm_bi (f_X6_canGive z p1 p3 p4)) = 0 then
      o_X6_give_j82 states z hi p1 p2 p3 p4 p5 3
    else
      o_X6_give_j82 states z hi p1 p2 p3 p4 p5 0)
def o_X6_give_j37 (states : Int32) (z : Nat → Int32) (hi : Nat → Int32) (p1 : Int32) (p2 : Int32) (p3 : Int32) (p4 : Int32) (p5 : Int32) (s0_37 : Bool) : Prop :=
  if p1 = (-1) then
    o_X6_give_j57 states z hi p1 p2 p3 p4 p5 s0_37
  else
    if (vm_bi (f_X6_isMandate z p1)) = 0 then
      o_X6_give_j82 states z hi p1 p2 p3 p4 p5 1
    else
      o_X6_give_j57 states z hi p1 p2 p3 p4 p5 s0_37
def o_X6_give_j36 (states : Int32) (z : Nat → Int32) (hi : Nat → Int32) (p1 : Int32) (p2 : Int32) (p3 : Int32) (p4 : Int32) (p5 : Int32) : Prop :=
  o_X6_give_j37 states z hi p1 p2 p3 p4 p5 false
def o_X6_give (states : Int32) (z : Nat → Int32) (hi : Nat → Int32) (p1 : Int32) (p2 : Int32) (p3 : Int32) (p4 : Int32) (p5 : Int32) : Prop :=
  if (vm_bi (f_X6_isPerson p2)) = 0 then
    o_X6_give_j36 states z hi p1 p2 p3 p4 p5
  else
    if (vm_bi (f_X6_isMoney p3)) = 0 then
      o_X6_give_j36 states z hi p1 p2 p3 p4 p5
    else
      if (vm_bi (f_X6_isMoney p4)) = 0 then
        o_X6_give_j36 states z hi p1 p2 p3 p4 p5
      else
        if (vm_bi (f_X6_within p5 0 3)) = 0 then
          o_X6_give_j36 states z hi p1 p2 p3 p4 p5
        else
          o_X6_give_j37 states z hi p1 p2 p3 p4 p5 true
theorem yd_X6_give : yX6_give.cls = RX6 ∧ yX6_give.cls ≠ "java/lang/invoke/MethodHandle" ∧ yX6_give.cls ≠ "java/lang/invoke/VarHandle" ∧ (parseMethodDescriptor yX6_give.desc).map (fun d => d.parameters.length) = some 5 := by decide +kernel
set_option maxHeartbeats 4000000 in
set_option maxRecDepth 100000 in
theorem c_X6_give (l : Launch) (dC : Nat → ClassId) (dI : Nat → Nat → Nat) (cI cB : ClassId) (h0 h1 h2 h3 h4 : Nat) (sz : Nat) (states : Int32) (ln : Int32) (thr : Int32) (rd : Int32) (num : Int32) (due : Int32) (hash : Int64) (z : Nat → Int32) (hi : Nat → Int32) (tx : Nat → Int32) (pa : Nat → Int32) (p1 : Int32) (p2 : Int32) (p3 : Int32) (p4 : Int32) (p5 : Int32) (eO : o_X6_give states z hi p1 p2 p3 p4 p5) : Met l yX6_give wsX6_give ({ frames := 3, cells := 0, slots := 0, locals := 69 }) (vm_prw [.ref h0, .int p1, .int p2, .int p3, .int p4, .int p5] (dC, dI) [(h0, .inr (6, [.ref h1, .int states, .ref h2, .int ln, .ref h3, .int thr, .ref h4, .int rd, .int num, .int due, .long hash])), (h1, .inl (cI, 163, .inl z)), (h2, .inl (cI, 978, .inl hi)), (h3, .inl (cI, 60, .inl tx)), (h4, .inl (cI, 42, .inl pa))] cI cB sz) (va_Qi (fun (r9 : Int32) (_ : Unit) => r9 = (f_X6_give states z hi p1 p2 p3 p4 p5).1) (fun _ t => va_P (dC, dI) vwCl [(h0, .inr (6, [.ref h1, .int ((f_X6_give states z hi p1 p2 p3 p4 p5).2.1), .ref h2, .int ln, .ref h3, .int ((f_X6_give states z hi p1 p2 p3 p4 p5).2.2.1), .ref h4, .int rd, .int num, .int due, .long hash])), (h1, .inl (cI, 163, .inl ((f_X6_give states z hi p1 p2 p3 p4 p5).2.2.2.1))), (h2, .inl (cI, 978, .inl ((f_X6_give states z hi p1 p2 p3 p4 p5).2.2.2.2))), (h3, .inl (cI, 60, .inl tx)), (h4, .inl (cI, 42, .inl pa))] t.heap) (va_A [(h0, .inr (6, [.ref h1, .int states, .ref h2, .int ln, .ref h3, .int thr, .ref h4, .int rd, .int num, .int due, .long hash])), (h1, .inl (cI, 163, .inl z)), (h2, .inl (cI, 978, .inl hi)), (h3, .inl (cI, 60, .inl tx)), (h4, .inl (cI, 42, .inl pa))] sz)) 0 0 (va_A [(h0, .inr (6, [.ref h1, .int states, .ref h2, .int ln, .ref h3, .int thr, .ref h4, .int rd, .int num, .int due, .long hash])), (h1, .inl (cI, 163, .inl z)), (h2, .inl (cI, 978, .inl hi)), (h3, .inl (cI, 60, .inl tx)), (h4, .inl (cI, 42, .inl pa))] sz) := by
  refine Met.ofW (cc := cX6_give) (maxL := 8) (ret := (some .int)) (by decide) rfl ?_
  intro p e s m args below meth c s₁ B hml hv
  obtain ⟨rfl, hsz, hP, hK, hN, hD0⟩ := hv
  have hx := B.exec
  have hb := B.bytes
  have hr := B.returns
  have hts := atoms_spec (ws := wsX6_give) B.pre
  have hown : s.vm.findClass RX6 = some m.cls := findClass_of_methodNamed B.named
  have hlocks := B.notSynchronized
  subst hsz
  have hD := hD0.self (sz := s.heap.size)
  generalize hAe : va_A [(h0, .inr (6, [.ref h1, .int states, .ref h2, .int ln, .ref h3, .int thr, .ref h4, .int rd, .int num, .int due, .long hash])), (h1, .inl (cI, 163, .inl z)), (h2, .inl (cI, 978, .inl hi)), (h3, .inl (cI, 60, .inl tx)), (h4, .inl (cI, 42, .inl pa))] s.heap.size = A at hD ⊢
  have hA : ∀ q : Nat, s.heap.size ≤ q → A q := fun q h => by rw [← hAe]; exact Or.inr h
  have hS : va_S A s.heap s.heap [] := va_S.rf
  have hP : va_P (dC, dI) vwCl [(h0, .inr (6, [.ref h1, .int states, .ref h2, .int ln, .ref h3, .int thr, .ref h4, .int rd, .int num, .int due, .long hash])), (h1, .inl (cI, 163, .inl z)), (h2, .inl (cI, 978, .inl hi)), (h3, .inl (cI, 60, .inl tx)), (h4, .inl (cI, 42, .inl pa))] s.heap := hP
  have kw1 := hts (.fieldLink RX6 22 "LapseMandatesModel" "thrown" "I") (List.mem_of_getElem? (i := 1) rfl)
  have kw2 := hts (.fieldLink RX6 7 "LapseMandatesModel" "z" "[I") (List.mem_of_getElem? (i := 2) rfl)
  have iwsX60 : ∀ w ∈ wsX60, w ∈ wsX6_give := fun w h => List.mem_cons_of_mem _ (List.mem_append_right _ h)
  generalize hrr : f_X6_give states z hi p1 p2 p3 p4 p5 = rr
  have eF := hrr.symm
  have hl := lv_entry ([.ref h0, .int p1, .int p2, .int p3, .int p4, .int p5]) (n := 8) (Nat.le_of_ble_eq_true rfl)
  rw [lg_entry_eq]
  generalize (lg_sl ([.ref h0, .int p1, .int p2, .int p3, .int p4, .int p5]) ++ List.replicate (8 - (lg_sl ([.ref h0, .int p1, .int p2, .int p3, .int p4, .int p5])).length) Slot.unset).toArray = ls at hl ⊢
  have hl : lv_has ls 8 [(0, .ref h0), (1, .int p1), (2, .int p2), (3, .int p3), (4, .int p4), (5, .int p5)] := hl
  have hJ82 : ∀ (s0_82 : Int32), rr = f_X6_give_j82 states z hi p1 p2 p3 p4 p5 s0_82 → o_X6_give_j82 states z hi p1 p2 p3 p4 p5 s0_82 → ∀ (H : Heap) (locs : List Loc), va_P (dC, dI) vwCl [(h0, .inr (6, [.ref h1, .int states, .ref h2, .int ln, .ref h3, .int thr, .ref h4, .int rd, .int num, .int due, .long hash])), (h1, .inl (cI, 163, .inl z)), (h2, .inl (cI, 978, .inl hi)), (h3, .inl (cI, 60, .inl tx)), (h4, .inl (cI, 42, .inl pa))] H → va_D A [(h0, .inr (6, [.ref h1, .int states, .ref h2, .int ln, .ref h3, .int thr, .ref h4, .int rd, .int num, .int due, .long hash])), (h1, .inl (cI, 163, .inl z)), (h2, .inl (cI, 978, .inl hi)), (h3, .inl (cI, 60, .inl tx)), (h4, .inl (cI, 42, .inl pa))] → va_S A s.heap H locs → ∀ (ls : Array Slot), lv_has ls 8 [(0, .ref h0), (1, .int p1), (2, .int p2), (3, .int p3), (4, .int p4), (5, .int p5)] → W p l e (headSpec wsX6_give ({ frames := 3, cells := 0, slots := 0, locals := 69 })).room s m ([.ref h0, .int p1, .int p2, .int p3, .int p4, .int p5] : List Value).toArray below meth c H locs 0 0 (MQ below (va_Qi (fun (r9 : Int32) (_ : Unit) => r9 = rr.1) (fun _ t => va_P (dC, dI) vwCl [(h0, .inr (6, [.ref h1, .int rr.2.1, .ref h2, .int ln, .ref h3, .int rr.2.2.1, .ref h4, .int rd, .int num, .int due, .long hash])), (h1, .inl (cI, 163, .inl rr.2.2.2.1)), (h2, .inl (cI, 978, .inl rr.2.2.2.2)), (h3, .inl (cI, 60, .inl tx)), (h4, .inl (cI, 42, .inl pa))] t.heap) A) ([.ref h0, .int p1, .int p2, .int p3, .int p4, .int p5] : List Value).toArray s 0 0 A) (F0 m 82 ls [.int s0_82, .ref h0]) := by
    intro s0_82 eF eO H locs hP hD hS ls hl
    rw [o_X6_give_j82] at eO
    refine va_put (D := (dC, dI)) (ci := 6) (v := .int s0_82) (ty := .int) (C := RX6) (T := TX6) (N := 11) hx hb hts iwsX60 tyX6 tyX6_ok nmX6 hown hK hP hD hS 0 rfl rfl 5 (by decide) kw1 (fun _ h9 => h9) rfl (by decide +kernel) rfl rfl (Nat.le_of_ble_eq_true rfl) dX6_give_82 (fun H locs hP hD hS => ?_)
    have hP : va_P (dC, dI) vwCl [(h0, .inr (6, [.ref h1, .int states, .ref h2, .int ln, .ref h3, .int s0_82, .ref h4, .int rd, .int num, .int due, .long hash])), (h1, .inl (cI, 163, .inl z)), (h2, .inl (cI, 978, .inl hi)), (h3, .inl (cI, 60, .inl tx)), (h4, .inl (cI, 42, .inl pa))] H := hP
    have hD : va_D A [(h0, .inr (6, [.ref h1, .int states, .ref h2, .int ln, .ref h3, .int s0_82, .ref h4, .int rd, .int num, .int due, .long hash])), (h1, .inl (cI, 163, .inl z)), (h2, .inl (cI, 978, .inl hi)), (h3, .inl (cI, 60, .inl tx)), (h4, .inl (cI, 42, .inl pa))] := hD
    refine lv_aload_n hx hb dX6_give_85 rfl (lv_at hl 0 rfl) ?_
    refine va_get (D := (dC, dI)) (ci := 6) (v := .int s0_82) (C := RX6) (T := TX6) (N := 11) hx hb hts iwsX60 hown hK hP 0 rfl rfl 5 (by decide) kw1 (fun _ h9 => h9) rfl dX6_give_86 ?_
    refine lv_if_le (tgt := 94) hx hb dX6_give_89 (by decide) (fun c_1 => ?_) (fun c_1 => ?_)
    · rw [if_pos c_1] at eO
      refine lv_aload_n hx hb dX6_give_94 rfl (lv_at hl 0 rfl) ?_
      obtain ⟨hv_2, eO⟩ := eO
      refine vm_rwVv (As := []) (rest := []) (T := TX6) (N := 11) (wc := [(h0, .inr (6, [.ref h1, .int states, .ref h2, .int ln, .ref h3, .int s0_82, .ref h4, .int rd, .int num, .int due, .long hash])), (h1, .inl (cI, 163, .inl z)), (h2, .inl (cI, 978, .inl hi)), (h3, .inl (cI, 60, .inl tx)), (h4, .inl (cI, 42, .inl pa))]) (w1 := [(h0, .inr (6, [.ref h1, .int ((f_X6_save states z hi).1), .ref h2, .int ln, .ref h3, .int s0_82, .ref h4, .int rd, .int num, .int due, .long hash])), (h1, .inl (cI, 163, .inl z)), (h2, .inl (cI, 978, .inl ((f_X6_save states z hi).2))), (h3, .inl (cI, 60, .inl tx)), (h4, .inl (cI, 42, .inl pa))]) ⟨hx, hb, hml, hown, hts⟩ hK hN hP hD hS hA hl.1 ⟨Nat.le_of_ble_eq_true rfl, Nat.le_of_ble_eq_true rfl⟩ (c_X6_save l dC dI cI cB h0 h1 h2 h3 h4 _ states ln s0_82 rd num due hash z hi tx pa hv_2) (cwV 0 hts gX6_give_X6_save rfl rfl rfl yd_X6_save ⟨Nat.le_of_ble_eq_true rfl, Nat.le_of_ble_eq_true rfl⟩) [0, 1, 2, 3, 4] rfl rfl rfl 6 rfl rfl rfl rfl (Nat.le_of_ble_eq_true rfl) dX6_give_95 (fun H locs hP hD hS => ?_)
      have hP : va_P (dC, dI) vwCl [(h0, .inr (6, [.ref h1, .int ((f_X6_save states z hi).1), .ref h2, .int ln, .ref h3, .int s0_82, .ref h4, .int rd, .int num, .int due, .long hash])), (h1, .inl (cI, 163, .inl z)), (h2, .inl (cI, 978, .inl ((f_X6_save states z hi).2))), (h3, .inl (cI, 60, .inl tx)), (h4, .inl (cI, 42, .inl pa))] H := hP
      have hD : va_D A [(h0, .inr (6, [.ref h1, .int ((f_X6_save states z hi).1), .ref h2, .int ln, .ref h3, .int s0_82, .ref h4, .int rd, .int num, .int due, .long hash])), (h1, .inl (cI, 163, .inl z)), (h2, .inl (cI, 978, .inl ((f_X6_save states z hi).2))), (h3, .inl (cI, 60, .inl tx)), (h4, .inl (cI, 42, .inl pa))] := hD
      obtain ⟨states_c98, estates_c98⟩ : ∃ zz9, zz9 = (f_X6_save states z hi).1 := ⟨_, rfl⟩
      rw [← estates_c98] at hP hD
      obtain ⟨hi_c98, ehi_c98⟩ : ∃ zz9, zz9 = (f_X6_save states z hi).2 := ⟨_, rfl⟩
      rw [← ehi_c98] at hP hD
      have eF : rr = f_X6_give_c98 z p1 p2 p3 p4 p5 s0_82 states_c98 hi_c98 := eF.trans (by rw [f_X6_give_j82, if_pos c_1, estates_c98, ehi_c98])
      have eO : o_X6_give_c98 z p1 p2 p3 p4 p5 s0_82 states_c98 hi_c98 := by rw [estates_c98, ehi_c98]; exact eO
      rw [o_X6_give_c98] at eO
      refine lv_aload_n hx hb dX6_give_98 rfl (lv_at hl 0 rfl) ?_
      refine va_get (D := (dC, dI)) (ci := 6) (v := .ref h1) (C := RX6) (T := TX6) (N := 11) hx hb hts iwsX60 hown hK hP 0 rfl rfl 0 (by decide) kw2 (fun _ h9 => h9) rfl dX6_give_99 ?_
      refine lv_iconst (v := 3) hx hb dX6_give_102 (by decide) ?_
      refine va_iald hx hb hK hP 1 0 rfl rfl (by unfold vp_in; decide) dX6_give_103 ?_
      refine lv_istore (lv' := [(7, .int (z (Int32.toNatClampNeg 3))), (0, .ref h0), (1, .int p1), (2, .int p2), (3, .int p3), (4, .int p4), (5, .int p5)]) hx hb dX6_give_104 hl (by decide) rfl (fun ls hl => ?_)
      refine lv_aload_n hx hb dX6_give_106 rfl (lv_at hl 1 rfl) ?_
      refine va_get (D := (dC, dI)) (ci := 6) (v := .ref h1) (C := RX6) (T := TX6) (N := 11) hx hb hts iwsX60 hown hK hP 0 rfl rfl 0 (by decide) kw2 (fun _ h9 => h9) rfl dX6_give_107 ?_
      refine lv_iconst (v := 3) hx hb dX6_give_110 (by decide) ?_
      refine lv_dup2_11 hx hb dX6_give_111 rfl rfl ?_
      refine va_iald hx hb hK hP 1 0 rfl rfl (by unfold vp_in; decide) dX6_give_112 ?_
      refine lv_iconst (v := 1) hx hb dX6_give_113 (by decide) ?_
      refine lv_iadd hx hb dX6_give_114 ?_
      refine va_iast hx hb hK hP hD hS 1 0 rfl rfl (by unfold vp_in; decide) dX6_give_115 (fun H locs hP hD hS => ?_)
      have hP : va_P (dC, dI) vwCl [(h0, .inr (6, [.ref h1, .int states_c98, .ref h2, .int ln, .ref h3, .int s0_82, .ref h4, .int rd, .int num, .int due, .long hash])), (h1, .inl (cI, 163, .inl (upd z (Int32.toNatClampNeg 3) ((z (Int32.toNatClampNeg 3)) + 1)))), (h2, .inl (cI, 978, .inl hi_c98)), (h3, .inl (cI, 60, .inl tx)), (h4, .inl (cI, 42, .inl pa))] H := hP
      have hD : va_D A [(h0, .inr (6, [.ref h1, .int states_c98, .ref h2, .int ln, .ref h3, .int s0_82, .ref h4, .int rd, .int num, .int due, .long hash])), (h1, .inl (cI, 163, .inl (upd z (Int32.toNatClampNeg 3) ((z (Int32.toNatClampNeg 3)) + 1)))), (h2, .inl (cI, 978, .inl hi_c98)), (h3, .inl (cI, 60, .inl tx)), (h4, .inl (cI, 42, .inl pa))] := hD
      refine lv_aload_n hx hb dX6_give_116 rfl (lv_at hl 1 rfl) ?_
      refine lv_iload hx hb dX6_give_117 (lv_at hl 0 rfl) ?_
      refine lv_iconst (v := 0) hx hb dX6_give_119 (by decide) ?_
      refine lv_iload_n hx hb dX6_give_120 rfl (lv_at hl 2 rfl) ?_
      obtain ⟨hv_3, eO⟩ := eO
      refine vm_rwVv (As := [.int (z (Int32.toNatClampNeg 3)), .int 0, .int p1]) (rest := []) (T := TX6) (N := 11) (wc := [(h0, .inr (6, [.ref h1, .int states_c98, .ref h2, .int ln, .ref h3, .int s0_82, .ref h4, .int rd, .int num, .int due, .long hash])), (h1, .inl (cI, 163, .inl (upd z (Int32.toNatClampNeg 3) ((z (Int32.toNatClampNeg 3)) + 1)))), (h2, .inl (cI, 978, .inl hi_c98)), (h3, .inl (cI, 60, .inl tx)), (h4, .inl (cI, 42, .inl pa))]) (w1 := [(h0, .inr (6, [.ref h1, .int states_c98, .ref h2, .int ln, .ref h3, .int s0_82, .ref h4, .int rd, .int num, .int due, .long hash])), (h1, .inl (cI, 163, .inl (f_X6_put (upd z (Int32.toNatClampNeg 3) ((z (Int32.toNatClampNeg 3)) + 1)) (z (Int32.toNatClampNeg 3)) 0 p1))), (h2, .inl (cI, 978, .inl hi_c98)), (h3, .inl (cI, 60, .inl tx)), (h4, .inl (cI, 42, .inl pa))]) ⟨hx, hb, hml, hown, hts⟩ hK hN hP hD hS hA hl.1 ⟨Nat.le_of_ble_eq_true rfl, Nat.le_of_ble_eq_true rfl⟩ (c_X6_put l dC dI cI cB h0 h1 h2 h3 h4 _ states_c98 ln s0_82 rd num due hash (upd z (Int32.toNatClampNeg 3) ((z (Int32.toNatClampNeg 3)) + 1)) hi_c98 tx pa (z (Int32.toNatClampNeg 3)) 0 p1 hv_3) (cwV 3 hts gX6_give_X6_put rfl rfl rfl yd_X6_put ⟨Nat.le_of_ble_eq_true rfl, Nat.le_of_ble_eq_true rfl⟩) [0, 1, 2, 3, 4] rfl rfl rfl 6 rfl rfl rfl rfl (Nat.le_of_ble_eq_true rfl) dX6_give_121 (fun H locs hP hD hS => ?_)
      have hP : va_P (dC, dI) vwCl [(h0, .inr (6, [.ref h1, .int states_c98, .ref h2, .int ln, .ref h3, .int s0_82, .ref h4, .int rd, .int num, .int due, .long hash])), (h1, .inl (cI, 163, .inl (f_X6_put (upd z (Int32.toNatClampNeg 3) ((z (Int32.toNatClampNeg 3)) + 1)) (z (Int32.toNatClampNeg 3)) 0 p1))), (h2, .inl (cI, 978, .inl hi_c98)), (h3, .inl (cI, 60, .inl tx)), (h4, .inl (cI, 42, .inl pa))] H := hP
      have hD : va_D A [(h0, .inr (6, [.ref h1, .int states_c98, .ref h2, .int ln, .ref h3, .int s0_82, .ref h4, .int rd, .int num, .int due, .long hash])), (h1, .inl (cI, 163, .inl (f_X6_put (upd z (Int32.toNatClampNeg 3) ((z (Int32.toNatClampNeg 3)) + 1)) (z (Int32.toNatClampNeg 3)) 0 p1))), (h2, .inl (cI, 978, .inl hi_c98)), (h3, .inl (cI, 60, .inl tx)), (h4, .inl (cI, 42, .inl pa))] := hD
      obtain ⟨z_c124, ez_c124⟩ : ∃ zz9, zz9 = (f_X6_put (upd z (Int32.toNatClampNeg 3) ((z (Int32.toNatClampNeg 3)) + 1)) (z (Int32.toNatClampNeg 3)) 0 p1) := ⟨_, rfl⟩
      rw [← ez_c124] at hP hD
      have eF : rr = f_X6_give_c124 z p2 p3 p4 p5 s0_82 states_c98 hi_c98 z_c124 := eF.trans (by rw [f_X6_give_c98, ez_c124])
      have eO : o_X6_give_c124 z p2 p3 p4 p5 s0_82 states_c98 hi_c98 z_c124 := by rw [ez_c124]; exact eO
      rw [o_X6_give_c124] at eO
      refine lv_aload_n hx hb dX6_give_124 rfl (lv_at hl 1 rfl) ?_
      refine lv_iload hx hb dX6_give_125 (lv_at hl 0 rfl) ?_
      refine lv_iconst (v := 1) hx hb dX6_give_127 (by decide) ?_
      refine lv_iload_n hx hb dX6_give_128 rfl (lv_at hl 3 rfl) ?_
      obtain ⟨hv_4, eO⟩ := eO
      refine vm_rwVv (As := [.int (z (Int32.toNatClampNeg 3)), .int 1, .int p2]) (rest := []) (T := TX6) (N := 11) (wc := [(h0, .inr (6, [.ref h1, .int states_c98, .ref h2, .int ln, .ref h3, .int s0_82, .ref h4, .int rd, .int num, .int due, .long hash])), (h1, .inl (cI, 163, .inl z_c124)), (h2, .inl (cI, 978, .inl hi_c98)), (h3, .inl (cI, 60, .inl tx)), (h4, .inl (cI, 42, .inl pa))]) (w1 := [(h0, .inr (6, [.ref h1, .int states_c98, .ref h2, .int ln, .ref h3, .int s0_82, .ref h4, .int rd, .int num, .int due, .long hash])), (h1, .inl (cI, 163, .inl (f_X6_put z_c124 (z (Int32.toNatClampNeg 3)) 1 p2))), (h2, .inl (cI, 978, .inl hi_c98)), (h3, .inl (cI, 60, .inl tx)), (h4, .inl (cI, 42, .inl pa))]) ⟨hx, hb, hml, hown, hts⟩ hK hN hP hD hS hA hl.1 ⟨Nat.le_of_ble_eq_true rfl, Nat.le_of_ble_eq_true rfl⟩ (c_X6_put l dC dI cI cB h0 h1 h2 h3 h4 _ states_c98 ln s0_82 rd num due hash z_c124 hi_c98 tx pa (z (Int32.toNatClampNeg 3)) 1 p2 hv_4) (cwV 3 hts gX6_give_X6_put rfl rfl rfl yd_X6_put ⟨Nat.le_of_ble_eq_true rfl, Nat.le_of_ble_eq_true rfl⟩) [0, 1, 2, 3, 4] rfl rfl rfl 6 rfl rfl rfl rfl (Nat.le_of_ble_eq_true rfl) dX6_give_129 (fun H locs hP hD hS => ?_)
      have hP : va_P (dC, dI) vwCl [(h0, .inr (6, [.ref h1, .int states_c98, .ref h2, .int ln, .ref h3, .int s0_82, .ref h4, .int rd, .int num, .int due, .long hash])), (h1, .inl (cI, 163, .inl (f_X6_put z_c124 (z (Int32.toNatClampNeg 3)) 1 p2))), (h2, .inl (cI, 978, .inl hi_c98)), (h3, .inl (cI, 60, .inl tx)), (h4, .inl (cI, 42, .inl pa))] H := hP
      have hD : va_D A [(h0, .inr (6, [.ref h1, .int states_c98, .ref h2, .int ln, .ref h3, .int s0_82, .ref h4, .int rd, .int num, .int due, .long hash])), (h1, .inl (cI, 163, .inl (f_X6_put z_c124 (z (Int32.toNatClampNeg 3)) 1 p2))), (h2, .inl (cI, 978, .inl hi_c98)), (h3, .inl (cI, 60, .inl tx)), (h4, .inl (cI, 42, .inl pa))] := hD
      obtain ⟨z_c132, ez_c132⟩ : ∃ zz9, zz9 = (f_X6_put z_c124 (z (Int32.toNatClampNeg 3)) 1 p2) := ⟨_, rfl⟩
      rw [← ez_c132] at hP hD
      have eF : rr = f_X6_give_c132 z p3 p4 p5 s0_82 states_c98 hi_c98 z_c132 := eF.trans (by rw [f_X6_give_c124, ez_c132])
      have eO : o_X6_give_c132 z p3 p4 p5 s0_82 states_c98 hi_c98 z_c132 := by rw [ez_c132]; exact eO
      rw [o_X6_give_c132] at eO
      refine lv_aload_n hx hb dX6_give_132 rfl (lv_at hl 1 rfl) ?_
      refine lv_iload hx hb dX6_give_133 (lv_at hl 0 rfl) ?_
      refine lv_iconst (v := 2) hx hb dX6_give_135 (by decide) ?_
      refine lv_iload_n hx hb dX6_give_136 rfl (lv_at hl 4 rfl) ?_
      obtain ⟨hv_5, eO⟩ := eO
      refine vm_rwVv (As := [.int (z (Int32.toNatClampNeg 3)), .int 2, .int p3]) (rest := []) (T := TX6) (N := 11) (wc := [(h0, .inr (6, [.ref h1, .int states_c98, .ref h2, .int ln, .ref h3, .int s0_82, .ref h4, .int rd, .int num, .int due, .long hash])), (h1, .inl (cI, 163, .inl z_c132)), (h2, .inl (cI, 978, .inl hi_c98)), (h3, .inl (cI, 60, .inl tx)), (h4, .inl (cI, 42, .inl pa))]) (w1 := [(h0, .inr (6, [.ref h1, .int states_c98, .ref h2, .int ln, .ref h3, .int s0_82, .ref h4, .int rd, .int num, .int due, .long hash])), (h1, .inl (cI, 163, .inl (f_X6_put z_c132 (z (Int32.toNatClampNeg 3)) 2 p3))), (h2, .inl (cI, 978, .inl hi_c98)), (h3, .inl (cI, 60, .inl tx)), (h4, .inl (cI, 42, .inl pa))]) ⟨hx, hb, hml, hown, hts⟩ hK hN hP hD hS hA hl.1 ⟨Nat.le_of_ble_eq_true rfl, Nat.le_of_ble_eq_true rfl⟩ (c_X6_put l dC dI cI cB h0 h1 h2 h3 h4 _ states_c98 ln s0_82 rd num due hash z_c132 hi_c98 tx pa (z (Int32.toNatClampNeg 3)) 2 p3 hv_5) (cwV 3 hts gX6_give_X6_put rfl rfl rfl yd_X6_put ⟨Nat.le_of_ble_eq_true rfl, Nat.le_of_ble_eq_true rfl⟩) [0, 1, 2, 3, 4] rfl rfl rfl 6 rfl rfl rfl rfl (Nat.le_of_ble_eq_true rfl) dX6_give_137 (fun H locs hP hD hS => ?_)
      have hP : va_P (dC, dI) vwCl [(h0, .inr (6, [.ref h1, .int states_c98, .ref h2, .int ln, .ref h3, .int s0_82, .ref h4, .int rd, .int num, .int due, .long hash])), (h1, .inl (cI, 163, .inl (f_X6_put z_c132 (z (Int32.toNatClampNeg 3)) 2 p3))), (h2, .inl (cI, 978, .inl hi_c98)), (h3, .inl (cI, 60, .inl tx)), (h4, .inl (cI, 42, .inl pa))] H := hP
      have hD : va_D A [(h0, .inr (6, [.ref h1, .int states_c98, .ref h2, .int ln, .ref h3, .int s0_82, .ref h4, .int rd, .int num, .int due, .long hash])), (h1, .inl (cI, 163, .inl (f_X6_put z_c132 (z (Int32.toNatClampNeg 3)) 2 p3))), (h2, .inl (cI, 978, .inl hi_c98)), (h3, .inl (cI, 60, .inl tx)), (h4, .inl (cI, 42, .inl pa))] := hD
      obtain ⟨z_c140, ez_c140⟩ : ∃ zz9, zz9 = (f_X6_put z_c132 (z (Int32.toNatClampNeg 3)) 2 p3) := ⟨_, rfl⟩
      rw [← ez_c140] at hP hD
      have eF : rr = f_X6_give_c140 z p4 p5 s0_82 states_c98 hi_c98 z_c140 := eF.trans (by rw [f_X6_give_c132, ez_c140])
      have eO : o_X6_give_c140 z p4 p5 s0_82 states_c98 hi_c98 z_c140 := by rw [ez_c140]; exact eO
      rw [o_X6_give_c140] at eO
      refine lv_aload_n hx hb dX6_give_140 rfl (lv_at hl 1 rfl) ?_
      refine lv_iload hx hb dX6_give_141 (lv_at hl 0 rfl) ?_
      refine lv_iconst (v := 3) hx hb dX6_give_143 (by decide) ?_
      refine lv_iload hx hb dX6_give_144 (lv_at hl 5 rfl) ?_
      obtain ⟨hv_6, eO⟩ := eO
      refine vm_rwVv (As := [.int (z (Int32.toNatClampNeg 3)), .int 3, .int p4]) (rest := []) (T := TX6) (N := 11) (wc := [(h0, .inr (6, [.ref h1, .int states_c98, .ref h2, .int ln, .ref h3, .int s0_82, .ref h4, .int rd, .int num, .int due, .long hash])), (h1, .inl (cI, 163, .inl z_c140)), (h2, .inl (cI, 978, .inl hi_c98)), (h3, .inl (cI, 60, .inl tx)), (h4, .inl (cI, 42, .inl pa))]) (w1 := [(h0, .inr (6, [.ref h1, .int states_c98, .ref h2, .int ln, .ref h3, .int s0_82, .ref h4, .int rd, .int num, .int due, .long hash])), (h1, .inl (cI, 163, .inl (f_X6_put z_c140 (z (Int32.toNatClampNeg 3)) 3 p4))), (h2, .inl (cI, 978, .inl hi_c98)), (h3, .inl (cI, 60, .inl tx)), (h4, .inl (cI, 42, .inl pa))]) ⟨hx, hb, hml, hown, hts⟩ hK hN hP hD hS hA hl.1 ⟨Nat.le_of_ble_eq_true rfl, Nat.le_of_ble_eq_true rfl⟩ (c_X6_put l dC dI cI cB h0 h1 h2 h3 h4 _ states_c98 ln s0_82 rd num due hash z_c140 hi_c98 tx pa (z (Int32.toNatClampNeg 3)) 3 p4 hv_6) (cwV 3 hts gX6_give_X6_put rfl rfl rfl yd_X6_put ⟨Nat.le_of_ble_eq_true rfl, Nat.le_of_ble_eq_true rfl⟩) [0, 1, 2, 3, 4] rfl rfl rfl 6 rfl rfl rfl rfl (Nat.le_of_ble_eq_true rfl) dX6_give_146 (fun H locs hP hD hS => ?_)
      have hP : va_P (dC, dI) vwCl [(h0, .inr (6, [.ref h1, .int states_c98, .ref h2, .int ln, .ref h3, .int s0_82, .ref h4, .int rd, .int num, .int due, .long hash])), (h1, .inl (cI, 163, .inl (f_X6_put z_c140 (z (Int32.toNatClampNeg 3)) 3 p4))), (h2, .inl (cI, 978, .inl hi_c98)), (h3, .inl (cI, 60, .inl tx)), (h4, .inl (cI, 42, .inl pa))] H := hP
      have hD : va_D A [(h0, .inr (6, [.ref h1, .int states_c98, .ref h2, .int ln, .ref h3, .int s0_82, .ref h4, .int rd, .int num, .int due, .long hash])), (h1, .inl (cI, 163, .inl (f_X6_put z_c140 (z (Int32.toNatClampNeg 3)) 3 p4))), (h2, .inl (cI, 978, .inl hi_c98)), (h3, .inl (cI, 60, .inl tx)), (h4, .inl (cI, 42, .inl pa))] := hD
      obtain ⟨z_c149, ez_c149⟩ : ∃ zz9, zz9 = (f_X6_put z_c140 (z (Int32.toNatClampNeg 3)) 3 p4) := ⟨_, rfl⟩
      rw [← ez_c149] at hP hD
      have eF : rr = f_X6_give_c149 z p5 s0_82 states_c98 hi_c98 z_c149 := eF.trans (by rw [f_X6_give_c140, ez_c149])
      have eO : o_X6_give_c149 z p5 s0_82 states_c98 hi_c98 z_c149 := by rw [ez_c149]; exact eO
      rw [o_X6_give_c149] at eO
      refine lv_aload_n hx hb dX6_give_149 rfl (lv_at hl 1 rfl) ?_
      refine lv_iload hx hb dX6_give_150 (lv_at hl 0 rfl) ?_
      refine lv_iconst (v := 4) hx hb dX6_give_152 (by decide) ?_
      refine lv_iload hx hb dX6_give_153 (lv_at hl 6 rfl) ?_
      obtain ⟨hv_7, eO⟩ := eO
      refine vm_rwVv (As := [.int (z (Int32.toNatClampNeg 3)), .int 4, .int p5]) (rest := []) (T := TX6) (N := 11) (wc := [(h0, .inr (6, [.ref h1, .int states_c98, .ref h2, .int ln, .ref h3, .int s0_82, .ref h4, .int rd, .int num, .int due, .long hash])), (h1, .inl (cI, 163, .inl z_c149)), (h2, .inl (cI, 978, .inl hi_c98)), (h3, .inl (cI, 60, .inl tx)), (h4, .inl (cI, 42, .inl pa))]) (w1 := [(h0, .inr (6, [.ref h1, .int states_c98, .ref h2, .int ln, .ref h3, .int s0_82, .ref h4, .int rd, .int num, .int due, .long hash])), (h1, .inl (cI, 163, .inl (f_X6_put z_c149 (z (Int32.toNatClampNeg 3)) 4 p5))), (h2, .inl (cI, 978, .inl hi_c98)), (h3, .inl (cI, 60, .inl tx)), (h4, .inl (cI, 42, .inl pa))]) ⟨hx, hb, hml, hown, hts⟩ hK hN hP hD hS hA hl.1 ⟨Nat.le_of_ble_eq_true rfl, Nat.le_of_ble_eq_true rfl⟩ (c_X6_put l dC dI cI cB h0 h1 h2 h3 h4 _ states_c98 ln s0_82 rd num due hash z_c149 hi_c98 tx pa (z (Int32.toNatClampNeg 3)) 4 p5 hv_7) (cwV 3 hts gX6_give_X6_put rfl rfl rfl yd_X6_put ⟨Nat.le_of_ble_eq_true rfl, Nat.le_of_ble_eq_true rfl⟩) [0, 1, 2, 3, 4] rfl rfl rfl 6 rfl rfl rfl rfl (Nat.le_of_ble_eq_true rfl) dX6_give_155 (fun H locs hP hD hS => ?_)
      have hP : va_P (dC, dI) vwCl [(h0, .inr (6, [.ref h1, .int states_c98, .ref h2, .int ln, .ref h3, .int s0_82, .ref h4, .int rd, .int num, .int due, .long hash])), (h1, .inl (cI, 163, .inl (f_X6_put z_c149 (z (Int32.toNatClampNeg 3)) 4 p5))), (h2, .inl (cI, 978, .inl hi_c98)), (h3, .inl (cI, 60, .inl tx)), (h4, .inl (cI, 42, .inl pa))] H := hP
      have hD : va_D A [(h0, .inr (6, [.ref h1, .int states_c98, .ref h2, .int ln, .ref h3, .int s0_82, .ref h4, .int rd, .int num, .int due, .long hash])), (h1, .inl (cI, 163, .inl (f_X6_put z_c149 (z (Int32.toNatClampNeg 3)) 4 p5))), (h2, .inl (cI, 978, .inl hi_c98)), (h3, .inl (cI, 60, .inl tx)), (h4, .inl (cI, 42, .inl pa))] := hD
      obtain ⟨z_c158, ez_c158⟩ : ∃ zz9, zz9 = (f_X6_put z_c149 (z (Int32.toNatClampNeg 3)) 4 p5) := ⟨_, rfl⟩
      rw [← ez_c158] at hP hD
      have eF : rr = f_X6_give_c158 z s0_82 states_c98 hi_c98 z_c158 := eF.trans (by rw [f_X6_give_c149, ez_c158])
      have eO : o_X6_give_c158 z s0_82 states_c98 hi_c98 z_c158 := by rw [ez_c158]; exact eO
      rw [o_X6_give_c158] at eO
      refine lv_aload_n hx hb dX6_give_158 rfl (lv_at hl 1 rfl) ?_
      refine lv_iload hx hb dX6_give_159 (lv_at hl 0 rfl) ?_
      refine lv_iconst (v := 5) hx hb dX6_give_161 (by decide) ?_
      refine lv_iconst (v := 1) hx hb dX6_give_162 (by decide) ?_
      obtain ⟨hv_8, eO⟩ := eO
      refine vm_rwVv (As := [.int (z (Int32.toNatClampNeg 3)), .int 5, .int 1]) (rest := []) (T := TX6) (N := 11) (wc := [(h0, .inr (6, [.ref h1, .int states_c98, .ref h2, .int ln, .ref h3, .int s0_82, .ref h4, .int rd, .int num, .int due, .long hash])), (h1, .inl (cI, 163, .inl z_c158)), (h2, .inl (cI, 978, .inl hi_c98)), (h3, .inl (cI, 60, .inl tx)), (h4, .inl (cI, 42, .inl pa))]) (w1 := [(h0, .inr (6, [.ref h1, .int states_c98, .ref h2, .int ln, .ref h3, .int s0_82, .ref h4, .int rd, .int num, .int due, .long hash])), (h1, .inl (cI, 163, .inl (f_X6_put z_c158 (z (Int32.toNatClampNeg 3)) 5 1))), (h2, .inl (cI, 978, .inl hi_c98)), (h3, .inl (cI, 60, .inl tx)), (h4, .inl (cI, 42, .inl pa))]) ⟨hx, hb, hml, hown, hts⟩ hK hN hP hD hS hA hl.1 ⟨Nat.le_of_ble_eq_true rfl, Nat.le_of_ble_eq_true rfl⟩ (c_X6_put l dC dI cI cB h0 h1 h2 h3 h4 _ states_c98 ln s0_82 rd num due hash z_c158 hi_c98 tx pa (z (Int32.toNatClampNeg 3)) 5 1 hv_8) (cwV 3 hts gX6_give_X6_put rfl rfl rfl yd_X6_put ⟨Nat.le_of_ble_eq_true rfl, Nat.le_of_ble_eq_true rfl⟩) [0, 1, 2, 3, 4] rfl rfl rfl 6 rfl rfl rfl rfl (Nat.le_of_ble_eq_true rfl) dX6_give_163 (fun H locs hP hD hS => ?_)
      have hP : va_P (dC, dI) vwCl [(h0, .inr (6, [.ref h1, .int states_c98, .ref h2, .int ln, .ref h3, .int s0_82, .ref h4, .int rd, .int num, .int due, .long hash])), (h1, .inl (cI, 163, .inl (f_X6_put z_c158 (z (Int32.toNatClampNeg 3)) 5 1))), (h2, .inl (cI, 978, .inl hi_c98)), (h3, .inl (cI, 60, .inl tx)), (h4, .inl (cI, 42, .inl pa))] H := hP
      have hD : va_D A [(h0, .inr (6, [.ref h1, .int states_c98, .ref h2, .int ln, .ref h3, .int s0_82, .ref h4, .int rd, .int num, .int due, .long hash])), (h1, .inl (cI, 163, .inl (f_X6_put z_c158 (z (Int32.toNatClampNeg 3)) 5 1))), (h2, .inl (cI, 978, .inl hi_c98)), (h3, .inl (cI, 60, .inl tx)), (h4, .inl (cI, 42, .inl pa))] := hD
      obtain ⟨z_c166, ez_c166⟩ : ∃ zz9, zz9 = (f_X6_put z_c158 (z (Int32.toNatClampNeg 3)) 5 1) := ⟨_, rfl⟩
      rw [← ez_c166] at hP hD
      have eF : rr = f_X6_give_c166 z s0_82 states_c98 hi_c98 z_c166 := eF.trans (by rw [f_X6_give_c158, ez_c166])
      have eO : o_X6_give_c166 z s0_82 states_c98 hi_c98 z_c166 := by rw [ez_c166]; exact eO
      rw [o_X6_give_c166] at eO
      refine lv_aload_n hx hb dX6_give_166 rfl (lv_at hl 1 rfl) ?_
      refine lv_iload hx hb dX6_give_167 (lv_at hl 0 rfl) ?_
      refine lv_bipush (v := 6) hx hb dX6_give_169 (by decide) ?_
      refine lv_iconst (v := 0) hx hb dX6_give_171 (by decide) ?_
      obtain ⟨hv_9, eO⟩ := eO
      refine vm_rwVv (As := [.int (z (Int32.toNatClampNeg 3)), .int 6, .int 0]) (rest := []) (T := TX6) (N := 11) (wc := [(h0, .inr (6, [.ref h1, .int states_c98, .ref h2, .int ln, .ref h3, .int s0_82, .ref h4, .int rd, .int num, .int due, .long hash])), (h1, .inl (cI, 163, .inl z_c166)), (h2, .inl (cI, 978, .inl hi_c98)), (h3, .inl (cI, 60, .inl tx)), (h4, .inl (cI, 42, .inl pa))]) (w1 := [(h0, .inr (6, [.ref h1, .int states_c98, .ref h2, .int ln, .ref h3, .int s0_82, .ref h4, .int rd, .int num, .int due, .long hash])), (h1, .inl (cI, 163, .inl (f_X6_put z_c166 (z (Int32.toNatClampNeg 3)) 6 0))), (h2, .inl (cI, 978, .inl hi_c98)), (h3, .inl (cI, 60, .inl tx)), (h4, .inl (cI, 42, .inl pa))]) ⟨hx, hb, hml, hown, hts⟩ hK hN hP hD hS hA hl.1 ⟨Nat.le_of_ble_eq_true rfl, Nat.le_of_ble_eq_true rfl⟩ (c_X6_put l dC dI cI cB h0 h1 h2 h3 h4 _ states_c98 ln s0_82 rd num due hash z_c166 hi_c98 tx pa (z (Int32.toNatClampNeg 3)) 6 0 hv_9) (cwV 3 hts gX6_give_X6_put rfl rfl rfl yd_X6_put ⟨Nat.le_of_ble_eq_true rfl, Nat.le_of_ble_eq_true rfl⟩) [0, 1, 2, 3, 4] rfl rfl rfl 6 rfl rfl rfl rfl (Nat.le_of_ble_eq_true rfl) dX6_give_172 (fun H locs hP hD hS => ?_)
      have hP : va_P (dC, dI) vwCl [(h0, .inr (6, [.ref h1, .int states_c98, .ref h2, .int ln, .ref h3, .int s0_82, .ref h4, .int rd, .int num, .int due, .long hash])), (h1, .inl (cI, 163, .inl (f_X6_put z_c166 (z (Int32.toNatClampNeg 3)) 6 0))), (h2, .inl (cI, 978, .inl hi_c98)), (h3, .inl (cI, 60, .inl tx)), (h4, .inl (cI, 42, .inl pa))] H := hP
      have hD : va_D A [(h0, .inr (6, [.ref h1, .int states_c98, .ref h2, .int ln, .ref h3, .int s0_82, .ref h4, .int rd, .int num, .int due, .long hash])), (h1, .inl (cI, 163, .inl (f_X6_put z_c166 (z (Int32.toNatClampNeg 3)) 6 0))), (h2, .inl (cI, 978, .inl hi_c98)), (h3, .inl (cI, 60, .inl tx)), (h4, .inl (cI, 42, .inl pa))] := hD
      obtain ⟨z_c175, ez_c175⟩ : ∃ zz9, zz9 = (f_X6_put z_c166 (z (Int32.toNatClampNeg 3)) 6 0) := ⟨_, rfl⟩
      rw [← ez_c175] at hP hD
      have eF : rr = f_X6_give_c175 z s0_82 states_c98 hi_c98 z_c175 := eF.trans (by rw [f_X6_give_c166, ez_c175])
      have eO : o_X6_give_c175 z s0_82 states_c98 hi_c98 z_c175 := by rw [ez_c175]; exact eO
      rw [o_X6_give_c175] at eO
      refine lv_aload_n hx hb dX6_give_175 rfl (lv_at hl 1 rfl) ?_
      refine lv_iload hx hb dX6_give_176 (lv_at hl 0 rfl) ?_
      refine lv_bipush (v := 7) hx hb dX6_give_178 (by decide) ?_
      refine lv_iconst (v := 0) hx hb dX6_give_180 (by decide) ?_
      obtain ⟨hv_10, eO⟩ := eO
      refine vm_rwVv (As := [.int (z (Int32.toNatClampNeg 3)), .int 7, .int 0]) (rest := []) (T := TX6) (N := 11) (wc := [(h0, .inr (6, [.ref h1, .int states_c98, .ref h2, .int ln, .ref h3, .int s0_82, .ref h4, .int rd, .int num, .int due, .long hash])), (h1, .inl (cI, 163, .inl z_c175)), (h2, .inl (cI, 978, .inl hi_c98)), (h3, .inl (cI, 60, .inl tx)), (h4, .inl (cI, 42, .inl pa))]) (w1 := [(h0, .inr (6, [.ref h1, .int states_c98, .ref h2, .int ln, .ref h3, .int s0_82, .ref h4, .int rd, .int num, .int due, .long hash])), (h1, .inl (cI, 163, .inl (f_X6_put z_c175 (z (Int32.toNatClampNeg 3)) 7 0))), (h2, .inl (cI, 978, .inl hi_c98)), (h3, .inl (cI, 60, .inl tx)), (h4, .inl (cI, 42, .inl pa))]) ⟨hx, hb, hml, hown, hts⟩ hK hN hP hD hS hA hl.1 ⟨Nat.le_of_ble_eq_true rfl, Nat.le_of_ble_eq_true rfl⟩ (c_X6_put l dC dI cI cB h0 h1 h2 h3 h4 _ states_c98 ln s0_82 rd num due hash z_c175 hi_c98 tx pa (z (Int32.toNatClampNeg 3)) 7 0 hv_10) (cwV 3 hts gX6_give_X6_put rfl rfl rfl yd_X6_put ⟨Nat.le_of_ble_eq_true rfl, Nat.le_of_ble_eq_true rfl⟩) [0, 1, 2, 3, 4] rfl rfl rfl 6 rfl rfl rfl rfl (Nat.le_of_ble_eq_true rfl) dX6_give_181 (fun H locs hP hD hS => ?_)
      have hP : va_P (dC, dI) vwCl [(h0, .inr (6, [.ref h1, .int states_c98, .ref h2, .int ln, .ref h3, .int s0_82, .ref h4, .int rd, .int num, .int due, .long hash])), (h1, .inl (cI, 163, .inl (f_X6_put z_c175 (z (Int32.toNatClampNeg 3)) 7 0))), (h2, .inl (cI, 978, .inl hi_c98)), (h3, .inl (cI, 60, .inl tx)), (h4, .inl (cI, 42, .inl pa))] H := hP
      have hD : va_D A [(h0, .inr (6, [.ref h1, .int states_c98, .ref h2, .int ln, .ref h3, .int s0_82, .ref h4, .int rd, .int num, .int due, .long hash])), (h1, .inl (cI, 163, .inl (f_X6_put z_c175 (z (Int32.toNatClampNeg 3)) 7 0))), (h2, .inl (cI, 978, .inl hi_c98)), (h3, .inl (cI, 60, .inl tx)), (h4, .inl (cI, 42, .inl pa))] := hD
      obtain ⟨z_c184, ez_c184⟩ : ∃ zz9, zz9 = (f_X6_put z_c175 (z (Int32.toNatClampNeg 3)) 7 0) := ⟨_, rfl⟩
      rw [← ez_c184] at hP hD
      have eF : rr = f_X6_give_c184 z s0_82 states_c98 hi_c98 z_c184 := eF.trans (by rw [f_X6_give_c175, ez_c184])
      have eO : o_X6_give_c184 z s0_82 states_c98 hi_c98 z_c184 := by rw [ez_c184]; exact eO
      rw [o_X6_give_c184] at eO
      refine lv_aload_n hx hb dX6_give_184 rfl (lv_at hl 1 rfl) ?_
      refine lv_iload hx hb dX6_give_185 (lv_at hl 0 rfl) ?_
      refine lv_bipush (v := 8) hx hb dX6_give_187 (by decide) ?_
      refine lv_iconst (v := (-1)) hx hb dX6_give_189 (by decide) ?_
      obtain ⟨hv_11, eO⟩ := eO
      refine vm_rwVv (As := [.int (z (Int32.toNatClampNeg 3)), .int 8, .int (-1)]) (rest := []) (T := TX6) (N := 11) (wc := [(h0, .inr (6, [.ref h1, .int states_c98, .ref h2, .int ln, .ref h3, .int s0_82, .ref h4, .int rd, .int num, .int due, .long hash])), (h1, .inl (cI, 163, .inl z_c184)), (h2, .inl (cI, 978, .inl hi_c98)), (h3, .inl (cI, 60, .inl tx)), (h4, .inl (cI, 42, .inl pa))]) (w1 := [(h0, .inr (6, [.ref h1, .int states_c98, .ref h2, .int ln, .ref h3, .int s0_82, .ref h4, .int rd, .int num, .int due, .long hash])), (h1, .inl (cI, 163, .inl (f_X6_put z_c184 (z (Int32.toNatClampNeg 3)) 8 (-1)))), (h2, .inl (cI, 978, .inl hi_c98)), (h3, .inl (cI, 60, .inl tx)), (h4, .inl (cI, 42, .inl pa))]) ⟨hx, hb, hml, hown, hts⟩ hK hN hP hD hS hA hl.1 ⟨Nat.le_of_ble_eq_true rfl, Nat.le_of_ble_eq_true rfl⟩ (c_X6_put l dC dI cI cB h0 h1 h2 h3 h4 _ states_c98 ln s0_82 rd num due hash z_c184 hi_c98 tx pa (z (Int32.toNatClampNeg 3)) 8 (-1) hv_11) (cwV 3 hts gX6_give_X6_put rfl rfl rfl yd_X6_put ⟨Nat.le_of_ble_eq_true rfl, Nat.le_of_ble_eq_true rfl⟩) [0, 1, 2, 3, 4] rfl rfl rfl 6 rfl rfl rfl rfl (Nat.le_of_ble_eq_true rfl) dX6_give_190 (fun H locs hP hD hS => ?_)
      have hP : va_P (dC, dI) vwCl [(h0, .inr (6, [.ref h1, .int states_c98, .ref h2, .int ln, .ref h3, .int s0_82, .ref h4, .int rd, .int num, .int due, .long hash])), (h1, .inl (cI, 163, .inl (f_X6_put z_c184 (z (Int32.toNatClampNeg 3)) 8 (-1)))), (h2, .inl (cI, 978, .inl hi_c98)), (h3, .inl (cI, 60, .inl tx)), (h4, .inl (cI, 42, .inl pa))] H := hP
      have hD : va_D A [(h0, .inr (6, [.ref h1, .int states_c98, .ref h2, .int ln, .ref h3, .int s0_82, .ref h4, .int rd, .int num, .int due, .long hash])), (h1, .inl (cI, 163, .inl (f_X6_put z_c184 (z (Int32.toNatClampNeg 3)) 8 (-1)))), (h2, .inl (cI, 978, .inl hi_c98)), (h3, .inl (cI, 60, .inl tx)), (h4, .inl (cI, 42, .inl pa))] := hD
      obtain ⟨z_c193, ez_c193⟩ : ∃ zz9, zz9 = (f_X6_put z_c184 (z (Int32.toNatClampNeg 3)) 8 (-1)) := ⟨_, rfl⟩
      rw [← ez_c193] at hP hD
      have eF : rr = f_X6_give_c193 z s0_82 states_c98 hi_c98 z_c193 := eF.trans (by rw [f_X6_give_c184, ez_c193])
      have eO : o_X6_give_c193 z s0_82 states_c98 hi_c98 z_c193 := by rw [ez_c193]; exact eO
      rw [o_X6_give_c193] at eO
      refine lv_iload hx hb dX6_give_193 (lv_at hl 0 rfl) ?_
      have e9 : rr = ((z (Int32.toNatClampNeg 3)), states_c98, s0_82, z_c193, hi_c98) := eF.trans (by rw [f_X6_give_c193])
      exact W.iret (v := (z (Int32.toNatClampNeg 3))) hx hb hr (fun t ht hW => ⟨⟨_, (), rfl, by rw [e9], (by rw [e9]; show va_P _ _ _ t.heap; rw [ht]; exact hP)⟩, hS.F ht⟩) hS.2.2 dX6_give_195
    · rw [if_neg c_1] at eO
      refine lv_iconst (v := 0) hx hb dX6_give_92 (by decide) ?_
      have e9 : rr = (0, states, s0_82, z, hi) := eF.trans (by rw [f_X6_give_j82, if_neg c_1])
      exact W.iret (v := 0) hx hb hr (fun t ht hW => ⟨⟨_, (), rfl, by rw [e9], (by rw [e9]; show va_P _ _ _ t.heap; rw [ht]; exact hP)⟩, hS.F ht⟩) hS.2.2 dX6_give_93
  have hJ57 : ∀ (x6_57 : Bool), rr = f_X6_give_j57 states z hi p1 p2 p3 p4 p5 x6_57 → o_X6_give_j57 states z hi p1 p2 p3 p4 p5 x6_57 → ∀ (H : Heap) (locs : List Loc), va_P (dC, dI) vwCl [(h0, .inr (6, [.ref h1, .int states, .ref h2, .int ln, .ref h3, .int thr, .ref h4, .int rd, .int num, .int due, .long hash])), (h1, .inl (cI, 163, .inl z)), (h2, .inl (cI, 978, .inl hi)), (h3, .inl (cI, 60, .inl tx)), (h4, .inl (cI, 42, .inl pa))] H → va_D A [(h0, .inr (6, [.ref h1, .int states, .ref h2, .int ln, .ref h3, .int thr, .ref h4, .int rd, .int num, .int due, .long hash])), (h1, .inl (cI, 163, .inl z)), (h2, .inl (cI, 978, .inl hi)), (h3, .inl (cI, 60, .inl tx)), (h4, .inl (cI, 42, .inl pa))] → va_S A s.heap H locs → ∀ (ls : Array Slot), lv_has ls 8 [(0, .ref h0), (1, .int p1), (2, .int p2), (3, .int p3), (4, .int p4), (5, .int p5), (6, .int (vm_bi x6_57))] → W p l e (headSpec wsX6_give ({ frames := 3, cells := 0, slots := 0, locals := 69 })).room s m ([.ref h0, .int p1, .int p2, .int p3, .int p4, .int p5] : List Value).toArray below meth c H locs 0 0 (MQ below (va_Qi (fun (r9 : Int32) (_ : Unit) => r9 = rr.1) (fun _ t => va_P (dC, dI) vwCl [(h0, .inr (6, [.ref h1, .int rr.2.1, .ref h2, .int ln, .ref h3, .int rr.2.2.1, .ref h4, .int rd, .int num, .int due, .long hash])), (h1, .inl (cI, 163, .inl rr.2.2.2.1)), (h2, .inl (cI, 978, .inl rr.2.2.2.2)), (h3, .inl (cI, 60, .inl tx)), (h4, .inl (cI, 42, .inl pa))] t.heap) A) ([.ref h0, .int p1, .int p2, .int p3, .int p4, .int p5] : List Value).toArray s 0 0 A) (F0 m 57 ls [.ref h0]) := by
    intro x6_57 eF eO H locs hP hD hS ls hl
    rw [o_X6_give_j57] at eO
    refine lv_iload hx hb dX6_give_57 (lv_at hl 6 rfl) ?_
    refine lv_if_ne (tgt := 66) hx hb dX6_give_59 (by decide) (fun c_12 => ?_) (fun c_12 => ?_)
    · rw [if_neg c_12] at eO
      refine lv_aload_n hx hb dX6_give_66 rfl (lv_at hl 0 rfl) ?_
      refine lv_iload_n hx hb dX6_give_67 rfl (lv_at hl 1 rfl) ?_
      refine lv_iload_n hx hb dX6_give_68 rfl (lv_at hl 3 rfl) ?_
      refine lv_iload hx hb dX6_give_69 (lv_at hl 4 rfl) ?_
      obtain ⟨hv_13, eO⟩ := eO
      refine vm_roVx (v := vm_bi (f_X6_canGive z p1 p3 p4)) (As := [.int p1, .int p3, .int p4]) (rest := [.ref h0]) (T := TX6) (N := 11) (wc := [(h0, .inr (6, [.ref h1, .int states, .ref h2, .int ln, .ref h3, .int thr, .ref h4, .int rd, .int num, .int due, .long hash])), (h1, .inl (cI, 163, .inl z)), (h2, .inl (cI, 978, .inl hi)), (h3, .inl (cI, 60, .inl tx)), (h4, .inl (cI, 42, .inl pa))]) ⟨hx, hb, hml, hown, hts⟩ hK hN hP hl.1 ⟨Nat.le_of_ble_eq_true rfl, Nat.le_of_ble_eq_true rfl⟩ (c_X6_canGive l dC dI cI cB h0 h1 h2 h3 h4 states ln thr rd num due hash z hi tx pa p1 p3 p4 hv_13) (cwV 3 hts gX6_give_X6_canGive rfl rfl rfl yd_X6_canGive ⟨Nat.le_of_ble_eq_true rfl, Nat.le_of_ble_eq_true rfl⟩) [0, 1, 2, 3, 4] rfl 6 rfl rfl rfl rfl (Nat.le_of_ble_eq_true rfl) dX6_give_71 ?_
      refine lv_if_eq (tgt := 81) hx hb dX6_give_74 (by decide) (fun c_14 => ?_) (fun c_14 => ?_)
      · rw [if_pos c_14] at eO
        refine lv_iconst (v := 3) hx hb dX6_give_81 (by decide) ?_
        exact hJ82 3 (eF.trans (by rw [f_X6_give_j57, if_neg c_12, if_pos c_14])) eO _ _ hP hD hS ls (lv_sub hl [0, 1, 2, 3, 4, 5] rfl)
      · rw [if_neg c_14] at eO
        refine lv_iconst (v := 0) hx hb dX6_give_77 (by decide) ?_
        refine lv_goto (tgt := 82) hx hb dX6_give_78 (by decide) ?_
        exact hJ82 0 (eF.trans (by rw [f_X6_give_j57, if_neg c_12, if_neg c_14])) eO _ _ hP hD hS ls (lv_sub hl [0, 1, 2, 3, 4, 5] rfl)
    · rw [if_pos c_12] at eO
      refine lv_iconst (v := 2) hx hb dX6_give_62 (by decide) ?_
      refine lv_goto (tgt := 82) hx hb dX6_give_63 (by decide) ?_
      exact hJ82 2 (eF.trans (by rw [f_X6_give_j57, if_pos c_12])) eO _ _ hP hD hS ls (lv_sub hl [0, 1, 2, 3, 4, 5] rfl)
  have hJ37 : ∀ (s0_37 : Bool), rr = f_X6_give_j37 states z hi p1 p2 p3 p4 p5 s0_37 → o_X6_give_j37 states z hi p1 p2 p3 p4 p5 s0_37 → ∀ (H : Heap) (locs : List Loc), va_P (dC, dI) vwCl [(h0, .inr (6, [.ref h1, .int states, .ref h2, .int ln, .ref h3, .int thr, .ref h4, .int rd, .int num, .int due, .long hash])), (h1, .inl (cI, 163, .inl z)), (h2, .inl (cI, 978, .inl hi)), (h3, .inl (cI, 60, .inl tx)), (h4, .inl (cI, 42, .inl pa))] H → va_D A [(h0, .inr (6, [.ref h1, .int states, .ref h2, .int ln, .ref h3, .int thr, .ref h4, .int rd, .int num, .int due, .long hash])), (h1, .inl (cI, 163, .inl z)), (h2, .inl (cI, 978, .inl hi)), (h3, .inl (cI, 60, .inl tx)), (h4, .inl (cI, 42, .inl pa))] → va_S A s.heap H locs → ∀ (ls : Array Slot), lv_has ls 8 [(0, .ref h0), (1, .int p1), (2, .int p2), (3, .int p3), (4, .int p4), (5, .int p5)] → W p l e (headSpec wsX6_give ({ frames := 3, cells := 0, slots := 0, locals := 69 })).room s m ([.ref h0, .int p1, .int p2, .int p3, .int p4, .int p5] : List Value).toArray below meth c H locs 0 0 (MQ below (va_Qi (fun (r9 : Int32) (_ : Unit) => r9 = rr.1) (fun _ t => va_P (dC, dI) vwCl [(h0, .inr (6, [.ref h1, .int rr.2.1, .ref h2, .int ln, .ref h3, .int rr.2.2.1, .ref h4, .int rd, .int num, .int due, .long hash])), (h1, .inl (cI, 163, .inl rr.2.2.2.1)), (h2, .inl (cI, 978, .inl rr.2.2.2.2)), (h3, .inl (cI, 60, .inl tx)), (h4, .inl (cI, 42, .inl pa))] t.heap) A) ([.ref h0, .int p1, .int p2, .int p3, .int p4, .int p5] : List Value).toArray s 0 0 A) (F0 m 37 ls [.int (vm_bi s0_37)]) := by
    intro s0_37 eF eO H locs hP hD hS ls hl
    rw [o_X6_give_j37] at eO
    refine lv_istore (lv' := [(6, .int (vm_bi s0_37)), (0, .ref h0), (1, .int p1), (2, .int p2), (3, .int p3), (4, .int p4), (5, .int p5)]) hx hb dX6_give_37 hl (by decide) rfl (fun ls hl => ?_)
    refine lv_aload_n hx hb dX6_give_39 rfl (lv_at hl 1 rfl) ?_
    refine lv_iload_n hx hb dX6_give_40 rfl (lv_at hl 2 rfl) ?_
    refine lv_iconst (v := (-1)) hx hb dX6_give_41 (by decide) ?_
    refine lv_icmp_eq (tgt := 57) hx hb dX6_give_42 (by decide) (fun c_15 => ?_) (fun c_15 => ?_)
    · rw [if_pos c_15] at eO
      exact hJ57 s0_37 (eF.trans (by rw [f_X6_give_j37, if_pos c_15])) eO _ _ hP hD hS ls (lv_sub hl [1, 2, 3, 4, 5, 6, 0] rfl)
    · rw [if_neg c_15] at eO
      refine lv_aload_n hx hb dX6_give_45 rfl (lv_at hl 1 rfl) ?_
      refine lv_iload_n hx hb dX6_give_46 rfl (lv_at hl 2 rfl) ?_
      refine vm_roVx (v := vm_bi (f_X6_isMandate z p1)) (As := [.int p1]) (rest := [.ref h0]) (T := TX6) (N := 11) (wc := [(h0, .inr (6, [.ref h1, .int states, .ref h2, .int ln, .ref h3, .int thr, .ref h4, .int rd, .int num, .int due, .long hash])), (h1, .inl (cI, 163, .inl z)), (h2, .inl (cI, 978, .inl hi)), (h3, .inl (cI, 60, .inl tx)), (h4, .inl (cI, 42, .inl pa))]) ⟨hx, hb, hml, hown, hts⟩ hK hN hP hl.1 ⟨Nat.le_of_ble_eq_true rfl, Nat.le_of_ble_eq_true rfl⟩ (c_X6_isMandate l dC dI cI cB h0 h1 h2 h3 h4 states ln thr rd num due hash z hi tx pa p1) (cwV 1 hts gX6_give_X6_isMandate rfl rfl rfl yd_X6_isMandate ⟨Nat.le_of_ble_eq_true rfl, Nat.le_of_ble_eq_true rfl⟩) [0, 1, 2, 3, 4] rfl 6 rfl rfl rfl rfl (Nat.le_of_ble_eq_true rfl) dX6_give_47 ?_
      refine lv_if_ne (tgt := 57) hx hb dX6_give_50 (by decide) (fun c_16 => ?_) (fun c_16 => ?_)
      · rw [if_neg c_16] at eO
        exact hJ57 s0_37 (eF.trans (by rw [f_X6_give_j37, if_neg c_15, if_neg c_16])) eO _ _ hP hD hS ls (lv_sub hl [1, 2, 3, 4, 5, 6, 0] rfl)
      · rw [if_pos c_16] at eO
        refine lv_iconst (v := 1) hx hb dX6_give_53 (by decide) ?_
        refine lv_goto (tgt := 82) hx hb dX6_give_54 (by decide) ?_
        exact hJ82 1 (eF.trans (by rw [f_X6_give_j37, if_neg c_15, if_pos c_16])) eO _ _ hP hD hS ls (lv_sub hl [1, 2, 3, 4, 5, 6] rfl)
  have hJ36 : rr = f_X6_give_j36 states z hi p1 p2 p3 p4 p5 → o_X6_give_j36 states z hi p1 p2 p3 p4 p5 → ∀ (H : Heap) (locs : List Loc), va_P (dC, dI) vwCl [(h0, .inr (6, [.ref h1, .int states, .ref h2, .int ln, .ref h3, .int thr, .ref h4, .int rd, .int num, .int due, .long hash])), (h1, .inl (cI, 163, .inl z)), (h2, .inl (cI, 978, .inl hi)), (h3, .inl (cI, 60, .inl tx)), (h4, .inl (cI, 42, .inl pa))] H → va_D A [(h0, .inr (6, [.ref h1, .int states, .ref h2, .int ln, .ref h3, .int thr, .ref h4, .int rd, .int num, .int due, .long hash])), (h1, .inl (cI, 163, .inl z)), (h2, .inl (cI, 978, .inl hi)), (h3, .inl (cI, 60, .inl tx)), (h4, .inl (cI, 42, .inl pa))] → va_S A s.heap H locs → ∀ (ls : Array Slot), lv_has ls 8 [(0, .ref h0), (1, .int p1), (2, .int p2), (3, .int p3), (4, .int p4), (5, .int p5)] → W p l e (headSpec wsX6_give ({ frames := 3, cells := 0, slots := 0, locals := 69 })).room s m ([.ref h0, .int p1, .int p2, .int p3, .int p4, .int p5] : List Value).toArray below meth c H locs 0 0 (MQ below (va_Qi (fun (r9 : Int32) (_ : Unit) => r9 = rr.1) (fun _ t => va_P (dC, dI) vwCl [(h0, .inr (6, [.ref h1, .int rr.2.1, .ref h2, .int ln, .ref h3, .int rr.2.2.1, .ref h4, .int rd, .int num, .int due, .long hash])), (h1, .inl (cI, 163, .inl rr.2.2.2.1)), (h2, .inl (cI, 978, .inl rr.2.2.2.2)), (h3, .inl (cI, 60, .inl tx)), (h4, .inl (cI, 42, .inl pa))] t.heap) A) ([.ref h0, .int p1, .int p2, .int p3, .int p4, .int p5] : List Value).toArray s 0 0 A) (F0 m 36 ls []) := by
    intro eF eO H locs hP hD hS ls hl
    rw [o_X6_give_j36] at eO
    refine lv_iconst (v := 0) hx hb dX6_give_36 (by decide) ?_
    exact hJ37 false (eF.trans (by rw [f_X6_give_j36])) eO _ _ hP hD hS ls (lv_sub hl [0, 1, 2, 3, 4, 5] rfl)
  rw [o_X6_give] at eO
  refine lv_iload_n hx hb dX6_give_0 rfl (lv_at hl 2 rfl) ?_
  refine vm_roSx (v := vm_bi (f_X6_isPerson p2)) (As := [.int p2]) (rest := []) ⟨hx, hb, hml, hown, hts⟩ hK hN hP hl.1 ⟨Nat.le_of_ble_eq_true rfl, Nat.le_of_ble_eq_true rfl⟩ (c_X6_isPerson l dC dI cI cB p2) (va_cwS 1 hts gX6_give_X6_isPerson rfl rfl rfl yd_X6_isPerson ⟨Nat.le_of_ble_eq_true rfl, Nat.le_of_ble_eq_true rfl⟩) rfl rfl (Nat.le_of_ble_eq_true rfl) dX6_give_1 ?_
  refine lv_if_eq (tgt := 36) hx hb dX6_give_4 (by decide) (fun c_17 => ?_) (fun c_17 => ?_)
  · rw [if_pos c_17] at eO
    exact hJ36 (eF.trans (by rw [f_X6_give, if_pos c_17])) eO _ _ hP hD hS ls (lv_sub hl [0, 1, 2, 3, 4, 5] rfl)
  · rw [if_neg c_17] at eO
    refine lv_iload_n hx hb dX6_give_7 rfl (lv_at hl 3 rfl) ?_
    refine vm_roSx (v := vm_bi (f_X6_isMoney p3)) (As := [.int p3]) (rest := []) ⟨hx, hb, hml, hown, hts⟩ hK hN hP hl.1 ⟨Nat.le_of_ble_eq_true rfl, Nat.le_of_ble_eq_true rfl⟩ (c_X6_isMoney l dC dI cI cB p3) (va_cwS 1 hts gX6_give_X6_isMoney rfl rfl rfl yd_X6_isMoney ⟨Nat.le_of_ble_eq_true rfl, Nat.le_of_ble_eq_true rfl⟩) rfl rfl (Nat.le_of_ble_eq_true rfl) dX6_give_8 ?_
    refine lv_if_eq (tgt := 36) hx hb dX6_give_11 (by decide) (fun c_18 => ?_) (fun c_18 => ?_)
    · rw [if_pos c_18] at eO
      exact hJ36 (eF.trans (by rw [f_X6_give, if_neg c_17, if_pos c_18])) eO _ _ hP hD hS ls (lv_sub hl [0, 1, 2, 3, 4, 5] rfl)
    · rw [if_neg c_18] at eO
      refine lv_iload hx hb dX6_give_14 (lv_at hl 4 rfl) ?_
      refine vm_roSx (v := vm_bi (f_X6_isMoney p4)) (As := [.int p4]) (rest := []) ⟨hx, hb, hml, hown, hts⟩ hK hN hP hl.1 ⟨Nat.le_of_ble_eq_true rfl, Nat.le_of_ble_eq_true rfl⟩ (c_X6_isMoney l dC dI cI cB p4) (va_cwS 1 hts gX6_give_X6_isMoney rfl rfl rfl yd_X6_isMoney ⟨Nat.le_of_ble_eq_true rfl, Nat.le_of_ble_eq_true rfl⟩) rfl rfl (Nat.le_of_ble_eq_true rfl) dX6_give_16 ?_
      refine lv_if_eq (tgt := 36) hx hb dX6_give_19 (by decide) (fun c_19 => ?_) (fun c_19 => ?_)
      · rw [if_pos c_19] at eO
        exact hJ36 (eF.trans (by rw [f_X6_give, if_neg c_17, if_neg c_18, if_pos c_19])) eO _ _ hP hD hS ls (lv_sub hl [0, 1, 2, 3, 4, 5] rfl)
      · rw [if_neg c_19] at eO
        refine lv_iload hx hb dX6_give_22 (lv_at hl 5 rfl) ?_
        refine lv_iconst (v := 0) hx hb dX6_give_24 (by decide) ?_
        refine lv_iconst (v := 3) hx hb dX6_give_25 (by decide) ?_
        refine vm_roSx (v := vm_bi (f_X6_within p5 0 3)) (As := [.int p5, .int 0, .int 3]) (rest := []) ⟨hx, hb, hml, hown, hts⟩ hK hN hP hl.1 ⟨Nat.le_of_ble_eq_true rfl, Nat.le_of_ble_eq_true rfl⟩ (c_X6_within l dC dI cI cB p5 0 3) (va_cwS 3 hts gX6_give_X6_within rfl rfl rfl yd_X6_within ⟨Nat.le_of_ble_eq_true rfl, Nat.le_of_ble_eq_true rfl⟩) rfl rfl (Nat.le_of_ble_eq_true rfl) dX6_give_26 ?_
        refine lv_if_eq (tgt := 36) hx hb dX6_give_29 (by decide) (fun c_20 => ?_) (fun c_20 => ?_)
        · rw [if_pos c_20] at eO
          exact hJ36 (eF.trans (by rw [f_X6_give, if_neg c_17, if_neg c_18, if_neg c_19, if_pos c_20])) eO _ _ hP hD hS ls (lv_sub hl [0, 1, 2, 3, 4, 5] rfl)
        · rw [if_neg c_20] at eO
          refine lv_iconst (v := 1) hx hb dX6_give_32 (by decide) ?_
          refine lv_goto (tgt := 37) hx hb dX6_give_33 (by decide) ?_
          exact hJ37 true (eF.trans (by rw [f_X6_give, if_neg c_17, if_neg c_18, if_neg c_19, if_neg c_20])) eO _ _ hP hD hS ls (lv_sub hl [0, 1, 2, 3, 4, 5] rfl)

def f_X6_withdraw_c47 (s0_26 : Int32) (states_c42 : Int32) (hi_c42 : Nat → Int32) (y47 : Int32) (z_c47 : Nat → Int32) : Int32 × Int32 × Int32 × (Nat → Int32) × (Nat → Int32) :=
  (y47, states_c42, s0_26, z_c47, hi_c42)
def f_X6_withdraw_c42 (z : Nat → Int32) (p1 : Int32) (s0_26 : Int32) (states_c42 : Int32) (hi_c42 : Nat → Int32) : Int32 × Int32 × Int32 × (Nat → Int32) × (Nat → Int32) :=
  f_X6_withdraw_c47 s0_26 states_c42 hi_c42 ((f_X6_lapse z p1).1) ((f_X6_lapse z p1).2)
def f_X6_withdraw_j26 (states : Int32) (z : Nat → Int32) (hi : Nat → Int32) (p1 : Int32) (s0_26 : Int32) : Int32 × Int32 × Int32 × (Nat → Int32) × (Nat → Int32) :=
  if s0_26 ≤ 0 then
    f_X6_withdraw_c42 z p1 s0_26 ((f_X6_save states z hi).1) ((f_X6_save states z hi).2)
  else
    (0, states, s0_26, z, hi)
def f_X6_withdraw (states : Int32) (z : Nat → Int32) (hi : Nat → Int32) (p1 : Int32) : Int32 × Int32 × Int32 × (Nat → Int32) × (Nat → Int32) :=
  if (vm_bi (f_X6_isMandate z p1)) = 0 then
    f_X6_withdraw_j26 states z hi p1 1
  else
    if (vm_bi (f_X6_stands z p1)) = 0 then
      f_X6_withdraw_j26 states z hi p1 2
    else
      f_X6_withdraw_j26 states z hi p1 0
def o_X6_withdraw_c47 (s0_26 : Int32) (states_c42 : Int32) (hi_c42 : Nat → Int32) (y47 : Int32) (z_c47 : Nat → Int32) : Prop :=
  True
def o_X6_withdraw_c42 (z : Nat → Int32) (p1 : Int32) (s0_26 : Int32) (states_c42 : Int32) (hi_c42 : Nat → Int32) : Prop :=
  o_X6_lapse z p1 ∧
  (o_X6_withdraw_c47 s0_26 states_c42 hi_c42 ((f_X6_lapse z p1).1) ((f_X6_lapse z p1).2))
def o_X6_withdraw_j26 (states : Int32) (z : Nat → Int32) (hi : Nat → Int32) (p1 : Int32) (s0_26 : Int32) : Prop :=
  if s0_26 ≤ 0 then
    o_X6_save states z hi ∧
    (o_X6_withdraw_c42 z p1 s0_26 ((f_X6_save states z hi).1) ((f_X6_save states z hi).2))
  else
    True
def o_X6_withdraw (states : Int32) (z : Nat → Int32) (hi : Nat → Int32) (p1 : Int32) : Prop :=
  if (vm_bi (f_X6_isMandate z p1)) = 0 then
    o_X6_withdraw_j26 states z hi p1 1
  else
    o_X6_stands z p1 ∧
    (if (vm_bi (f_X6_stands z p1)) = 0 then
      o_X6_withdraw_j26 states z hi p1 2
    else
      o_X6_withdraw_j26 states z hi p1 0)
theorem yd_X6_withdraw : yX6_withdraw.cls = RX6 ∧ yX6_withdraw.cls ≠ "java/lang/invoke/MethodHandle" ∧ yX6_withdraw.cls ≠ "java/lang/invoke/VarHandle" ∧ (parseMethodDescriptor yX6_withdraw.desc).map (fun d => d.parameters.length) = some 1 := by decide +kernel
set_option maxHeartbeats 4000000 in
set_option maxRecDepth 100000 in
theorem c_X6_withdraw (l : Launch) (dC : Nat → ClassId) (dI : Nat → Nat → Nat) (cI cB : ClassId) (h0 h1 h2 h3 h4 : Nat) (sz : Nat) (states : Int32) (ln : Int32) (thr : Int32) (rd : Int32) (num : Int32) (due : Int32) (hash : Int64) (z : Nat → Int32) (hi : Nat → Int32) (tx : Nat → Int32) (pa : Nat → Int32) (p1 : Int32) (eO : o_X6_withdraw states z hi p1) : Met l yX6_withdraw wsX6_withdraw ({ frames := 4, cells := 0, slots := 0, locals := 92 }) (vm_prw [.ref h0, .int p1] (dC, dI) [(h0, .inr (6, [.ref h1, .int states, .ref h2, .int ln, .ref h3, .int thr, .ref h4, .int rd, .int num, .int due, .long hash])), (h1, .inl (cI, 163, .inl z)), (h2, .inl (cI, 978, .inl hi)), (h3, .inl (cI, 60, .inl tx)), (h4, .inl (cI, 42, .inl pa))] cI cB sz) (va_Qi (fun (r9 : Int32) (_ : Unit) => r9 = (f_X6_withdraw states z hi p1).1) (fun _ t => va_P (dC, dI) vwCl [(h0, .inr (6, [.ref h1, .int ((f_X6_withdraw states z hi p1).2.1), .ref h2, .int ln, .ref h3, .int ((f_X6_withdraw states z hi p1).2.2.1), .ref h4, .int rd, .int num, .int due, .long hash])), (h1, .inl (cI, 163, .inl ((f_X6_withdraw states z hi p1).2.2.2.1))), (h2, .inl (cI, 978, .inl ((f_X6_withdraw states z hi p1).2.2.2.2))), (h3, .inl (cI, 60, .inl tx)), (h4, .inl (cI, 42, .inl pa))] t.heap) (va_A [(h0, .inr (6, [.ref h1, .int states, .ref h2, .int ln, .ref h3, .int thr, .ref h4, .int rd, .int num, .int due, .long hash])), (h1, .inl (cI, 163, .inl z)), (h2, .inl (cI, 978, .inl hi)), (h3, .inl (cI, 60, .inl tx)), (h4, .inl (cI, 42, .inl pa))] sz)) 0 0 (va_A [(h0, .inr (6, [.ref h1, .int states, .ref h2, .int ln, .ref h3, .int thr, .ref h4, .int rd, .int num, .int due, .long hash])), (h1, .inl (cI, 163, .inl z)), (h2, .inl (cI, 978, .inl hi)), (h3, .inl (cI, 60, .inl tx)), (h4, .inl (cI, 42, .inl pa))] sz) := by
  refine Met.ofW (cc := cX6_withdraw) (maxL := 2) (ret := (some .int)) (by decide) rfl ?_
  intro p e s m args below meth c s₁ B hml hv
  obtain ⟨rfl, hsz, hP, hK, hN, hD0⟩ := hv
  have hx := B.exec
  have hb := B.bytes
  have hr := B.returns
  have hts := atoms_spec (ws := wsX6_withdraw) B.pre
  have hown : s.vm.findClass RX6 = some m.cls := findClass_of_methodNamed B.named
  have hlocks := B.notSynchronized
  subst hsz
  have hD := hD0.self (sz := s.heap.size)
  generalize hAe : va_A [(h0, .inr (6, [.ref h1, .int states, .ref h2, .int ln, .ref h3, .int thr, .ref h4, .int rd, .int num, .int due, .long hash])), (h1, .inl (cI, 163, .inl z)), (h2, .inl (cI, 978, .inl hi)), (h3, .inl (cI, 60, .inl tx)), (h4, .inl (cI, 42, .inl pa))] s.heap.size = A at hD ⊢
  have hA : ∀ q : Nat, s.heap.size ≤ q → A q := fun q h => by rw [← hAe]; exact Or.inr h
  have hS : va_S A s.heap s.heap [] := va_S.rf
  have hP : va_P (dC, dI) vwCl [(h0, .inr (6, [.ref h1, .int states, .ref h2, .int ln, .ref h3, .int thr, .ref h4, .int rd, .int num, .int due, .long hash])), (h1, .inl (cI, 163, .inl z)), (h2, .inl (cI, 978, .inl hi)), (h3, .inl (cI, 60, .inl tx)), (h4, .inl (cI, 42, .inl pa))] s.heap := hP
  have kw1 := hts (.fieldLink RX6 22 "LapseMandatesModel" "thrown" "I") (List.mem_of_getElem? (i := 1) rfl)
  have iwsX60 : ∀ w ∈ wsX60, w ∈ wsX6_withdraw := fun w h => List.mem_cons_of_mem _ (List.mem_append_right _ h)
  generalize hrr : f_X6_withdraw states z hi p1 = rr
  have eF := hrr.symm
  have hl := lv_entry ([.ref h0, .int p1]) (n := 2) (Nat.le_of_ble_eq_true rfl)
  rw [lg_entry_eq]
  generalize (lg_sl ([.ref h0, .int p1]) ++ List.replicate (2 - (lg_sl ([.ref h0, .int p1])).length) Slot.unset).toArray = ls at hl ⊢
  have hl : lv_has ls 2 [(0, .ref h0), (1, .int p1)] := hl
  have hJ26 : ∀ (s0_26 : Int32), rr = f_X6_withdraw_j26 states z hi p1 s0_26 → o_X6_withdraw_j26 states z hi p1 s0_26 → ∀ (H : Heap) (locs : List Loc), va_P (dC, dI) vwCl [(h0, .inr (6, [.ref h1, .int states, .ref h2, .int ln, .ref h3, .int thr, .ref h4, .int rd, .int num, .int due, .long hash])), (h1, .inl (cI, 163, .inl z)), (h2, .inl (cI, 978, .inl hi)), (h3, .inl (cI, 60, .inl tx)), (h4, .inl (cI, 42, .inl pa))] H → va_D A [(h0, .inr (6, [.ref h1, .int states, .ref h2, .int ln, .ref h3, .int thr, .ref h4, .int rd, .int num, .int due, .long hash])), (h1, .inl (cI, 163, .inl z)), (h2, .inl (cI, 978, .inl hi)), (h3, .inl (cI, 60, .inl tx)), (h4, .inl (cI, 42, .inl pa))] → va_S A s.heap H locs → ∀ (ls : Array Slot), lv_has ls 2 [(0, .ref h0), (1, .int p1)] → W p l e (headSpec wsX6_withdraw ({ frames := 4, cells := 0, slots := 0, locals := 92 })).room s m ([.ref h0, .int p1] : List Value).toArray below meth c H locs 0 0 (MQ below (va_Qi (fun (r9 : Int32) (_ : Unit) => r9 = rr.1) (fun _ t => va_P (dC, dI) vwCl [(h0, .inr (6, [.ref h1, .int rr.2.1, .ref h2, .int ln, .ref h3, .int rr.2.2.1, .ref h4, .int rd, .int num, .int due, .long hash])), (h1, .inl (cI, 163, .inl rr.2.2.2.1)), (h2, .inl (cI, 978, .inl rr.2.2.2.2)), (h3, .inl (cI, 60, .inl tx)), (h4, .inl (cI, 42, .inl pa))] t.heap) A) ([.ref h0, .int p1] : List Value).toArray s 0 0 A) (F0 m 26 ls [.int s0_26, .ref h0]) := by
    intro s0_26 eF eO H locs hP hD hS ls hl
    rw [o_X6_withdraw_j26] at eO
    refine va_put (D := (dC, dI)) (ci := 6) (v := .int s0_26) (ty := .int) (C := RX6) (T := TX6) (N := 11) hx hb hts iwsX60 tyX6 tyX6_ok nmX6 hown hK hP hD hS 0 rfl rfl 5 (by decide) kw1 (fun _ h9 => h9) rfl (by decide +kernel) rfl rfl (Nat.le_of_ble_eq_true rfl) dX6_withdraw_26 (fun H locs hP hD hS => ?_)
    have hP : va_P (dC, dI) vwCl [(h0, .inr (6, [.ref h1, .int states, .ref h2, .int ln, .ref h3, .int s0_26, .ref h4, .int rd, .int num, .int due, .long hash])), (h1, .inl (cI, 163, .inl z)), (h2, .inl (cI, 978, .inl hi)), (h3, .inl (cI, 60, .inl tx)), (h4, .inl (cI, 42, .inl pa))] H := hP
    have hD : va_D A [(h0, .inr (6, [.ref h1, .int states, .ref h2, .int ln, .ref h3, .int s0_26, .ref h4, .int rd, .int num, .int due, .long hash])), (h1, .inl (cI, 163, .inl z)), (h2, .inl (cI, 978, .inl hi)), (h3, .inl (cI, 60, .inl tx)), (h4, .inl (cI, 42, .inl pa))] := hD
    refine lv_aload_n hx hb dX6_withdraw_29 rfl (lv_at hl 0 rfl) ?_
    refine va_get (D := (dC, dI)) (ci := 6) (v := .int s0_26) (C := RX6) (T := TX6) (N := 11) hx hb hts iwsX60 hown hK hP 0 rfl rfl 5 (by decide) kw1 (fun _ h9 => h9) rfl dX6_withdraw_30 ?_
    refine lv_if_le (tgt := 38) hx hb dX6_withdraw_33 (by decide) (fun c_1 => ?_) (fun c_1 => ?_)
    · rw [if_pos c_1] at eO
      refine lv_aload_n hx hb dX6_withdraw_38 rfl (lv_at hl 0 rfl) ?_
      obtain ⟨hv_2, eO⟩ := eO
      refine vm_rwVv (As := []) (rest := []) (T := TX6) (N := 11) (wc := [(h0, .inr (6, [.ref h1, .int states, .ref h2, .int ln, .ref h3, .int s0_26, .ref h4, .int rd, .int num, .int due, .long hash])), (h1, .inl (cI, 163, .inl z)), (h2, .inl (cI, 978, .inl hi)), (h3, .inl (cI, 60, .inl tx)), (h4, .inl (cI, 42, .inl pa))]) (w1 := [(h0, .inr (6, [.ref h1, .int ((f_X6_save states z hi).1), .ref h2, .int ln, .ref h3, .int s0_26, .ref h4, .int rd, .int num, .int due, .long hash])), (h1, .inl (cI, 163, .inl z)), (h2, .inl (cI, 978, .inl ((f_X6_save states z hi).2))), (h3, .inl (cI, 60, .inl tx)), (h4, .inl (cI, 42, .inl pa))]) ⟨hx, hb, hml, hown, hts⟩ hK hN hP hD hS hA hl.1 ⟨Nat.le_of_ble_eq_true rfl, Nat.le_of_ble_eq_true rfl⟩ (c_X6_save l dC dI cI cB h0 h1 h2 h3 h4 _ states ln s0_26 rd num due hash z hi tx pa hv_2) (cwV 0 hts gX6_withdraw_X6_save rfl rfl rfl yd_X6_save ⟨Nat.le_of_ble_eq_true rfl, Nat.le_of_ble_eq_true rfl⟩) [0, 1, 2, 3, 4] rfl rfl rfl 6 rfl rfl rfl rfl (Nat.le_of_ble_eq_true rfl) dX6_withdraw_39 (fun H locs hP hD hS => ?_)
      have hP : va_P (dC, dI) vwCl [(h0, .inr (6, [.ref h1, .int ((f_X6_save states z hi).1), .ref h2, .int ln, .ref h3, .int s0_26, .ref h4, .int rd, .int num, .int due, .long hash])), (h1, .inl (cI, 163, .inl z)), (h2, .inl (cI, 978, .inl ((f_X6_save states z hi).2))), (h3, .inl (cI, 60, .inl tx)), (h4, .inl (cI, 42, .inl pa))] H := hP
      have hD : va_D A [(h0, .inr (6, [.ref h1, .int ((f_X6_save states z hi).1), .ref h2, .int ln, .ref h3, .int s0_26, .ref h4, .int rd, .int num, .int due, .long hash])), (h1, .inl (cI, 163, .inl z)), (h2, .inl (cI, 978, .inl ((f_X6_save states z hi).2))), (h3, .inl (cI, 60, .inl tx)), (h4, .inl (cI, 42, .inl pa))] := hD
      obtain ⟨states_c42, estates_c42⟩ : ∃ zz9, zz9 = (f_X6_save states z hi).1 := ⟨_, rfl⟩
      rw [← estates_c42] at hP hD
      obtain ⟨hi_c42, ehi_c42⟩ : ∃ zz9, zz9 = (f_X6_save states z hi).2 := ⟨_, rfl⟩
      rw [← ehi_c42] at hP hD
      have eF : rr = f_X6_withdraw_c42 z p1 s0_26 states_c42 hi_c42 := eF.trans (by rw [f_X6_withdraw_j26, if_pos c_1, estates_c42, ehi_c42])
      have eO : o_X6_withdraw_c42 z p1 s0_26 states_c42 hi_c42 := by rw [estates_c42, ehi_c42]; exact eO
      rw [o_X6_withdraw_c42] at eO
      refine lv_aload_n hx hb dX6_withdraw_42 rfl (lv_at hl 0 rfl) ?_
      refine lv_iload_n hx hb dX6_withdraw_43 rfl (lv_at hl 1 rfl) ?_
      obtain ⟨hv_3, eO⟩ := eO
      refine vm_rwV (As := [.int p1]) (rest := []) (T := TX6) (N := 11) (wc := [(h0, .inr (6, [.ref h1, .int states_c42, .ref h2, .int ln, .ref h3, .int s0_26, .ref h4, .int rd, .int num, .int due, .long hash])), (h1, .inl (cI, 163, .inl z)), (h2, .inl (cI, 978, .inl hi_c42)), (h3, .inl (cI, 60, .inl tx)), (h4, .inl (cI, 42, .inl pa))]) (w1 := [(h0, .inr (6, [.ref h1, .int states_c42, .ref h2, .int ln, .ref h3, .int s0_26, .ref h4, .int rd, .int num, .int due, .long hash])), (h1, .inl (cI, 163, .inl ((f_X6_lapse z p1).2))), (h2, .inl (cI, 978, .inl hi_c42)), (h3, .inl (cI, 60, .inl tx)), (h4, .inl (cI, 42, .inl pa))]) ⟨hx, hb, hml, hown, hts⟩ hK hN hP hD hS hA hl.1 ⟨Nat.le_of_ble_eq_true rfl, Nat.le_of_ble_eq_true rfl⟩ (c_X6_lapse l dC dI cI cB h0 h1 h2 h3 h4 _ states_c42 ln s0_26 rd num due hash z hi_c42 tx pa p1 hv_3) (cwV 1 hts gX6_withdraw_X6_lapse rfl rfl rfl yd_X6_lapse ⟨Nat.le_of_ble_eq_true rfl, Nat.le_of_ble_eq_true rfl⟩) [0, 1, 2, 3, 4] rfl rfl rfl 6 rfl rfl rfl rfl (Nat.le_of_ble_eq_true rfl) dX6_withdraw_44 (fun r47 H locs hw hP hD hS => ?_)
      have hP : va_P (dC, dI) vwCl [(h0, .inr (6, [.ref h1, .int states_c42, .ref h2, .int ln, .ref h3, .int s0_26, .ref h4, .int rd, .int num, .int due, .long hash])), (h1, .inl (cI, 163, .inl ((f_X6_lapse z p1).2))), (h2, .inl (cI, 978, .inl hi_c42)), (h3, .inl (cI, 60, .inl tx)), (h4, .inl (cI, 42, .inl pa))] H := hP
      have hD : va_D A [(h0, .inr (6, [.ref h1, .int states_c42, .ref h2, .int ln, .ref h3, .int s0_26, .ref h4, .int rd, .int num, .int due, .long hash])), (h1, .inl (cI, 163, .inl ((f_X6_lapse z p1).2))), (h2, .inl (cI, 978, .inl hi_c42)), (h3, .inl (cI, 60, .inl tx)), (h4, .inl (cI, 42, .inl pa))] := hD
      obtain ⟨y47, ey47⟩ : ∃ zz9, zz9 = (f_X6_lapse z p1).1 := ⟨_, rfl⟩
      obtain rfl : y47 = r47 := (hw.trans ey47.symm).symm
      obtain ⟨z_c47, ez_c47⟩ : ∃ zz9, zz9 = (f_X6_lapse z p1).2 := ⟨_, rfl⟩
      rw [← ez_c47] at hP hD
      have eF : rr = f_X6_withdraw_c47 s0_26 states_c42 hi_c42 y47 z_c47 := eF.trans (by rw [f_X6_withdraw_c42, ey47, ez_c47])
      have eO : o_X6_withdraw_c47 s0_26 states_c42 hi_c42 y47 z_c47 := by rw [ey47, ez_c47]; exact eO
      rw [o_X6_withdraw_c47] at eO
      have e9 : rr = (y47, states_c42, s0_26, z_c47, hi_c42) := eF.trans (by rw [f_X6_withdraw_c47])
      exact W.iret (v := y47) hx hb hr (fun t ht hW => ⟨⟨_, (), rfl, by rw [e9], (by rw [e9]; show va_P _ _ _ t.heap; rw [ht]; exact hP)⟩, hS.F ht⟩) hS.2.2 dX6_withdraw_47
    · rw [if_neg c_1] at eO
      refine lv_iconst (v := 0) hx hb dX6_withdraw_36 (by decide) ?_
      have e9 : rr = (0, states, s0_26, z, hi) := eF.trans (by rw [f_X6_withdraw_j26, if_neg c_1])
      exact W.iret (v := 0) hx hb hr (fun t ht hW => ⟨⟨_, (), rfl, by rw [e9], (by rw [e9]; show va_P _ _ _ t.heap; rw [ht]; exact hP)⟩, hS.F ht⟩) hS.2.2 dX6_withdraw_37
  rw [o_X6_withdraw] at eO
  refine lv_aload_n hx hb dX6_withdraw_0 rfl (lv_at hl 0 rfl) ?_
  refine lv_aload_n hx hb dX6_withdraw_1 rfl (lv_at hl 0 rfl) ?_
  refine lv_iload_n hx hb dX6_withdraw_2 rfl (lv_at hl 1 rfl) ?_
  refine vm_roVx (v := vm_bi (f_X6_isMandate z p1)) (As := [.int p1]) (rest := [.ref h0]) (T := TX6) (N := 11) (wc := [(h0, .inr (6, [.ref h1, .int states, .ref h2, .int ln, .ref h3, .int thr, .ref h4, .int rd, .int num, .int due, .long hash])), (h1, .inl (cI, 163, .inl z)), (h2, .inl (cI, 978, .inl hi)), (h3, .inl (cI, 60, .inl tx)), (h4, .inl (cI, 42, .inl pa))]) ⟨hx, hb, hml, hown, hts⟩ hK hN hP hl.1 ⟨Nat.le_of_ble_eq_true rfl, Nat.le_of_ble_eq_true rfl⟩ (c_X6_isMandate l dC dI cI cB h0 h1 h2 h3 h4 states ln thr rd num due hash z hi tx pa p1) (cwV 1 hts gX6_withdraw_X6_isMandate rfl rfl rfl yd_X6_isMandate ⟨Nat.le_of_ble_eq_true rfl, Nat.le_of_ble_eq_true rfl⟩) [0, 1, 2, 3, 4] rfl 6 rfl rfl rfl rfl (Nat.le_of_ble_eq_true rfl) dX6_withdraw_3 ?_
  refine lv_if_ne (tgt := 13) hx hb dX6_withdraw_6 (by decide) (fun c_4 => ?_) (fun c_4 => ?_)
  · rw [if_neg c_4] at eO
    refine lv_aload_n hx hb dX6_withdraw_13 rfl (lv_at hl 0 rfl) ?_
    refine lv_iload_n hx hb dX6_withdraw_14 rfl (lv_at hl 1 rfl) ?_
    obtain ⟨hv_5, eO⟩ := eO
    refine vm_roVx (v := vm_bi (f_X6_stands z p1)) (As := [.int p1]) (rest := [.ref h0]) (T := TX6) (N := 11) (wc := [(h0, .inr (6, [.ref h1, .int states, .ref h2, .int ln, .ref h3, .int thr, .ref h4, .int rd, .int num, .int due, .long hash])), (h1, .inl (cI, 163, .inl z)), (h2, .inl (cI, 978, .inl hi)), (h3, .inl (cI, 60, .inl tx)), (h4, .inl (cI, 42, .inl pa))]) ⟨hx, hb, hml, hown, hts⟩ hK hN hP hl.1 ⟨Nat.le_of_ble_eq_true rfl, Nat.le_of_ble_eq_true rfl⟩ (c_X6_stands l dC dI cI cB h0 h1 h2 h3 h4 states ln thr rd num due hash z hi tx pa p1 hv_5) (cwV 1 hts gX6_withdraw_X6_stands rfl rfl rfl yd_X6_stands ⟨Nat.le_of_ble_eq_true rfl, Nat.le_of_ble_eq_true rfl⟩) [0, 1, 2, 3, 4] rfl 6 rfl rfl rfl rfl (Nat.le_of_ble_eq_true rfl) dX6_withdraw_15 ?_
    refine lv_if_eq (tgt := 25) hx hb dX6_withdraw_18 (by decide) (fun c_6 => ?_) (fun c_6 => ?_)
    · rw [if_pos c_6] at eO
      refine lv_iconst (v := 2) hx hb dX6_withdraw_25 (by decide) ?_
      exact hJ26 2 (eF.trans (by rw [f_X6_withdraw, if_neg c_4, if_pos c_6])) eO _ _ hP hD hS ls (lv_sub hl [0, 1] rfl)
    · rw [if_neg c_6] at eO
      refine lv_iconst (v := 0) hx hb dX6_withdraw_21 (by decide) ?_
      refine lv_goto (tgt := 26) hx hb dX6_withdraw_22 (by decide) ?_
      exact hJ26 0 (eF.trans (by rw [f_X6_withdraw, if_neg c_4, if_neg c_6])) eO _ _ hP hD hS ls (lv_sub hl [0, 1] rfl)
  · rw [if_pos c_4] at eO
    refine lv_iconst (v := 1) hx hb dX6_withdraw_9 (by decide) ?_
    refine lv_goto (tgt := 26) hx hb dX6_withdraw_10 (by decide) ?_
    exact hJ26 1 (eF.trans (by rw [f_X6_withdraw, if_pos c_4])) eO _ _ hP hD hS ls (lv_sub hl [0, 1] rfl)

def f_X6_canLimit_j108 (x5_33 : Int32) (kj33 : Bool → Int32 → Bool) (s0_108 : Bool) : Bool :=
  kj33 s0_108 (x5_33 + 1)
def f_X6_canLimit_j103 (x5_33 : Int32) (kj33 : Bool → Int32 → Bool) : Bool :=
  f_X6_canLimit_j108 x5_33 kj33 true
def f_X6_canLimit_j107 (x5_33 : Int32) (kj33 : Bool → Int32 → Bool) : Bool :=
  f_X6_canLimit_j108 x5_33 kj33 false
def f_X6_canLimit_j69 (z : Nat → Int32) (p2 : Int32) (p3 : Int32) (x4_33 : Bool) (x5_33 : Int32) (kj33 : Bool → Int32 → Bool) (s0_69 : Bool) : Bool :=
  if (vm_bi x4_33) = 0 then
    f_X6_canLimit_j107 x5_33 kj33
  else
    if (vm_bi s0_69) = 0 then
      f_X6_canLimit_j103 x5_33 kj33
    else
      if p2 < (f_X6_of z x5_33 2) then
        f_X6_canLimit_j107 x5_33 kj33
      else
        if p3 < (f_X6_of z x5_33 3) then
          f_X6_canLimit_j107 x5_33 kj33
        else
          f_X6_canLimit_j103 x5_33 kj33
def f_X6_canLimit_j68 (z : Nat → Int32) (p2 : Int32) (p3 : Int32) (x4_33 : Bool) (x5_33 : Int32) (kj33 : Bool → Int32 → Bool) : Bool :=
  f_X6_canLimit_j69 z p2 p3 x4_33 x5_33 kj33 false
def f_X6_canLimit_j33 (z : Nat → Int32) (p1 : Int32) (p2 : Int32) (p3 : Int32) : Nat → Bool → Int32 → Bool
  | 0, _, _ => false
  | n33 + 1, x4_33, x5_33 => if (z (Int32.toNatClampNeg 3)) ≤ x5_33 then
      x4_33
    else
      if (vm_bi (f_X6_stands z x5_33)) = 0 then
        f_X6_canLimit_j68 z p2 p3 x4_33 x5_33 (f_X6_canLimit_j33 z p1 p2 p3 n33)
      else
        if (f_X6_of z x5_33 0) = p1 then
          f_X6_canLimit_j69 z p2 p3 x4_33 x5_33 (f_X6_canLimit_j33 z p1 p2 p3 n33) true
        else
          f_X6_canLimit_j68 z p2 p3 x4_33 x5_33 (f_X6_canLimit_j33 z p1 p2 p3 n33)
def f_X6_canLimit_j28 (z : Nat → Int32) (p1 : Int32) (p2 : Int32) (p3 : Int32) (s0_28 : Bool) : Bool :=
  f_X6_canLimit_j33 z p1 p2 p3 ((((z (Int32.toNatClampNeg 3))).toInt - ((0 : Int32)).toInt).toNat + 1) s0_28 0
def f_X6_canLimit_j27 (z : Nat → Int32) (p1 : Int32) (p2 : Int32) (p3 : Int32) : Bool :=
  f_X6_canLimit_j28 z p1 p2 p3 false
def f_X6_canLimit (z : Nat → Int32) (p1 : Int32) (p2 : Int32) (p3 : Int32) : Bool :=
  if (vm_bi (f_X6_stands z p1)) = 0 then
    f_X6_canLimit_j27 z p1 p2 p3
  else
    if (vm_bi (f_X6_areWithin z p2 p3 (f_X6_of z p1 0))) = 0 then
      f_X6_canLimit_j27 z p1 p2 p3
    else
      f_X6_canLimit_j28 z p1 p2 p3 true
def o_X6_canLimit_j108 (x5_33 : Int32) (koj33 : Bool → Int32 → Prop) (s0_108 : Bool) : Prop :=
  koj33 s0_108 (x5_33 + 1)
def o_X6_canLimit_j103 (x5_33 : Int32) (koj33 : Bool → Int32 → Prop) : Prop :=
  o_X6_canLimit_j108 x5_33 koj33 true
def o_X6_canLimit_j107 (x5_33 : Int32) (koj33 : Bool → Int32 → Prop) : Prop :=
  o_X6_canLimit_j108 x5_33 koj33 false
def o_X6_canLimit_j69 (z : Nat → Int32) (p2 : Int32) (p3 : Int32) (x4_33 : Bool) (x5_33 : Int32) (koj33 : Bool → Int32 → Prop) (s0_69 : Bool) : Prop :=
  if (vm_bi x4_33) = 0 then
    o_X6_canLimit_j107 x5_33 koj33
  else
    if (vm_bi s0_69) = 0 then
      o_X6_canLimit_j103 x5_33 koj33
    else
      o_X6_of z x5_33 2 ∧
      (if p2 < (f_X6_of z x5_33 2) then
        o_X6_canLimit_j107 x5_33 koj33
      else
        o_X6_of z x5_33 3 ∧
        (if p3 < (f_X6_of z x5_33 3) then
          o_X6_canLimit_j107 x5_33 koj33
        else
          o_X6_canLimit_j103 x5_33 koj33))
def o_X6_canLimit_j68 (z : Nat → Int32) (p2 : Int32) (p3 : Int32) (x4_33 : Bool) (x5_33 : Int32) (koj33 : Bool → Int32 → Prop) : Prop :=
  o_X6_canLimit_j69 z p2 p3 x4_33 x5_33 koj33 false
def o_X6_canLimit_j33 (z : Nat → Int32) (p1 : Int32) (p2 : Int32) (p3 : Int32) : Nat → Bool → Int32 → Prop
  | 0, _, _ => True
  | n33 + 1, x4_33, x5_33 => if (z (Int32.toNatClampNeg 3)) ≤ x5_33 then
      True
    else
      o_X6_stands z x5_33 ∧
      (if (vm_bi (f_X6_stands z x5_33)) = 0 then
        o_X6_canLimit_j68 z p2 p3 x4_33 x5_33 (o_X6_canLimit_j33 z p1 p2 p3 n33)
      else
        o_X6_of z x5_33 0 ∧
        (if (f_X6_of z x5_33 0) = p1 then
          o_X6_canLimit_j69 z p2 p3 x4_33 x5_33 (o_X6_canLimit_j33 z p1 p2 p3 n33) true
        else
          o_X6_canLimit_j68 z p2 p3 x4_33 x5_33 (o_X6_canLimit_j33 z p1 p2 p3 n33)))
def o_X6_canLimit_j28 (z : Nat → Int32) (p1 : Int32) (p2 : Int32) (p3 : Int32) (s0_28 : Bool) : Prop :=
  o_X6_canLimit_j33 z p1 p2 p3 ((((z (Int32.toNatClampNeg 3))).toInt - ((0 : Int32)).toInt).toNat + 1) s0_28 0
def o_X6_canLimit_j27 (z : Nat → Int32) (p1 : Int32) (p2 : Int32) (p3 : Int32) : Prop :=
  o_X6_canLimit_j28 z p1 p2 p3 false
def o_X6_canLimit (z : Nat → Int32) (p1 : Int32) (p2 : Int32) (p3 : Int32) : Prop :=
  o_X6_stands z p1 ∧
  (if (vm_bi (f_X6_stands z p1)) = 0 then
    o_X6_canLimit_j27 z p1 p2 p3
  else
    o_X6_of z p1 0 ∧
    (o_X6_areWithin z p2 p3 (f_X6_of z p1 0) ∧
    (if (vm_bi (f_X6_areWithin z p2 p3 (f_X6_of z p1 0))) = 0 then
      o_X6_canLimit_j27 z p1 p2 p3
    else
      o_X6_canLimit_j28 z p1 p2 p3 true)))
theorem yd_X6_canLimit : yX6_canLimit.cls = RX6 ∧ yX6_canLimit.cls ≠ "java/lang/invoke/MethodHandle" ∧ yX6_canLimit.cls ≠ "java/lang/invoke/VarHandle" ∧ (parseMethodDescriptor yX6_canLimit.desc).map (fun d => d.parameters.length) = some 3 := by decide +kernel
set_option maxHeartbeats 4000000 in
set_option maxRecDepth 100000 in
theorem c_X6_canLimit (l : Launch) (dC : Nat → ClassId) (dI : Nat → Nat → Nat) (cI cB : ClassId) (h0 h1 h2 h3 h4 : Nat) (states : Int32) (ln : Int32) (thr : Int32) (rd : Int32) (num : Int32) (due : Int32) (hash : Int64) (z : Nat → Int32) (hi : Nat → Int32) (tx : Nat → Int32) (pa : Nat → Int32) (p1 : Int32) (p2 : Int32) (p3 : Int32) (eO : o_X6_canLimit z p1 p2 p3) : Met l yX6_canLimit wsX6_canLimit ({ frames := 2, cells := 0, slots := 0, locals := 45 }) (vm_pre [.ref h0, .int p1, .int p2, .int p3] (dC, dI) [(h0, .inr (6, [.ref h1, .int states, .ref h2, .int ln, .ref h3, .int thr, .ref h4, .int rd, .int num, .int due, .long hash])), (h1, .inl (cI, 163, .inl z)), (h2, .inl (cI, 978, .inl hi)), (h3, .inl (cI, 60, .inl tx)), (h4, .inl (cI, 42, .inl pa))] cI cB) (vp_Si (fun r9 : Int32 => r9 = vm_bi (f_X6_canLimit z p1 p2 p3))) 0 0 (fun _ => False) := by
  refine Met.ofW (cc := cX6_canLimit) (maxL := 7) (ret := (some .boolean)) (by decide) rfl ?_
  intro p e s m args below meth c s₁ B hml hv
  obtain ⟨rfl, hP, hK, hN⟩ := hv
  have hx := B.exec
  have hb := B.bytes
  have hr := B.returns
  have hts := atoms_spec (ws := wsX6_canLimit) B.pre
  have hown : s.vm.findClass RX6 = some m.cls := findClass_of_methodNamed B.named
  have hlocks := B.notSynchronized
  have kw1 := hts (.fieldLink RX6 7 "LapseMandatesModel" "z" "[I") (List.mem_of_getElem? (i := 1) rfl)
  have iwsX60 : ∀ w ∈ wsX60, w ∈ wsX6_canLimit := fun w h => List.mem_cons_of_mem _ (List.mem_append_right _ h)
  generalize hrr : f_X6_canLimit z p1 p2 p3 = rr
  have eF := hrr.symm
  have hl := lv_entry ([.ref h0, .int p1, .int p2, .int p3]) (n := 7) (Nat.le_of_ble_eq_true rfl)
  rw [lg_entry_eq]
  generalize (lg_sl ([.ref h0, .int p1, .int p2, .int p3]) ++ List.replicate (7 - (lg_sl ([.ref h0, .int p1, .int p2, .int p3])).length) Slot.unset).toArray = ls at hl ⊢
  have hl : lv_has ls 7 [(0, .ref h0), (1, .int p1), (2, .int p2), (3, .int p3)] := hl
  have hJ33 : ∀ (n33 : Nat) (x4_33 : Bool) (x5_33 : Int32), (((z (Int32.toNatClampNeg 3))).toInt - (x5_33).toInt).toNat < n33 → 0 ≤ x5_33 → rr = f_X6_canLimit_j33 z p1 p2 p3 n33 x4_33 x5_33 → o_X6_canLimit_j33 z p1 p2 p3 n33 x4_33 x5_33 → ∀ (ls : Array Slot), lv_has ls 7 [(0, .ref h0), (1, .int p1), (2, .int p2), (3, .int p3), (4, .int (vm_bi x4_33)), (5, .int x5_33)] → W p l e (headSpec wsX6_canLimit ({ frames := 2, cells := 0, slots := 0, locals := 45 })).room s m ([.ref h0, .int p1, .int p2, .int p3] : List Value).toArray below meth c s.heap [] 0 0 (MQ below (vp_Si (fun r9 : Int32 => r9 = vm_bi rr)) ([.ref h0, .int p1, .int p2, .int p3] : List Value).toArray s 0 0 (fun _ => False)) (F0 m 33 ls []) := by
    intro n33
    induction n33 with
    | zero =>
      intro x4_33 x5_33 hm33
      exact absurd hm33 (Nat.not_lt_zero _)
    | succ n33 ih33 =>
      intro x4_33 x5_33 hm33 hi33 eF eO ls hl
      rw [o_X6_canLimit_j33] at eO
      have hJ108 : ∀ (s0_108 : Bool), ¬ (z (Int32.toNatClampNeg 3)) ≤ x5_33 → rr = f_X6_canLimit_j108 x5_33 (f_X6_canLimit_j33 z p1 p2 p3 n33) s0_108 → o_X6_canLimit_j108 x5_33 (o_X6_canLimit_j33 z p1 p2 p3 n33) s0_108 → ∀ (ls : Array Slot), lv_has ls 7 [(0, .ref h0), (1, .int p1), (2, .int p2), (3, .int p3), (5, .int x5_33)] → W p l e (headSpec wsX6_canLimit ({ frames := 2, cells := 0, slots := 0, locals := 45 })).room s m ([.ref h0, .int p1, .int p2, .int p3] : List Value).toArray below meth c s.heap [] 0 0 (MQ below (vp_Si (fun r9 : Int32 => r9 = vm_bi rr)) ([.ref h0, .int p1, .int p2, .int p3] : List Value).toArray s 0 0 (fun _ => False)) (F0 m 108 ls [.int (vm_bi s0_108)]) := by
        intro s0_108 cL33 eF eO ls hl
        rw [o_X6_canLimit_j108] at eO
        refine lv_istore (lv' := [(4, .int (vm_bi s0_108)), (0, .ref h0), (1, .int p1), (2, .int p2), (3, .int p3), (5, .int x5_33)]) hx hb dX6_canLimit_108 hl (by decide) rfl (fun ls hl => ?_)
        refine lv_iinc (v := (x5_33 + 1)) (lv' := [(5, .int (x5_33 + 1)), (4, .int (vm_bi s0_108)), (0, .ref h0), (1, .int p1), (2, .int p2), (3, .int p3)]) hx hb dX6_canLimit_110 hl (k := 5) rfl rfl (by decide) rfl (fun ls hl => ?_)
        refine lv_goto (tgt := 33) hx hb dX6_canLimit_113 (by decide) ?_
        exact ih33 s0_108 (x5_33 + 1) (vm_up (vm_nle cL33) hm33) (vm_nn hi33 (vm_nle cL33)) (eF.trans (by rw [f_X6_canLimit_j108])) eO ls (lv_sub hl [2, 3, 4, 5, 1, 0] rfl)
      have hJ107 : ¬ (z (Int32.toNatClampNeg 3)) ≤ x5_33 → rr = f_X6_canLimit_j107 x5_33 (f_X6_canLimit_j33 z p1 p2 p3 n33) → o_X6_canLimit_j107 x5_33 (o_X6_canLimit_j33 z p1 p2 p3 n33) → ∀ (ls : Array Slot), lv_has ls 7 [(0, .ref h0), (1, .int p1), (2, .int p2), (3, .int p3), (5, .int x5_33)] → W p l e (headSpec wsX6_canLimit ({ frames := 2, cells := 0, slots := 0, locals := 45 })).room s m ([.ref h0, .int p1, .int p2, .int p3] : List Value).toArray below meth c s.heap [] 0 0 (MQ below (vp_Si (fun r9 : Int32 => r9 = vm_bi rr)) ([.ref h0, .int p1, .int p2, .int p3] : List Value).toArray s 0 0 (fun _ => False)) (F0 m 107 ls []) := by
        intro cL33 eF eO ls hl
        rw [o_X6_canLimit_j107] at eO
        refine lv_iconst (v := 0) hx hb dX6_canLimit_107 (by decide) ?_
        exact hJ108 false cL33 (eF.trans (by rw [f_X6_canLimit_j107])) eO ls (lv_sub hl [0, 1, 2, 3, 4] rfl)
      have hJ103 : ¬ (z (Int32.toNatClampNeg 3)) ≤ x5_33 → rr = f_X6_canLimit_j103 x5_33 (f_X6_canLimit_j33 z p1 p2 p3 n33) → o_X6_canLimit_j103 x5_33 (o_X6_canLimit_j33 z p1 p2 p3 n33) → ∀ (ls : Array Slot), lv_has ls 7 [(0, .ref h0), (1, .int p1), (2, .int p2), (3, .int p3), (5, .int x5_33)] → W p l e (headSpec wsX6_canLimit ({ frames := 2, cells := 0, slots := 0, locals := 45 })).room s m ([.ref h0, .int p1, .int p2, .int p3] : List Value).toArray below meth c s.heap [] 0 0 (MQ below (vp_Si (fun r9 : Int32 => r9 = vm_bi rr)) ([.ref h0, .int p1, .int p2, .int p3] : List Value).toArray s 0 0 (fun _ => False)) (F0 m 103 ls []) := by
        intro cL33 eF eO ls hl
        rw [o_X6_canLimit_j103] at eO
        refine lv_iconst (v := 1) hx hb dX6_canLimit_103 (by decide) ?_
        refine lv_goto (tgt := 108) hx hb dX6_canLimit_104 (by decide) ?_
        exact hJ108 true cL33 (eF.trans (by rw [f_X6_canLimit_j103])) eO ls (lv_sub hl [0, 1, 2, 3, 4] rfl)
      have hJ69 : ∀ (s0_69 : Bool), ¬ (z (Int32.toNatClampNeg 3)) ≤ x5_33 → rr = f_X6_canLimit_j69 z p2 p3 x4_33 x5_33 (f_X6_canLimit_j33 z p1 p2 p3 n33) s0_69 → o_X6_canLimit_j69 z p2 p3 x4_33 x5_33 (o_X6_canLimit_j33 z p1 p2 p3 n33) s0_69 → ∀ (ls : Array Slot), lv_has ls 7 [(0, .ref h0), (1, .int p1), (2, .int p2), (3, .int p3), (4, .int (vm_bi x4_33)), (5, .int x5_33)] → W p l e (headSpec wsX6_canLimit ({ frames := 2, cells := 0, slots := 0, locals := 45 })).room s m ([.ref h0, .int p1, .int p2, .int p3] : List Value).toArray below meth c s.heap [] 0 0 (MQ below (vp_Si (fun r9 : Int32 => r9 = vm_bi rr)) ([.ref h0, .int p1, .int p2, .int p3] : List Value).toArray s 0 0 (fun _ => False)) (F0 m 69 ls [.int (vm_bi s0_69)]) := by
        intro s0_69 cL33 eF eO ls hl
        rw [o_X6_canLimit_j69] at eO
        refine lv_istore (lv' := [(6, .int (vm_bi s0_69)), (0, .ref h0), (1, .int p1), (2, .int p2), (3, .int p3), (4, .int (vm_bi x4_33)), (5, .int x5_33)]) hx hb dX6_canLimit_69 hl (by decide) rfl (fun ls hl => ?_)
        refine lv_iload hx hb dX6_canLimit_71 (lv_at hl 5 rfl) ?_
        refine lv_if_eq (tgt := 107) hx hb dX6_canLimit_73 (by decide) (fun c_1 => ?_) (fun c_1 => ?_)
        · rw [if_pos c_1] at eO
          exact hJ107 cL33 (eF.trans (by rw [f_X6_canLimit_j69, if_pos c_1])) eO ls (lv_sub hl [1, 2, 3, 4, 6] rfl)
        · rw [if_neg c_1] at eO
          refine lv_iload hx hb dX6_canLimit_76 (lv_at hl 0 rfl) ?_
          refine lv_if_eq (tgt := 103) hx hb dX6_canLimit_78 (by decide) (fun c_2 => ?_) (fun c_2 => ?_)
          · rw [if_pos c_2] at eO
            exact hJ103 cL33 (eF.trans (by rw [f_X6_canLimit_j69, if_neg c_1, if_pos c_2])) eO ls (lv_sub hl [1, 2, 3, 4, 6] rfl)
          · rw [if_neg c_2] at eO
            refine lv_aload_n hx hb dX6_canLimit_81 rfl (lv_at hl 1 rfl) ?_
            refine lv_iload hx hb dX6_canLimit_82 (lv_at hl 6 rfl) ?_
            refine lv_iconst (v := 2) hx hb dX6_canLimit_84 (by decide) ?_
            obtain ⟨hv_3, eO⟩ := eO
            refine vm_roVx (v := (f_X6_of z x5_33 2)) (As := [.int x5_33, .int 2]) (rest := []) (T := TX6) (N := 11) (wc := [(h0, .inr (6, [.ref h1, .int states, .ref h2, .int ln, .ref h3, .int thr, .ref h4, .int rd, .int num, .int due, .long hash])), (h1, .inl (cI, 163, .inl z)), (h2, .inl (cI, 978, .inl hi)), (h3, .inl (cI, 60, .inl tx)), (h4, .inl (cI, 42, .inl pa))]) ⟨hx, hb, hml, hown, hts⟩ hK hN hP hl.1 ⟨Nat.le_of_ble_eq_true rfl, Nat.le_of_ble_eq_true rfl⟩ (c_X6_of l dC dI cI cB h0 h1 h2 h3 h4 states ln thr rd num due hash z hi tx pa x5_33 2 hv_3) (cwV 2 hts gX6_canLimit_X6_of rfl rfl rfl yd_X6_of ⟨Nat.le_of_ble_eq_true rfl, Nat.le_of_ble_eq_true rfl⟩) [0, 1, 2, 3, 4] rfl 6 rfl rfl rfl rfl (Nat.le_of_ble_eq_true rfl) dX6_canLimit_85 ?_
            refine lv_iload_n hx hb dX6_canLimit_88 rfl (lv_at hl 3 rfl) ?_
            refine lv_icmp_gt (tgt := 107) hx hb dX6_canLimit_89 (by decide) (fun c_4 => ?_) (fun c_4 => ?_)
            · rw [if_pos c_4] at eO
              exact hJ107 cL33 (eF.trans (by rw [f_X6_canLimit_j69, if_neg c_1, if_neg c_2, if_pos c_4])) eO ls (lv_sub hl [1, 2, 3, 4, 6] rfl)
            · rw [if_neg c_4] at eO
              refine lv_aload_n hx hb dX6_canLimit_92 rfl (lv_at hl 1 rfl) ?_
              refine lv_iload hx hb dX6_canLimit_93 (lv_at hl 6 rfl) ?_
              refine lv_iconst (v := 3) hx hb dX6_canLimit_95 (by decide) ?_
              obtain ⟨hv_5, eO⟩ := eO
              refine vm_roVx (v := (f_X6_of z x5_33 3)) (As := [.int x5_33, .int 3]) (rest := []) (T := TX6) (N := 11) (wc := [(h0, .inr (6, [.ref h1, .int states, .ref h2, .int ln, .ref h3, .int thr, .ref h4, .int rd, .int num, .int due, .long hash])), (h1, .inl (cI, 163, .inl z)), (h2, .inl (cI, 978, .inl hi)), (h3, .inl (cI, 60, .inl tx)), (h4, .inl (cI, 42, .inl pa))]) ⟨hx, hb, hml, hown, hts⟩ hK hN hP hl.1 ⟨Nat.le_of_ble_eq_true rfl, Nat.le_of_ble_eq_true rfl⟩ (c_X6_of l dC dI cI cB h0 h1 h2 h3 h4 states ln thr rd num due hash z hi tx pa x5_33 3 hv_5) (cwV 2 hts gX6_canLimit_X6_of rfl rfl rfl yd_X6_of ⟨Nat.le_of_ble_eq_true rfl, Nat.le_of_ble_eq_true rfl⟩) [0, 1, 2, 3, 4] rfl 6 rfl rfl rfl rfl (Nat.le_of_ble_eq_true rfl) dX6_canLimit_96 ?_
              refine lv_iload_n hx hb dX6_canLimit_99 rfl (lv_at hl 4 rfl) ?_
              refine lv_icmp_gt (tgt := 107) hx hb dX6_canLimit_100 (by decide) (fun c_6 => ?_) (fun c_6 => ?_)
              · rw [if_pos c_6] at eO
                exact hJ107 cL33 (eF.trans (by rw [f_X6_canLimit_j69, if_neg c_1, if_neg c_2, if_neg c_4, if_pos c_6])) eO ls (lv_sub hl [1, 2, 3, 4, 6] rfl)
              · rw [if_neg c_6] at eO
                exact hJ103 cL33 (eF.trans (by rw [f_X6_canLimit_j69, if_neg c_1, if_neg c_2, if_neg c_4, if_neg c_6])) eO ls (lv_sub hl [1, 2, 3, 4, 6] rfl)
      have hJ68 : ¬ (z (Int32.toNatClampNeg 3)) ≤ x5_33 → rr = f_X6_canLimit_j68 z p2 p3 x4_33 x5_33 (f_X6_canLimit_j33 z p1 p2 p3 n33) → o_X6_canLimit_j68 z p2 p3 x4_33 x5_33 (o_X6_canLimit_j33 z p1 p2 p3 n33) → ∀ (ls : Array Slot), lv_has ls 7 [(0, .ref h0), (1, .int p1), (2, .int p2), (3, .int p3), (4, .int (vm_bi x4_33)), (5, .int x5_33)] → W p l e (headSpec wsX6_canLimit ({ frames := 2, cells := 0, slots := 0, locals := 45 })).room s m ([.ref h0, .int p1, .int p2, .int p3] : List Value).toArray below meth c s.heap [] 0 0 (MQ below (vp_Si (fun r9 : Int32 => r9 = vm_bi rr)) ([.ref h0, .int p1, .int p2, .int p3] : List Value).toArray s 0 0 (fun _ => False)) (F0 m 68 ls []) := by
        intro cL33 eF eO ls hl
        rw [o_X6_canLimit_j68] at eO
        refine lv_iconst (v := 0) hx hb dX6_canLimit_68 (by decide) ?_
        exact hJ69 false cL33 (eF.trans (by rw [f_X6_canLimit_j68])) eO ls (lv_sub hl [0, 1, 2, 3, 4, 5] rfl)
      refine lv_iload hx hb dX6_canLimit_33 (lv_at hl 5 rfl) ?_
      refine lv_aload_n hx hb dX6_canLimit_35 rfl (lv_at hl 0 rfl) ?_
      refine va_get (D := (dC, dI)) (ci := 6) (v := .ref h1) (C := RX6) (T := TX6) (N := 11) hx hb hts iwsX60 hown hK hP 0 rfl rfl 0 (by decide) kw1 (fun _ h9 => h9) rfl dX6_canLimit_36 ?_
      refine lv_iconst (v := 3) hx hb dX6_canLimit_39 (by decide) ?_
      refine va_iald hx hb hK hP 1 0 rfl rfl (by unfold vp_in; decide) dX6_canLimit_40 ?_
      refine lv_icmp_ge (tgt := 116) hx hb dX6_canLimit_41 (by decide) (fun cL33 => ?_) (fun cL33 => ?_)
      · rw [if_pos cL33] at eO
        refine lv_iload hx hb dX6_canLimit_116 (lv_at hl 4 rfl) ?_
        have e9 : rr = x4_33 := eF.trans (by rw [f_X6_canLimit_j33, if_pos cL33])
        exact W.zret (v := vm_bi x4_33) hx hb hr (vm_bi_nw _) (fun t ht hW => ⟨_, rfl, by rw [e9] <;> rfl, ht⟩) (fun _ hq => by cases hq) dX6_canLimit_118
      · rw [if_neg cL33] at eO
        refine lv_aload_n hx hb dX6_canLimit_44 rfl (lv_at hl 0 rfl) ?_
        refine lv_iload hx hb dX6_canLimit_45 (lv_at hl 5 rfl) ?_
        obtain ⟨hv_8, eO⟩ := eO
        refine vm_roVx (v := vm_bi (f_X6_stands z x5_33)) (As := [.int x5_33]) (rest := []) (T := TX6) (N := 11) (wc := [(h0, .inr (6, [.ref h1, .int states, .ref h2, .int ln, .ref h3, .int thr, .ref h4, .int rd, .int num, .int due, .long hash])), (h1, .inl (cI, 163, .inl z)), (h2, .inl (cI, 978, .inl hi)), (h3, .inl (cI, 60, .inl tx)), (h4, .inl (cI, 42, .inl pa))]) ⟨hx, hb, hml, hown, hts⟩ hK hN hP hl.1 ⟨Nat.le_of_ble_eq_true rfl, Nat.le_of_ble_eq_true rfl⟩ (c_X6_stands l dC dI cI cB h0 h1 h2 h3 h4 states ln thr rd num due hash z hi tx pa x5_33 hv_8) (cwV 1 hts gX6_canLimit_X6_stands rfl rfl rfl yd_X6_stands ⟨Nat.le_of_ble_eq_true rfl, Nat.le_of_ble_eq_true rfl⟩) [0, 1, 2, 3, 4] rfl 6 rfl rfl rfl rfl (Nat.le_of_ble_eq_true rfl) dX6_canLimit_47 ?_
        refine lv_if_eq (tgt := 68) hx hb dX6_canLimit_50 (by decide) (fun c_9 => ?_) (fun c_9 => ?_)
        · rw [if_pos c_9] at eO
          exact hJ68 cL33 (eF.trans (by rw [f_X6_canLimit_j33, if_neg cL33, if_pos c_9])) eO ls (lv_sub hl [0, 1, 2, 3, 4, 5] rfl)
        · rw [if_neg c_9] at eO
          refine lv_aload_n hx hb dX6_canLimit_53 rfl (lv_at hl 0 rfl) ?_
          refine lv_iload hx hb dX6_canLimit_54 (lv_at hl 5 rfl) ?_
          refine lv_iconst (v := 0) hx hb dX6_canLimit_56 (by decide) ?_
          obtain ⟨hv_10, eO⟩ := eO
          refine vm_roVx (v := (f_X6_of z x5_33 0)) (As := [.int x5_33, .int 0]) (rest := []) (T := TX6) (N := 11) (wc := [(h0, .inr (6, [.ref h1, .int states, .ref h2, .int ln, .ref h3, .int thr, .ref h4, .int rd, .int num, .int due, .long hash])), (h1, .inl (cI, 163, .inl z)), (h2, .inl (cI, 978, .inl hi)), (h3, .inl (cI, 60, .inl tx)), (h4, .inl (cI, 42, .inl pa))]) ⟨hx, hb, hml, hown, hts⟩ hK hN hP hl.1 ⟨Nat.le_of_ble_eq_true rfl, Nat.le_of_ble_eq_true rfl⟩ (c_X6_of l dC dI cI cB h0 h1 h2 h3 h4 states ln thr rd num due hash z hi tx pa x5_33 0 hv_10) (cwV 2 hts gX6_canLimit_X6_of rfl rfl rfl yd_X6_of ⟨Nat.le_of_ble_eq_true rfl, Nat.le_of_ble_eq_true rfl⟩) [0, 1, 2, 3, 4] rfl 6 rfl rfl rfl rfl (Nat.le_of_ble_eq_true rfl) dX6_canLimit_57 ?_
          refine lv_iload_n hx hb dX6_canLimit_60 rfl (lv_at hl 1 rfl) ?_
          refine lv_icmp_ne (tgt := 68) hx hb dX6_canLimit_61 (by decide) (fun c_11 => ?_) (fun c_11 => ?_)
          · rw [if_neg c_11] at eO
            exact hJ68 cL33 (eF.trans (by rw [f_X6_canLimit_j33, if_neg cL33, if_neg c_9, if_neg c_11])) eO ls (lv_sub hl [0, 1, 2, 3, 4, 5] rfl)
          · rw [if_pos c_11] at eO
            refine lv_iconst (v := 1) hx hb dX6_canLimit_64 (by decide) ?_
            refine lv_goto (tgt := 69) hx hb dX6_canLimit_65 (by decide) ?_
            exact hJ69 true cL33 (eF.trans (by rw [f_X6_canLimit_j33, if_neg cL33, if_neg c_9, if_pos c_11])) eO ls (lv_sub hl [0, 1, 2, 3, 4, 5] rfl)
  have hJ28 : ∀ (s0_28 : Bool), rr = f_X6_canLimit_j28 z p1 p2 p3 s0_28 → o_X6_canLimit_j28 z p1 p2 p3 s0_28 → ∀ (ls : Array Slot), lv_has ls 7 [(0, .ref h0), (1, .int p1), (2, .int p2), (3, .int p3)] → W p l e (headSpec wsX6_canLimit ({ frames := 2, cells := 0, slots := 0, locals := 45 })).room s m ([.ref h0, .int p1, .int p2, .int p3] : List Value).toArray below meth c s.heap [] 0 0 (MQ below (vp_Si (fun r9 : Int32 => r9 = vm_bi rr)) ([.ref h0, .int p1, .int p2, .int p3] : List Value).toArray s 0 0 (fun _ => False)) (F0 m 28 ls [.int (vm_bi s0_28)]) := by
    intro s0_28 eF eO ls hl
    rw [o_X6_canLimit_j28] at eO
    refine lv_istore (lv' := [(4, .int (vm_bi s0_28)), (0, .ref h0), (1, .int p1), (2, .int p2), (3, .int p3)]) hx hb dX6_canLimit_28 hl (by decide) rfl (fun ls hl => ?_)
    refine lv_iconst (v := 0) hx hb dX6_canLimit_30 (by decide) ?_
    refine lv_istore (lv' := [(5, .int 0), (4, .int (vm_bi s0_28)), (0, .ref h0), (1, .int p1), (2, .int p2), (3, .int p3)]) hx hb dX6_canLimit_31 hl (by decide) rfl (fun ls hl => ?_)
    exact hJ33 ((((z (Int32.toNatClampNeg 3))).toInt - ((0 : Int32)).toInt).toNat + 1) s0_28 0 (Nat.lt_succ_self _) (by decide) (eF.trans (by rw [f_X6_canLimit_j28])) eO ls (lv_sub hl [2, 3, 4, 5, 1, 0] rfl)
  have hJ27 : rr = f_X6_canLimit_j27 z p1 p2 p3 → o_X6_canLimit_j27 z p1 p2 p3 → ∀ (ls : Array Slot), lv_has ls 7 [(0, .ref h0), (1, .int p1), (2, .int p2), (3, .int p3)] → W p l e (headSpec wsX6_canLimit ({ frames := 2, cells := 0, slots := 0, locals := 45 })).room s m ([.ref h0, .int p1, .int p2, .int p3] : List Value).toArray below meth c s.heap [] 0 0 (MQ below (vp_Si (fun r9 : Int32 => r9 = vm_bi rr)) ([.ref h0, .int p1, .int p2, .int p3] : List Value).toArray s 0 0 (fun _ => False)) (F0 m 27 ls []) := by
    intro eF eO ls hl
    rw [o_X6_canLimit_j27] at eO
    refine lv_iconst (v := 0) hx hb dX6_canLimit_27 (by decide) ?_
    exact hJ28 false (eF.trans (by rw [f_X6_canLimit_j27])) eO ls (lv_sub hl [0, 1, 2, 3] rfl)
  rw [o_X6_canLimit] at eO
  refine lv_aload_n hx hb dX6_canLimit_0 rfl (lv_at hl 0 rfl) ?_
  refine lv_iload_n hx hb dX6_canLimit_1 rfl (lv_at hl 1 rfl) ?_
  obtain ⟨hv_12, eO⟩ := eO
  refine vm_roVx (v := vm_bi (f_X6_stands z p1)) (As := [.int p1]) (rest := []) (T := TX6) (N := 11) (wc := [(h0, .inr (6, [.ref h1, .int states, .ref h2, .int ln, .ref h3, .int thr, .ref h4, .int rd, .int num, .int due, .long hash])), (h1, .inl (cI, 163, .inl z)), (h2, .inl (cI, 978, .inl hi)), (h3, .inl (cI, 60, .inl tx)), (h4, .inl (cI, 42, .inl pa))]) ⟨hx, hb, hml, hown, hts⟩ hK hN hP hl.1 ⟨Nat.le_of_ble_eq_true rfl, Nat.le_of_ble_eq_true rfl⟩ (c_X6_stands l dC dI cI cB h0 h1 h2 h3 h4 states ln thr rd num due hash z hi tx pa p1 hv_12) (cwV 1 hts gX6_canLimit_X6_stands rfl rfl rfl yd_X6_stands ⟨Nat.le_of_ble_eq_true rfl, Nat.le_of_ble_eq_true rfl⟩) [0, 1, 2, 3, 4] rfl 6 rfl rfl rfl rfl (Nat.le_of_ble_eq_true rfl) dX6_canLimit_2 ?_
  refine lv_if_eq (tgt := 27) hx hb dX6_canLimit_5 (by decide) (fun c_13 => ?_) (fun c_13 => ?_)
  · rw [if_pos c_13] at eO
    exact hJ27 (eF.trans (by rw [f_X6_canLimit, if_pos c_13])) eO ls (lv_sub hl [0, 1, 2, 3] rfl)
  · rw [if_neg c_13] at eO
    refine lv_aload_n hx hb dX6_canLimit_8 rfl (lv_at hl 0 rfl) ?_
    refine lv_iload_n hx hb dX6_canLimit_9 rfl (lv_at hl 2 rfl) ?_
    refine lv_iload_n hx hb dX6_canLimit_10 rfl (lv_at hl 3 rfl) ?_
    refine lv_aload_n hx hb dX6_canLimit_11 rfl (lv_at hl 0 rfl) ?_
    refine lv_iload_n hx hb dX6_canLimit_12 rfl (lv_at hl 1 rfl) ?_
    refine lv_iconst (v := 0) hx hb dX6_canLimit_13 (by decide) ?_
    obtain ⟨hv_14, eO⟩ := eO
    refine vm_roVx (v := (f_X6_of z p1 0)) (As := [.int p1, .int 0]) (rest := [.int p3, .int p2, .ref h0]) (T := TX6) (N := 11) (wc := [(h0, .inr (6, [.ref h1, .int states, .ref h2, .int ln, .ref h3, .int thr, .ref h4, .int rd, .int num, .int due, .long hash])), (h1, .inl (cI, 163, .inl z)), (h2, .inl (cI, 978, .inl hi)), (h3, .inl (cI, 60, .inl tx)), (h4, .inl (cI, 42, .inl pa))]) ⟨hx, hb, hml, hown, hts⟩ hK hN hP hl.1 ⟨Nat.le_of_ble_eq_true rfl, Nat.le_of_ble_eq_true rfl⟩ (c_X6_of l dC dI cI cB h0 h1 h2 h3 h4 states ln thr rd num due hash z hi tx pa p1 0 hv_14) (cwV 2 hts gX6_canLimit_X6_of rfl rfl rfl yd_X6_of ⟨Nat.le_of_ble_eq_true rfl, Nat.le_of_ble_eq_true rfl⟩) [0, 1, 2, 3, 4] rfl 6 rfl rfl rfl rfl (Nat.le_of_ble_eq_true rfl) dX6_canLimit_14 ?_
    obtain ⟨hv_15, eO⟩ := eO
    refine vm_roVx (v := vm_bi (f_X6_areWithin z p2 p3 (f_X6_of z p1 0))) (As := [.int p2, .int p3, .int (f_X6_of z p1 0)]) (rest := []) (T := TX6) (N := 11) (wc := [(h0, .inr (6, [.ref h1, .int states, .ref h2, .int ln, .ref h3, .int thr, .ref h4, .int rd, .int num, .int due, .long hash])), (h1, .inl (cI, 163, .inl z)), (h2, .inl (cI, 978, .inl hi)), (h3, .inl (cI, 60, .inl tx)), (h4, .inl (cI, 42, .inl pa))]) ⟨hx, hb, hml, hown, hts⟩ hK hN hP hl.1 ⟨Nat.le_of_ble_eq_true rfl, Nat.le_of_ble_eq_true rfl⟩ (c_X6_areWithin l dC dI cI cB h0 h1 h2 h3 h4 states ln thr rd num due hash z hi tx pa p2 p3 (f_X6_of z p1 0) hv_15) (cwV 3 hts gX6_canLimit_X6_areWithin rfl rfl rfl yd_X6_areWithin ⟨Nat.le_of_ble_eq_true rfl, Nat.le_of_ble_eq_true rfl⟩) [0, 1, 2, 3, 4] rfl 6 rfl rfl rfl rfl (Nat.le_of_ble_eq_true rfl) dX6_canLimit_17 ?_
    refine lv_if_eq (tgt := 27) hx hb dX6_canLimit_20 (by decide) (fun c_16 => ?_) (fun c_16 => ?_)
    · rw [if_pos c_16] at eO
      exact hJ27 (eF.trans (by rw [f_X6_canLimit, if_neg c_13, if_pos c_16])) eO ls (lv_sub hl [0, 1, 2, 3] rfl)
    · rw [if_neg c_16] at eO
      refine lv_iconst (v := 1) hx hb dX6_canLimit_23 (by decide) ?_
      refine lv_goto (tgt := 28) hx hb dX6_canLimit_24 (by decide) ?_
      exact hJ28 true (eF.trans (by rw [f_X6_canLimit, if_neg c_13, if_neg c_16])) eO ls (lv_sub hl [0, 1, 2, 3] rfl)

def f_X6_limit_c84 (z : Nat → Int32) (p1 : Int32) (s0_46 : Int32) (states_c62 : Int32) (hi_c62 : Nat → Int32) (z_c84 : Nat → Int32) : Int32 × Int32 × Int32 × (Nat → Int32) × (Nat → Int32) :=
  ((f_X6_of z p1 3), states_c62, s0_46, z_c84, hi_c62)
def f_X6_limit_c77 (z : Nat → Int32) (p1 : Int32) (p3 : Int32) (s0_46 : Int32) (states_c62 : Int32) (hi_c62 : Nat → Int32) (z_c77 : Nat → Int32) : Int32 × Int32 × Int32 × (Nat → Int32) × (Nat → Int32) :=
  f_X6_limit_c84 z p1 s0_46 states_c62 hi_c62 (f_X6_put z_c77 p1 3 p3)
def f_X6_limit_c62 (z : Nat → Int32) (p1 : Int32) (p2 : Int32) (p3 : Int32) (s0_46 : Int32) (states_c62 : Int32) (hi_c62 : Nat → Int32) : Int32 × Int32 × Int32 × (Nat → Int32) × (Nat → Int32) :=
  f_X6_limit_c77 z p1 p3 s0_46 states_c62 hi_c62 (f_X6_put z p1 2 p2)
def f_X6_limit_j46 (states : Int32) (z : Nat → Int32) (hi : Nat → Int32) (p1 : Int32) (p2 : Int32) (p3 : Int32) (s0_46 : Int32) : Int32 × Int32 × Int32 × (Nat → Int32) × (Nat → Int32) :=
  if s0_46 ≤ 0 then
    f_X6_limit_c62 z p1 p2 p3 s0_46 ((f_X6_save states z hi).1) ((f_X6_save states z hi).2)
  else
    (0, states, s0_46, z, hi)
def f_X6_limit_j27 (states : Int32) (z : Nat → Int32) (hi : Nat → Int32) (p1 : Int32) (p2 : Int32) (p3 : Int32) : Int32 × Int32 × Int32 × (Nat → Int32) × (Nat → Int32) :=
  f_X6_limit_j46 states z hi p1 p2 p3 2
def f_X6_limit (states : Int32) (z : Nat → Int32) (hi : Nat → Int32) (p1 : Int32) (p2 : Int32) (p3 : Int32) : Int32 × Int32 × Int32 × (Nat → Int32) × (Nat → Int32) :=
  if (vm_bi (f_X6_isMandate z p1)) = 0 then
    f_X6_limit_j46 states z hi p1 p2 p3 1
  else
    if (vm_bi (f_X6_isMoney p2)) = 0 then
      f_X6_limit_j27 states z hi p1 p2 p3
    else
      if (vm_bi (f_X6_isMoney p3)) = 0 then
        f_X6_limit_j27 states z hi p1 p2 p3
      else
        if (vm_bi (f_X6_canLimit z p1 p2 p3)) = 0 then
          f_X6_limit_j46 states z hi p1 p2 p3 3
        else
          f_X6_limit_j46 states z hi p1 p2 p3 0
def o_X6_limit_c84 (z : Nat → Int32) (p1 : Int32) (s0_46 : Int32) (states_c62 : Int32) (hi_c62 : Nat → Int32) (z_c84 : Nat → Int32) : Prop :=
  True
def o_X6_limit_c77 (z : Nat → Int32) (p1 : Int32) (p3 : Int32) (s0_46 : Int32) (states_c62 : Int32) (hi_c62 : Nat → Int32) (z_c77 : Nat → Int32) : Prop :=
  o_X6_put z_c77 p1 3 p3 ∧
  (o_X6_limit_c84 z p1 s0_46 states_c62 hi_c62 (f_X6_put z_c77 p1 3 p3))
def o_X6_limit_c62 (z : Nat → Int32) (p1 : Int32) (p2 : Int32) (p3 : Int32) (s0_46 : Int32) (states_c62 : Int32) (hi_c62 : Nat → Int32) : Prop :=
  o_X6_of z p1 3 ∧
  (o_X6_put z p1 2 p2 ∧
  (o_X6_limit_c77 z p1 p3 s0_46 states_c62 hi_c62 (f_X6_put z p1 2 p2)))
def o_X6_limit_j46 (states : Int32) (z : Nat → Int32) (hi : Nat → Int32) (p1 : Int32) (p2 : Int32) (p3 : Int32) (s0_46 : Int32) : Prop :=
  if s0_46 ≤ 0 then
    o_X6_save states z hi ∧
    (o_X6_limit_c62 z p1 p2 p3 s0_46 ((f_X6_save states z hi).1) ((f_X6_save states z hi).2))
  else
    True
def o_X6_limit_j27 (states : Int32) (z : Nat → Int32) (hi : Nat → Int32) (p1 : Int32) (p2 : Int32) (p3 : Int32) : Prop :=
  o_X6_limit_j46 states z hi p1 p2 p3 2
def o_X6_limit (states : Int32) (z : Nat → Int32) (hi : Nat → Int32) (p1 : Int32) (p2 : Int32) (p3 : Int32) : Prop :=
  if (vm_bi (f_X6_isMandate z p1)) = 0 then
    o_X6_limit_j46 states z hi p1 p2 p3 1
  else
    if (vm_bi (f_X6_isMoney p2)) = 0 then
      o_X6_limit_j27 states z hi p1 p2 p3
    else
      if (vm_bi (f_X6_isMoney p3)) = 0 then
        o_X6_limit_j27 states z hi p1 p2 p3
      else
        o_X6_canLimit z p1 p2 p3 ∧
        (if (vm_bi (f_X6_canLimit z p1 p2 p3)) = 0 then
          o_X6_limit_j46 states z hi p1 p2 p3 3
        else
          o_X6_limit_j46 states z hi p1 p2 p3 0)
theorem yd_X6_limit : yX6_limit.cls = RX6 ∧ yX6_limit.cls ≠ "java/lang/invoke/MethodHandle" ∧ yX6_limit.cls ≠ "java/lang/invoke/VarHandle" ∧ (parseMethodDescriptor yX6_limit.desc).map (fun d => d.parameters.length) = some 3 := by decide +kernel
set_option maxHeartbeats 4000000 in
set_option maxRecDepth 100000 in
theorem c_X6_limit (l : Launch) (dC : Nat → ClassId) (dI : Nat → Nat → Nat) (cI cB : ClassId) (h0 h1 h2 h3 h4 : Nat) (sz : Nat) (states : Int32) (ln : Int32) (thr : Int32) (rd : Int32) (num : Int32) (due : Int32) (hash : Int64) (z : Nat → Int32) (hi : Nat → Int32) (tx : Nat → Int32) (pa : Nat → Int32) (p1 : Int32) (p2 : Int32) (p3 : Int32) (eO : o_X6_limit states z hi p1 p2 p3) : Met l yX6_limit wsX6_limit ({ frames := 3, cells := 0, slots := 0, locals := 71 }) (vm_prw [.ref h0, .int p1, .int p2, .int p3] (dC, dI) [(h0, .inr (6, [.ref h1, .int states, .ref h2, .int ln, .ref h3, .int thr, .ref h4, .int rd, .int num, .int due, .long hash])), (h1, .inl (cI, 163, .inl z)), (h2, .inl (cI, 978, .inl hi)), (h3, .inl (cI, 60, .inl tx)), (h4, .inl (cI, 42, .inl pa))] cI cB sz) (va_Qi (fun (r9 : Int32) (_ : Unit) => r9 = (f_X6_limit states z hi p1 p2 p3).1) (fun _ t => va_P (dC, dI) vwCl [(h0, .inr (6, [.ref h1, .int ((f_X6_limit states z hi p1 p2 p3).2.1), .ref h2, .int ln, .ref h3, .int ((f_X6_limit states z hi p1 p2 p3).2.2.1), .ref h4, .int rd, .int num, .int due, .long hash])), (h1, .inl (cI, 163, .inl ((f_X6_limit states z hi p1 p2 p3).2.2.2.1))), (h2, .inl (cI, 978, .inl ((f_X6_limit states z hi p1 p2 p3).2.2.2.2))), (h3, .inl (cI, 60, .inl tx)), (h4, .inl (cI, 42, .inl pa))] t.heap) (va_A [(h0, .inr (6, [.ref h1, .int states, .ref h2, .int ln, .ref h3, .int thr, .ref h4, .int rd, .int num, .int due, .long hash])), (h1, .inl (cI, 163, .inl z)), (h2, .inl (cI, 978, .inl hi)), (h3, .inl (cI, 60, .inl tx)), (h4, .inl (cI, 42, .inl pa))] sz)) 0 0 (va_A [(h0, .inr (6, [.ref h1, .int states, .ref h2, .int ln, .ref h3, .int thr, .ref h4, .int rd, .int num, .int due, .long hash])), (h1, .inl (cI, 163, .inl z)), (h2, .inl (cI, 978, .inl hi)), (h3, .inl (cI, 60, .inl tx)), (h4, .inl (cI, 42, .inl pa))] sz) := by
  refine Met.ofW (cc := cX6_limit) (maxL := 5) (ret := (some .int)) (by decide) rfl ?_
  intro p e s m args below meth c s₁ B hml hv
  obtain ⟨rfl, hsz, hP, hK, hN, hD0⟩ := hv
  have hx := B.exec
  have hb := B.bytes
  have hr := B.returns
  have hts := atoms_spec (ws := wsX6_limit) B.pre
  have hown : s.vm.findClass RX6 = some m.cls := findClass_of_methodNamed B.named
  have hlocks := B.notSynchronized
  subst hsz
  have hD := hD0.self (sz := s.heap.size)
  generalize hAe : va_A [(h0, .inr (6, [.ref h1, .int states, .ref h2, .int ln, .ref h3, .int thr, .ref h4, .int rd, .int num, .int due, .long hash])), (h1, .inl (cI, 163, .inl z)), (h2, .inl (cI, 978, .inl hi)), (h3, .inl (cI, 60, .inl tx)), (h4, .inl (cI, 42, .inl pa))] s.heap.size = A at hD ⊢
  have hA : ∀ q : Nat, s.heap.size ≤ q → A q := fun q h => by rw [← hAe]; exact Or.inr h
  have hS : va_S A s.heap s.heap [] := va_S.rf
  have hP : va_P (dC, dI) vwCl [(h0, .inr (6, [.ref h1, .int states, .ref h2, .int ln, .ref h3, .int thr, .ref h4, .int rd, .int num, .int due, .long hash])), (h1, .inl (cI, 163, .inl z)), (h2, .inl (cI, 978, .inl hi)), (h3, .inl (cI, 60, .inl tx)), (h4, .inl (cI, 42, .inl pa))] s.heap := hP
  have kw1 := hts (.fieldLink RX6 22 "LapseMandatesModel" "thrown" "I") (List.mem_of_getElem? (i := 1) rfl)
  have iwsX60 : ∀ w ∈ wsX60, w ∈ wsX6_limit := fun w h => List.mem_cons_of_mem _ (List.mem_append_right _ h)
  generalize hrr : f_X6_limit states z hi p1 p2 p3 = rr
  have eF := hrr.symm
  have hl := lv_entry ([.ref h0, .int p1, .int p2, .int p3]) (n := 5) (Nat.le_of_ble_eq_true rfl)
  rw [lg_entry_eq]
  generalize (lg_sl ([.ref h0, .int p1, .int p2, .int p3]) ++ List.replicate (5 - (lg_sl ([.ref h0, .int p1, .int p2, .int p3])).length) Slot.unset).toArray = ls at hl ⊢
  have hl : lv_has ls 5 [(0, .ref h0), (1, .int p1), (2, .int p2), (3, .int p3)] := hl
  have hJ46 : ∀ (s0_46 : Int32), rr = f_X6_limit_j46 states z hi p1 p2 p3 s0_46 → o_X6_limit_j46 states z hi p1 p2 p3 s0_46 → ∀ (H : Heap) (locs : List Loc), va_P (dC, dI) vwCl [(h0, .inr (6, [.ref h1, .int states, .ref h2, .int ln, .ref h3, .int thr, .ref h4, .int rd, .int num, .int due, .long hash])), (h1, .inl (cI, 163, .inl z)), (h2, .inl (cI, 978, .inl hi)), (h3, .inl (cI, 60, .inl tx)), (h4, .inl (cI, 42, .inl pa))] H → va_D A [(h0, .inr (6, [.ref h1, .int states, .ref h2, .int ln, .ref h3, .int thr, .ref h4, .int rd, .int num, .int due, .long hash])), (h1, .inl (cI, 163, .inl z)), (h2, .inl (cI, 978, .inl hi)), (h3, .inl (cI, 60, .inl tx)), (h4, .inl (cI, 42, .inl pa))] → va_S A s.heap H locs → ∀ (ls : Array Slot), lv_has ls 5 [(0, .ref h0), (1, .int p1), (2, .int p2), (3, .int p3)] → W p l e (headSpec wsX6_limit ({ frames := 3, cells := 0, slots := 0, locals := 71 })).room s m ([.ref h0, .int p1, .int p2, .int p3] : List Value).toArray below meth c H locs 0 0 (MQ below (va_Qi (fun (r9 : Int32) (_ : Unit) => r9 = rr.1) (fun _ t => va_P (dC, dI) vwCl [(h0, .inr (6, [.ref h1, .int rr.2.1, .ref h2, .int ln, .ref h3, .int rr.2.2.1, .ref h4, .int rd, .int num, .int due, .long hash])), (h1, .inl (cI, 163, .inl rr.2.2.2.1)), (h2, .inl (cI, 978, .inl rr.2.2.2.2)), (h3, .inl (cI, 60, .inl tx)), (h4, .inl (cI, 42, .inl pa))] t.heap) A) ([.ref h0, .int p1, .int p2, .int p3] : List Value).toArray s 0 0 A) (F0 m 46 ls [.int s0_46, .ref h0]) := by
    intro s0_46 eF eO H locs hP hD hS ls hl
    rw [o_X6_limit_j46] at eO
    refine va_put (D := (dC, dI)) (ci := 6) (v := .int s0_46) (ty := .int) (C := RX6) (T := TX6) (N := 11) hx hb hts iwsX60 tyX6 tyX6_ok nmX6 hown hK hP hD hS 0 rfl rfl 5 (by decide) kw1 (fun _ h9 => h9) rfl (by decide +kernel) rfl rfl (Nat.le_of_ble_eq_true rfl) dX6_limit_46 (fun H locs hP hD hS => ?_)
    have hP : va_P (dC, dI) vwCl [(h0, .inr (6, [.ref h1, .int states, .ref h2, .int ln, .ref h3, .int s0_46, .ref h4, .int rd, .int num, .int due, .long hash])), (h1, .inl (cI, 163, .inl z)), (h2, .inl (cI, 978, .inl hi)), (h3, .inl (cI, 60, .inl tx)), (h4, .inl (cI, 42, .inl pa))] H := hP
    have hD : va_D A [(h0, .inr (6, [.ref h1, .int states, .ref h2, .int ln, .ref h3, .int s0_46, .ref h4, .int rd, .int num, .int due, .long hash])), (h1, .inl (cI, 163, .inl z)), (h2, .inl (cI, 978, .inl hi)), (h3, .inl (cI, 60, .inl tx)), (h4, .inl (cI, 42, .inl pa))] := hD
    refine lv_aload_n hx hb dX6_limit_49 rfl (lv_at hl 0 rfl) ?_
    refine va_get (D := (dC, dI)) (ci := 6) (v := .int s0_46) (C := RX6) (T := TX6) (N := 11) hx hb hts iwsX60 hown hK hP 0 rfl rfl 5 (by decide) kw1 (fun _ h9 => h9) rfl dX6_limit_50 ?_
    refine lv_if_le (tgt := 58) hx hb dX6_limit_53 (by decide) (fun c_1 => ?_) (fun c_1 => ?_)
    · rw [if_pos c_1] at eO
      refine lv_aload_n hx hb dX6_limit_58 rfl (lv_at hl 0 rfl) ?_
      obtain ⟨hv_2, eO⟩ := eO
      refine vm_rwVv (As := []) (rest := []) (T := TX6) (N := 11) (wc := [(h0, .inr (6, [.ref h1, .int states, .ref h2, .int ln, .ref h3, .int s0_46, .ref h4, .int rd, .int num, .int due, .long hash])), (h1, .inl (cI, 163, .inl z)), (h2, .inl (cI, 978, .inl hi)), (h3, .inl (cI, 60, .inl tx)), (h4, .inl (cI, 42, .inl pa))]) (w1 := [(h0, .inr (6, [.ref h1, .int ((f_X6_save states z hi).1), .ref h2, .int ln, .ref h3, .int s0_46, .ref h4, .int rd, .int num, .int due, .long hash])), (h1, .inl (cI, 163, .inl z)), (h2, .inl (cI, 978, .inl ((f_X6_save states z hi).2))), (h3, .inl (cI, 60, .inl tx)), (h4, .inl (cI, 42, .inl pa))]) ⟨hx, hb, hml, hown, hts⟩ hK hN hP hD hS hA hl.1 ⟨Nat.le_of_ble_eq_true rfl, Nat.le_of_ble_eq_true rfl⟩ (c_X6_save l dC dI cI cB h0 h1 h2 h3 h4 _ states ln s0_46 rd num due hash z hi tx pa hv_2) (cwV 0 hts gX6_limit_X6_save rfl rfl rfl yd_X6_save ⟨Nat.le_of_ble_eq_true rfl, Nat.le_of_ble_eq_true rfl⟩) [0, 1, 2, 3, 4] rfl rfl rfl 6 rfl rfl rfl rfl (Nat.le_of_ble_eq_true rfl) dX6_limit_59 (fun H locs hP hD hS => ?_)
      have hP : va_P (dC, dI) vwCl [(h0, .inr (6, [.ref h1, .int ((f_X6_save states z hi).1), .ref h2, .int ln, .ref h3, .int s0_46, .ref h4, .int rd, .int num, .int due, .long hash])), (h1, .inl (cI, 163, .inl z)), (h2, .inl (cI, 978, .inl ((f_X6_save states z hi).2))), (h3, .inl (cI, 60, .inl tx)), (h4, .inl (cI, 42, .inl pa))] H := hP
      have hD : va_D A [(h0, .inr (6, [.ref h1, .int ((f_X6_save states z hi).1), .ref h2, .int ln, .ref h3, .int s0_46, .ref h4, .int rd, .int num, .int due, .long hash])), (h1, .inl (cI, 163, .inl z)), (h2, .inl (cI, 978, .inl ((f_X6_save states z hi).2))), (h3, .inl (cI, 60, .inl tx)), (h4, .inl (cI, 42, .inl pa))] := hD
      obtain ⟨states_c62, estates_c62⟩ : ∃ zz9, zz9 = (f_X6_save states z hi).1 := ⟨_, rfl⟩
      rw [← estates_c62] at hP hD
      obtain ⟨hi_c62, ehi_c62⟩ : ∃ zz9, zz9 = (f_X6_save states z hi).2 := ⟨_, rfl⟩
      rw [← ehi_c62] at hP hD
      have eF : rr = f_X6_limit_c62 z p1 p2 p3 s0_46 states_c62 hi_c62 := eF.trans (by rw [f_X6_limit_j46, if_pos c_1, estates_c62, ehi_c62])
      have eO : o_X6_limit_c62 z p1 p2 p3 s0_46 states_c62 hi_c62 := by rw [estates_c62, ehi_c62]; exact eO
      rw [o_X6_limit_c62] at eO
      refine lv_aload_n hx hb dX6_limit_62 rfl (lv_at hl 0 rfl) ?_
      refine lv_iload_n hx hb dX6_limit_63 rfl (lv_at hl 1 rfl) ?_
      refine lv_iconst (v := 3) hx hb dX6_limit_64 (by decide) ?_
      obtain ⟨hv_3, eO⟩ := eO
      refine vm_roVx (v := (f_X6_of z p1 3)) (As := [.int p1, .int 3]) (rest := []) (T := TX6) (N := 11) (wc := [(h0, .inr (6, [.ref h1, .int states_c62, .ref h2, .int ln, .ref h3, .int s0_46, .ref h4, .int rd, .int num, .int due, .long hash])), (h1, .inl (cI, 163, .inl z)), (h2, .inl (cI, 978, .inl hi_c62)), (h3, .inl (cI, 60, .inl tx)), (h4, .inl (cI, 42, .inl pa))]) ⟨hx, hb, hml, hown, hts⟩ hK hN hP hl.1 ⟨Nat.le_of_ble_eq_true rfl, Nat.le_of_ble_eq_true rfl⟩ (c_X6_of l dC dI cI cB h0 h1 h2 h3 h4 states_c62 ln s0_46 rd num due hash z hi_c62 tx pa p1 3 hv_3) (cwV 2 hts gX6_limit_X6_of rfl rfl rfl yd_X6_of ⟨Nat.le_of_ble_eq_true rfl, Nat.le_of_ble_eq_true rfl⟩) [0, 1, 2, 3, 4] rfl 6 rfl rfl rfl rfl (Nat.le_of_ble_eq_true rfl) dX6_limit_65 ?_
      refine lv_istore (lv' := [(4, .int (f_X6_of z p1 3)), (0, .ref h0), (1, .int p1), (2, .int p2), (3, .int p3)]) hx hb dX6_limit_68 hl (by decide) rfl (fun ls hl => ?_)
      refine lv_aload_n hx hb dX6_limit_70 rfl (lv_at hl 1 rfl) ?_
      refine lv_iload_n hx hb dX6_limit_71 rfl (lv_at hl 2 rfl) ?_
      refine lv_iconst (v := 2) hx hb dX6_limit_72 (by decide) ?_
      refine lv_iload_n hx hb dX6_limit_73 rfl (lv_at hl 3 rfl) ?_
      obtain ⟨hv_4, eO⟩ := eO
      refine vm_rwVv (As := [.int p1, .int 2, .int p2]) (rest := []) (T := TX6) (N := 11) (wc := [(h0, .inr (6, [.ref h1, .int states_c62, .ref h2, .int ln, .ref h3, .int s0_46, .ref h4, .int rd, .int num, .int due, .long hash])), (h1, .inl (cI, 163, .inl z)), (h2, .inl (cI, 978, .inl hi_c62)), (h3, .inl (cI, 60, .inl tx)), (h4, .inl (cI, 42, .inl pa))]) (w1 := [(h0, .inr (6, [.ref h1, .int states_c62, .ref h2, .int ln, .ref h3, .int s0_46, .ref h4, .int rd, .int num, .int due, .long hash])), (h1, .inl (cI, 163, .inl (f_X6_put z p1 2 p2))), (h2, .inl (cI, 978, .inl hi_c62)), (h3, .inl (cI, 60, .inl tx)), (h4, .inl (cI, 42, .inl pa))]) ⟨hx, hb, hml, hown, hts⟩ hK hN hP hD hS hA hl.1 ⟨Nat.le_of_ble_eq_true rfl, Nat.le_of_ble_eq_true rfl⟩ (c_X6_put l dC dI cI cB h0 h1 h2 h3 h4 _ states_c62 ln s0_46 rd num due hash z hi_c62 tx pa p1 2 p2 hv_4) (cwV 3 hts gX6_limit_X6_put rfl rfl rfl yd_X6_put ⟨Nat.le_of_ble_eq_true rfl, Nat.le_of_ble_eq_true rfl⟩) [0, 1, 2, 3, 4] rfl rfl rfl 6 rfl rfl rfl rfl (Nat.le_of_ble_eq_true rfl) dX6_limit_74 (fun H locs hP hD hS => ?_)
      have hP : va_P (dC, dI) vwCl [(h0, .inr (6, [.ref h1, .int states_c62, .ref h2, .int ln, .ref h3, .int s0_46, .ref h4, .int rd, .int num, .int due, .long hash])), (h1, .inl (cI, 163, .inl (f_X6_put z p1 2 p2))), (h2, .inl (cI, 978, .inl hi_c62)), (h3, .inl (cI, 60, .inl tx)), (h4, .inl (cI, 42, .inl pa))] H := hP
      have hD : va_D A [(h0, .inr (6, [.ref h1, .int states_c62, .ref h2, .int ln, .ref h3, .int s0_46, .ref h4, .int rd, .int num, .int due, .long hash])), (h1, .inl (cI, 163, .inl (f_X6_put z p1 2 p2))), (h2, .inl (cI, 978, .inl hi_c62)), (h3, .inl (cI, 60, .inl tx)), (h4, .inl (cI, 42, .inl pa))] := hD
      obtain ⟨z_c77, ez_c77⟩ : ∃ zz9, zz9 = (f_X6_put z p1 2 p2) := ⟨_, rfl⟩
      rw [← ez_c77] at hP hD
      have eF : rr = f_X6_limit_c77 z p1 p3 s0_46 states_c62 hi_c62 z_c77 := eF.trans (by rw [f_X6_limit_c62, ez_c77])
      have eO : o_X6_limit_c77 z p1 p3 s0_46 states_c62 hi_c62 z_c77 := by rw [ez_c77]; exact eO
      rw [o_X6_limit_c77] at eO
      refine lv_aload_n hx hb dX6_limit_77 rfl (lv_at hl 1 rfl) ?_
      refine lv_iload_n hx hb dX6_limit_78 rfl (lv_at hl 2 rfl) ?_
      refine lv_iconst (v := 3) hx hb dX6_limit_79 (by decide) ?_
      refine lv_iload_n hx hb dX6_limit_80 rfl (lv_at hl 4 rfl) ?_
      obtain ⟨hv_5, eO⟩ := eO
      refine vm_rwVv (As := [.int p1, .int 3, .int p3]) (rest := []) (T := TX6) (N := 11) (wc := [(h0, .inr (6, [.ref h1, .int states_c62, .ref h2, .int ln, .ref h3, .int s0_46, .ref h4, .int rd, .int num, .int due, .long hash])), (h1, .inl (cI, 163, .inl z_c77)), (h2, .inl (cI, 978, .inl hi_c62)), (h3, .inl (cI, 60, .inl tx)), (h4, .inl (cI, 42, .inl pa))]) (w1 := [(h0, .inr (6, [.ref h1, .int states_c62, .ref h2, .int ln, .ref h3, .int s0_46, .ref h4, .int rd, .int num, .int due, .long hash])), (h1, .inl (cI, 163, .inl (f_X6_put z_c77 p1 3 p3))), (h2, .inl (cI, 978, .inl hi_c62)), (h3, .inl (cI, 60, .inl tx)), (h4, .inl (cI, 42, .inl pa))]) ⟨hx, hb, hml, hown, hts⟩ hK hN hP hD hS hA hl.1 ⟨Nat.le_of_ble_eq_true rfl, Nat.le_of_ble_eq_true rfl⟩ (c_X6_put l dC dI cI cB h0 h1 h2 h3 h4 _ states_c62 ln s0_46 rd num due hash z_c77 hi_c62 tx pa p1 3 p3 hv_5) (cwV 3 hts gX6_limit_X6_put rfl rfl rfl yd_X6_put ⟨Nat.le_of_ble_eq_true rfl, Nat.le_of_ble_eq_true rfl⟩) [0, 1, 2, 3, 4] rfl rfl rfl 6 rfl rfl rfl rfl (Nat.le_of_ble_eq_true rfl) dX6_limit_81 (fun H locs hP hD hS => ?_)
      have hP : va_P (dC, dI) vwCl [(h0, .inr (6, [.ref h1, .int states_c62, .ref h2, .int ln, .ref h3, .int s0_46, .ref h4, .int rd, .int num, .int due, .long hash])), (h1, .inl (cI, 163, .inl (f_X6_put z_c77 p1 3 p3))), (h2, .inl (cI, 978, .inl hi_c62)), (h3, .inl (cI, 60, .inl tx)), (h4, .inl (cI, 42, .inl pa))] H := hP
      have hD : va_D A [(h0, .inr (6, [.ref h1, .int states_c62, .ref h2, .int ln, .ref h3, .int s0_46, .ref h4, .int rd, .int num, .int due, .long hash])), (h1, .inl (cI, 163, .inl (f_X6_put z_c77 p1 3 p3))), (h2, .inl (cI, 978, .inl hi_c62)), (h3, .inl (cI, 60, .inl tx)), (h4, .inl (cI, 42, .inl pa))] := hD
      obtain ⟨z_c84, ez_c84⟩ : ∃ zz9, zz9 = (f_X6_put z_c77 p1 3 p3) := ⟨_, rfl⟩
      rw [← ez_c84] at hP hD
      have eF : rr = f_X6_limit_c84 z p1 s0_46 states_c62 hi_c62 z_c84 := eF.trans (by rw [f_X6_limit_c77, ez_c84])
      have eO : o_X6_limit_c84 z p1 s0_46 states_c62 hi_c62 z_c84 := by rw [ez_c84]; exact eO
      rw [o_X6_limit_c84] at eO
      refine lv_iload hx hb dX6_limit_84 (lv_at hl 0 rfl) ?_
      have e9 : rr = ((f_X6_of z p1 3), states_c62, s0_46, z_c84, hi_c62) := eF.trans (by rw [f_X6_limit_c84])
      exact W.iret (v := (f_X6_of z p1 3)) hx hb hr (fun t ht hW => ⟨⟨_, (), rfl, by rw [e9], (by rw [e9]; show va_P _ _ _ t.heap; rw [ht]; exact hP)⟩, hS.F ht⟩) hS.2.2 dX6_limit_86
    · rw [if_neg c_1] at eO
      refine lv_iconst (v := 0) hx hb dX6_limit_56 (by decide) ?_
      have e9 : rr = (0, states, s0_46, z, hi) := eF.trans (by rw [f_X6_limit_j46, if_neg c_1])
      exact W.iret (v := 0) hx hb hr (fun t ht hW => ⟨⟨_, (), rfl, by rw [e9], (by rw [e9]; show va_P _ _ _ t.heap; rw [ht]; exact hP)⟩, hS.F ht⟩) hS.2.2 dX6_limit_57
  have hJ27 : rr = f_X6_limit_j27 states z hi p1 p2 p3 → o_X6_limit_j27 states z hi p1 p2 p3 → ∀ (H : Heap) (locs : List Loc), va_P (dC, dI) vwCl [(h0, .inr (6, [.ref h1, .int states, .ref h2, .int ln, .ref h3, .int thr, .ref h4, .int rd, .int num, .int due, .long hash])), (h1, .inl (cI, 163, .inl z)), (h2, .inl (cI, 978, .inl hi)), (h3, .inl (cI, 60, .inl tx)), (h4, .inl (cI, 42, .inl pa))] H → va_D A [(h0, .inr (6, [.ref h1, .int states, .ref h2, .int ln, .ref h3, .int thr, .ref h4, .int rd, .int num, .int due, .long hash])), (h1, .inl (cI, 163, .inl z)), (h2, .inl (cI, 978, .inl hi)), (h3, .inl (cI, 60, .inl tx)), (h4, .inl (cI, 42, .inl pa))] → va_S A s.heap H locs → ∀ (ls : Array Slot), lv_has ls 5 [(0, .ref h0), (1, .int p1), (2, .int p2), (3, .int p3)] → W p l e (headSpec wsX6_limit ({ frames := 3, cells := 0, slots := 0, locals := 71 })).room s m ([.ref h0, .int p1, .int p2, .int p3] : List Value).toArray below meth c H locs 0 0 (MQ below (va_Qi (fun (r9 : Int32) (_ : Unit) => r9 = rr.1) (fun _ t => va_P (dC, dI) vwCl [(h0, .inr (6, [.ref h1, .int rr.2.1, .ref h2, .int ln, .ref h3, .int rr.2.2.1, .ref h4, .int rd, .int num, .int due, .long hash])), (h1, .inl (cI, 163, .inl rr.2.2.2.1)), (h2, .inl (cI, 978, .inl rr.2.2.2.2)), (h3, .inl (cI, 60, .inl tx)), (h4, .inl (cI, 42, .inl pa))] t.heap) A) ([.ref h0, .int p1, .int p2, .int p3] : List Value).toArray s 0 0 A) (F0 m 27 ls [.ref h0]) := by
    intro eF eO H locs hP hD hS ls hl
    rw [o_X6_limit_j27] at eO
    refine lv_iconst (v := 2) hx hb dX6_limit_27 (by decide) ?_
    refine lv_goto (tgt := 46) hx hb dX6_limit_28 (by decide) ?_
    exact hJ46 2 (eF.trans (by rw [f_X6_limit_j27])) eO _ _ hP hD hS ls (lv_sub hl [0, 1, 2, 3] rfl)
  rw [o_X6_limit] at eO
  refine lv_aload_n hx hb dX6_limit_0 rfl (lv_at hl 0 rfl) ?_
  refine lv_aload_n hx hb dX6_limit_1 rfl (lv_at hl 0 rfl) ?_
  refine lv_iload_n hx hb dX6_limit_2 rfl (lv_at hl 1 rfl) ?_
  refine vm_roVx (v := vm_bi (f_X6_isMandate z p1)) (As := [.int p1]) (rest := [.ref h0]) (T := TX6) (N := 11) (wc := [(h0, .inr (6, [.ref h1, .int states, .ref h2, .int ln, .ref h3, .int thr, .ref h4, .int rd, .int num, .int due, .long hash])), (h1, .inl (cI, 163, .inl z)), (h2, .inl (cI, 978, .inl hi)), (h3, .inl (cI, 60, .inl tx)), (h4, .inl (cI, 42, .inl pa))]) ⟨hx, hb, hml, hown, hts⟩ hK hN hP hl.1 ⟨Nat.le_of_ble_eq_true rfl, Nat.le_of_ble_eq_true rfl⟩ (c_X6_isMandate l dC dI cI cB h0 h1 h2 h3 h4 states ln thr rd num due hash z hi tx pa p1) (cwV 1 hts gX6_limit_X6_isMandate rfl rfl rfl yd_X6_isMandate ⟨Nat.le_of_ble_eq_true rfl, Nat.le_of_ble_eq_true rfl⟩) [0, 1, 2, 3, 4] rfl 6 rfl rfl rfl rfl (Nat.le_of_ble_eq_true rfl) dX6_limit_3 ?_
  refine lv_if_ne (tgt := 13) hx hb dX6_limit_6 (by decide) (fun c_6 => ?_) (fun c_6 => ?_)
  · rw [if_neg c_6] at eO
    refine lv_iload_n hx hb dX6_limit_13 rfl (lv_at hl 2 rfl) ?_
    refine vm_roSx (v := vm_bi (f_X6_isMoney p2)) (As := [.int p2]) (rest := [.ref h0]) ⟨hx, hb, hml, hown, hts⟩ hK hN hP hl.1 ⟨Nat.le_of_ble_eq_true rfl, Nat.le_of_ble_eq_true rfl⟩ (c_X6_isMoney l dC dI cI cB p2) (va_cwS 1 hts gX6_limit_X6_isMoney rfl rfl rfl yd_X6_isMoney ⟨Nat.le_of_ble_eq_true rfl, Nat.le_of_ble_eq_true rfl⟩) rfl rfl (Nat.le_of_ble_eq_true rfl) dX6_limit_14 ?_
    refine lv_if_eq (tgt := 27) hx hb dX6_limit_17 (by decide) (fun c_7 => ?_) (fun c_7 => ?_)
    · rw [if_pos c_7] at eO
      exact hJ27 (eF.trans (by rw [f_X6_limit, if_neg c_6, if_pos c_7])) eO _ _ hP hD hS ls (lv_sub hl [0, 1, 2, 3] rfl)
    · rw [if_neg c_7] at eO
      refine lv_iload_n hx hb dX6_limit_20 rfl (lv_at hl 3 rfl) ?_
      refine vm_roSx (v := vm_bi (f_X6_isMoney p3)) (As := [.int p3]) (rest := [.ref h0]) ⟨hx, hb, hml, hown, hts⟩ hK hN hP hl.1 ⟨Nat.le_of_ble_eq_true rfl, Nat.le_of_ble_eq_true rfl⟩ (c_X6_isMoney l dC dI cI cB p3) (va_cwS 1 hts gX6_limit_X6_isMoney rfl rfl rfl yd_X6_isMoney ⟨Nat.le_of_ble_eq_true rfl, Nat.le_of_ble_eq_true rfl⟩) rfl rfl (Nat.le_of_ble_eq_true rfl) dX6_limit_21 ?_
      refine lv_if_ne (tgt := 31) hx hb dX6_limit_24 (by decide) (fun c_8 => ?_) (fun c_8 => ?_)
      · rw [if_neg c_8] at eO
        refine lv_aload_n hx hb dX6_limit_31 rfl (lv_at hl 0 rfl) ?_
        refine lv_iload_n hx hb dX6_limit_32 rfl (lv_at hl 1 rfl) ?_
        refine lv_iload_n hx hb dX6_limit_33 rfl (lv_at hl 2 rfl) ?_
        refine lv_iload_n hx hb dX6_limit_34 rfl (lv_at hl 3 rfl) ?_
        obtain ⟨hv_9, eO⟩ := eO
        refine vm_roVx (v := vm_bi (f_X6_canLimit z p1 p2 p3)) (As := [.int p1, .int p2, .int p3]) (rest := [.ref h0]) (T := TX6) (N := 11) (wc := [(h0, .inr (6, [.ref h1, .int states, .ref h2, .int ln, .ref h3, .int thr, .ref h4, .int rd, .int num, .int due, .long hash])), (h1, .inl (cI, 163, .inl z)), (h2, .inl (cI, 978, .inl hi)), (h3, .inl (cI, 60, .inl tx)), (h4, .inl (cI, 42, .inl pa))]) ⟨hx, hb, hml, hown, hts⟩ hK hN hP hl.1 ⟨Nat.le_of_ble_eq_true rfl, Nat.le_of_ble_eq_true rfl⟩ (c_X6_canLimit l dC dI cI cB h0 h1 h2 h3 h4 states ln thr rd num due hash z hi tx pa p1 p2 p3 hv_9) (cwV 3 hts gX6_limit_X6_canLimit rfl rfl rfl yd_X6_canLimit ⟨Nat.le_of_ble_eq_true rfl, Nat.le_of_ble_eq_true rfl⟩) [0, 1, 2, 3, 4] rfl 6 rfl rfl rfl rfl (Nat.le_of_ble_eq_true rfl) dX6_limit_35 ?_
        refine lv_if_eq (tgt := 45) hx hb dX6_limit_38 (by decide) (fun c_10 => ?_) (fun c_10 => ?_)
        · rw [if_pos c_10] at eO
          refine lv_iconst (v := 3) hx hb dX6_limit_45 (by decide) ?_
          exact hJ46 3 (eF.trans (by rw [f_X6_limit, if_neg c_6, if_neg c_7, if_neg c_8, if_pos c_10])) eO _ _ hP hD hS ls (lv_sub hl [0, 1, 2, 3] rfl)
        · rw [if_neg c_10] at eO
          refine lv_iconst (v := 0) hx hb dX6_limit_41 (by decide) ?_
          refine lv_goto (tgt := 46) hx hb dX6_limit_42 (by decide) ?_
          exact hJ46 0 (eF.trans (by rw [f_X6_limit, if_neg c_6, if_neg c_7, if_neg c_8, if_neg c_10])) eO _ _ hP hD hS ls (lv_sub hl [0, 1, 2, 3] rfl)
      · rw [if_pos c_8] at eO
        exact hJ27 (eF.trans (by rw [f_X6_limit, if_neg c_6, if_neg c_7, if_pos c_8])) eO _ _ hP hD hS ls (lv_sub hl [0, 1, 2, 3] rfl)
  · rw [if_pos c_6] at eO
    refine lv_iconst (v := 1) hx hb dX6_limit_9 (by decide) ?_
    refine lv_goto (tgt := 46) hx hb dX6_limit_10 (by decide) ?_
    exact hJ46 1 (eF.trans (by rw [f_X6_limit, if_pos c_6])) eO _ _ hP hD hS ls (lv_sub hl [0, 1, 2, 3] rfl)

def f_X6_need_c69 (z : Nat → Int32) (p1 : Int32) (s0_39 : Int32) (states_c55 : Int32) (hi_c55 : Nat → Int32) (z_c69 : Nat → Int32) : Int32 × Int32 × Int32 × (Nat → Int32) × (Nat → Int32) :=
  ((f_X6_of z p1 4), states_c55, s0_39, z_c69, hi_c55)
def f_X6_need_c55 (z : Nat → Int32) (p1 : Int32) (p2 : Int32) (s0_39 : Int32) (states_c55 : Int32) (hi_c55 : Nat → Int32) : Int32 × Int32 × Int32 × (Nat → Int32) × (Nat → Int32) :=
  f_X6_need_c69 z p1 s0_39 states_c55 hi_c55 (f_X6_put z p1 4 p2)
def f_X6_need_j39 (states : Int32) (z : Nat → Int32) (hi : Nat → Int32) (p1 : Int32) (p2 : Int32) (s0_39 : Int32) : Int32 × Int32 × Int32 × (Nat → Int32) × (Nat → Int32) :=
  if s0_39 ≤ 0 then
    f_X6_need_c55 z p1 p2 s0_39 ((f_X6_save states z hi).1) ((f_X6_save states z hi).2)
  else
    (0, states, s0_39, z, hi)
def f_X6_need (states : Int32) (z : Nat → Int32) (hi : Nat → Int32) (p1 : Int32) (p2 : Int32) : Int32 × Int32 × Int32 × (Nat → Int32) × (Nat → Int32) :=
  if (vm_bi (f_X6_isMandate z p1)) = 0 then
    f_X6_need_j39 states z hi p1 p2 1
  else
    if (vm_bi (f_X6_within p2 0 3)) = 0 then
      f_X6_need_j39 states z hi p1 p2 2
    else
      if (vm_bi (f_X6_stands z p1)) = 0 then
        f_X6_need_j39 states z hi p1 p2 3
      else
        f_X6_need_j39 states z hi p1 p2 0
def o_X6_need_c69 (z : Nat → Int32) (p1 : Int32) (s0_39 : Int32) (states_c55 : Int32) (hi_c55 : Nat → Int32) (z_c69 : Nat → Int32) : Prop :=
  True
def o_X6_need_c55 (z : Nat → Int32) (p1 : Int32) (p2 : Int32) (s0_39 : Int32) (states_c55 : Int32) (hi_c55 : Nat → Int32) : Prop :=
  o_X6_of z p1 4 ∧
  (o_X6_put z p1 4 p2 ∧
  (o_X6_need_c69 z p1 s0_39 states_c55 hi_c55 (f_X6_put z p1 4 p2)))
def o_X6_need_j39 (states : Int32) (z : Nat → Int32) (hi : Nat → Int32) (p1 : Int32) (p2 : Int32) (s0_39 : Int32) : Prop :=
  if s0_39 ≤ 0 then
    o_X6_save states z hi ∧
    (o_X6_need_c55 z p1 p2 s0_39 ((f_X6_save states z hi).1) ((f_X6_save states z hi).2))
  else
    True
def o_X6_need (states : Int32) (z : Nat → Int32) (hi : Nat → Int32) (p1 : Int32) (p2 : Int32) : Prop :=
  if (vm_bi (f_X6_isMandate z p1)) = 0 then
    o_X6_need_j39 states z hi p1 p2 1
  else
    if (vm_bi (f_X6_within p2 0 3)) = 0 then
      o_X6_need_j39 states z hi p1 p2 2
    else
      o_X6_stands z p1 ∧
      (if (vm_bi (f_X6_stands z p1)) = 0 then
        o_X6_need_j39 states z hi p1 p2 3
      else
        o_X6_need_j39 states z hi p1 p2 0)
theorem yd_X6_need : yX6_need.cls = RX6 ∧ yX6_need.cls ≠ "java/lang/invoke/MethodHandle" ∧ yX6_need.cls ≠ "java/lang/invoke/VarHandle" ∧ (parseMethodDescriptor yX6_need.desc).map (fun d => d.parameters.length) = some 2 := by decide +kernel
set_option maxHeartbeats 4000000 in
set_option maxRecDepth 100000 in
theorem c_X6_need (l : Launch) (dC : Nat → ClassId) (dI : Nat → Nat → Nat) (cI cB : ClassId) (h0 h1 h2 h3 h4 : Nat) (sz : Nat) (states : Int32) (ln : Int32) (thr : Int32) (rd : Int32) (num : Int32) (due : Int32) (hash : Int64) (z : Nat → Int32) (hi : Nat → Int32) (tx : Nat → Int32) (pa : Nat → Int32) (p1 : Int32) (p2 : Int32) (eO : o_X6_need states z hi p1 p2) : Met l yX6_need wsX6_need ({ frames := 2, cells := 0, slots := 0, locals := 43 }) (vm_prw [.ref h0, .int p1, .int p2] (dC, dI) [(h0, .inr (6, [.ref h1, .int states, .ref h2, .int ln, .ref h3, .int thr, .ref h4, .int rd, .int num, .int due, .long hash])), (h1, .inl (cI, 163, .inl z)), (h2, .inl (cI, 978, .inl hi)), (h3, .inl (cI, 60, .inl tx)), (h4, .inl (cI, 42, .inl pa))] cI cB sz) (va_Qi (fun (r9 : Int32) (_ : Unit) => r9 = (f_X6_need states z hi p1 p2).1) (fun _ t => va_P (dC, dI) vwCl [(h0, .inr (6, [.ref h1, .int ((f_X6_need states z hi p1 p2).2.1), .ref h2, .int ln, .ref h3, .int ((f_X6_need states z hi p1 p2).2.2.1), .ref h4, .int rd, .int num, .int due, .long hash])), (h1, .inl (cI, 163, .inl ((f_X6_need states z hi p1 p2).2.2.2.1))), (h2, .inl (cI, 978, .inl ((f_X6_need states z hi p1 p2).2.2.2.2))), (h3, .inl (cI, 60, .inl tx)), (h4, .inl (cI, 42, .inl pa))] t.heap) (va_A [(h0, .inr (6, [.ref h1, .int states, .ref h2, .int ln, .ref h3, .int thr, .ref h4, .int rd, .int num, .int due, .long hash])), (h1, .inl (cI, 163, .inl z)), (h2, .inl (cI, 978, .inl hi)), (h3, .inl (cI, 60, .inl tx)), (h4, .inl (cI, 42, .inl pa))] sz)) 0 0 (va_A [(h0, .inr (6, [.ref h1, .int states, .ref h2, .int ln, .ref h3, .int thr, .ref h4, .int rd, .int num, .int due, .long hash])), (h1, .inl (cI, 163, .inl z)), (h2, .inl (cI, 978, .inl hi)), (h3, .inl (cI, 60, .inl tx)), (h4, .inl (cI, 42, .inl pa))] sz) := by
  refine Met.ofW (cc := cX6_need) (maxL := 4) (ret := (some .int)) (by decide) rfl ?_
  intro p e s m args below meth c s₁ B hml hv
  obtain ⟨rfl, hsz, hP, hK, hN, hD0⟩ := hv
  have hx := B.exec
  have hb := B.bytes
  have hr := B.returns
  have hts := atoms_spec (ws := wsX6_need) B.pre
  have hown : s.vm.findClass RX6 = some m.cls := findClass_of_methodNamed B.named
  have hlocks := B.notSynchronized
  subst hsz
  have hD := hD0.self (sz := s.heap.size)
  generalize hAe : va_A [(h0, .inr (6, [.ref h1, .int states, .ref h2, .int ln, .ref h3, .int thr, .ref h4, .int rd, .int num, .int due, .long hash])), (h1, .inl (cI, 163, .inl z)), (h2, .inl (cI, 978, .inl hi)), (h3, .inl (cI, 60, .inl tx)), (h4, .inl (cI, 42, .inl pa))] s.heap.size = A at hD ⊢
  have hA : ∀ q : Nat, s.heap.size ≤ q → A q := fun q h => by rw [← hAe]; exact Or.inr h
  have hS : va_S A s.heap s.heap [] := va_S.rf
  have hP : va_P (dC, dI) vwCl [(h0, .inr (6, [.ref h1, .int states, .ref h2, .int ln, .ref h3, .int thr, .ref h4, .int rd, .int num, .int due, .long hash])), (h1, .inl (cI, 163, .inl z)), (h2, .inl (cI, 978, .inl hi)), (h3, .inl (cI, 60, .inl tx)), (h4, .inl (cI, 42, .inl pa))] s.heap := hP
  have kw1 := hts (.fieldLink RX6 22 "LapseMandatesModel" "thrown" "I") (List.mem_of_getElem? (i := 1) rfl)
  have iwsX60 : ∀ w ∈ wsX60, w ∈ wsX6_need := fun w h => List.mem_cons_of_mem _ (List.mem_append_right _ h)
  generalize hrr : f_X6_need states z hi p1 p2 = rr
  have eF := hrr.symm
  have hl := lv_entry ([.ref h0, .int p1, .int p2]) (n := 4) (Nat.le_of_ble_eq_true rfl)
  rw [lg_entry_eq]
  generalize (lg_sl ([.ref h0, .int p1, .int p2]) ++ List.replicate (4 - (lg_sl ([.ref h0, .int p1, .int p2])).length) Slot.unset).toArray = ls at hl ⊢
  have hl : lv_has ls 4 [(0, .ref h0), (1, .int p1), (2, .int p2)] := hl
  have hJ39 : ∀ (s0_39 : Int32), rr = f_X6_need_j39 states z hi p1 p2 s0_39 → o_X6_need_j39 states z hi p1 p2 s0_39 → ∀ (H : Heap) (locs : List Loc), va_P (dC, dI) vwCl [(h0, .inr (6, [.ref h1, .int states, .ref h2, .int ln, .ref h3, .int thr, .ref h4, .int rd, .int num, .int due, .long hash])), (h1, .inl (cI, 163, .inl z)), (h2, .inl (cI, 978, .inl hi)), (h3, .inl (cI, 60, .inl tx)), (h4, .inl (cI, 42, .inl pa))] H → va_D A [(h0, .inr (6, [.ref h1, .int states, .ref h2, .int ln, .ref h3, .int thr, .ref h4, .int rd, .int num, .int due, .long hash])), (h1, .inl (cI, 163, .inl z)), (h2, .inl (cI, 978, .inl hi)), (h3, .inl (cI, 60, .inl tx)), (h4, .inl (cI, 42, .inl pa))] → va_S A s.heap H locs → ∀ (ls : Array Slot), lv_has ls 4 [(0, .ref h0), (1, .int p1), (2, .int p2)] → W p l e (headSpec wsX6_need ({ frames := 2, cells := 0, slots := 0, locals := 43 })).room s m ([.ref h0, .int p1, .int p2] : List Value).toArray below meth c H locs 0 0 (MQ below (va_Qi (fun (r9 : Int32) (_ : Unit) => r9 = rr.1) (fun _ t => va_P (dC, dI) vwCl [(h0, .inr (6, [.ref h1, .int rr.2.1, .ref h2, .int ln, .ref h3, .int rr.2.2.1, .ref h4, .int rd, .int num, .int due, .long hash])), (h1, .inl (cI, 163, .inl rr.2.2.2.1)), (h2, .inl (cI, 978, .inl rr.2.2.2.2)), (h3, .inl (cI, 60, .inl tx)), (h4, .inl (cI, 42, .inl pa))] t.heap) A) ([.ref h0, .int p1, .int p2] : List Value).toArray s 0 0 A) (F0 m 39 ls [.int s0_39, .ref h0]) := by
    intro s0_39 eF eO H locs hP hD hS ls hl
    rw [o_X6_need_j39] at eO
    refine va_put (D := (dC, dI)) (ci := 6) (v := .int s0_39) (ty := .int) (C := RX6) (T := TX6) (N := 11) hx hb hts iwsX60 tyX6 tyX6_ok nmX6 hown hK hP hD hS 0 rfl rfl 5 (by decide) kw1 (fun _ h9 => h9) rfl (by decide +kernel) rfl rfl (Nat.le_of_ble_eq_true rfl) dX6_need_39 (fun H locs hP hD hS => ?_)
    have hP : va_P (dC, dI) vwCl [(h0, .inr (6, [.ref h1, .int states, .ref h2, .int ln, .ref h3, .int s0_39, .ref h4, .int rd, .int num, .int due, .long hash])), (h1, .inl (cI, 163, .inl z)), (h2, .inl (cI, 978, .inl hi)), (h3, .inl (cI, 60, .inl tx)), (h4, .inl (cI, 42, .inl pa))] H := hP
    have hD : va_D A [(h0, .inr (6, [.ref h1, .int states, .ref h2, .int ln, .ref h3, .int s0_39, .ref h4, .int rd, .int num, .int due, .long hash])), (h1, .inl (cI, 163, .inl z)), (h2, .inl (cI, 978, .inl hi)), (h3, .inl (cI, 60, .inl tx)), (h4, .inl (cI, 42, .inl pa))] := hD
    refine lv_aload_n hx hb dX6_need_42 rfl (lv_at hl 0 rfl) ?_
    refine va_get (D := (dC, dI)) (ci := 6) (v := .int s0_39) (C := RX6) (T := TX6) (N := 11) hx hb hts iwsX60 hown hK hP 0 rfl rfl 5 (by decide) kw1 (fun _ h9 => h9) rfl dX6_need_43 ?_
    refine lv_if_le (tgt := 51) hx hb dX6_need_46 (by decide) (fun c_1 => ?_) (fun c_1 => ?_)
    · rw [if_pos c_1] at eO
      refine lv_aload_n hx hb dX6_need_51 rfl (lv_at hl 0 rfl) ?_
      obtain ⟨hv_2, eO⟩ := eO
      refine vm_rwVv (As := []) (rest := []) (T := TX6) (N := 11) (wc := [(h0, .inr (6, [.ref h1, .int states, .ref h2, .int ln, .ref h3, .int s0_39, .ref h4, .int rd, .int num, .int due, .long hash])), (h1, .inl (cI, 163, .inl z)), (h2, .inl (cI, 978, .inl hi)), (h3, .inl (cI, 60, .inl tx)), (h4, .inl (cI, 42, .inl pa))]) (w1 := [(h0, .inr (6, [.ref h1, .int ((f_X6_save states z hi).1), .ref h2, .int ln, .ref h3, .int s0_39, .ref h4, .int rd, .int num, .int due, .long hash])), (h1, .inl (cI, 163, .inl z)), (h2, .inl (cI, 978, .inl ((f_X6_save states z hi).2))), (h3, .inl (cI, 60, .inl tx)), (h4, .inl (cI, 42, .inl pa))]) ⟨hx, hb, hml, hown, hts⟩ hK hN hP hD hS hA hl.1 ⟨Nat.le_of_ble_eq_true rfl, Nat.le_of_ble_eq_true rfl⟩ (c_X6_save l dC dI cI cB h0 h1 h2 h3 h4 _ states ln s0_39 rd num due hash z hi tx pa hv_2) (cwV 0 hts gX6_need_X6_save rfl rfl rfl yd_X6_save ⟨Nat.le_of_ble_eq_true rfl, Nat.le_of_ble_eq_true rfl⟩) [0, 1, 2, 3, 4] rfl rfl rfl 6 rfl rfl rfl rfl (Nat.le_of_ble_eq_true rfl) dX6_need_52 (fun H locs hP hD hS => ?_)
      have hP : va_P (dC, dI) vwCl [(h0, .inr (6, [.ref h1, .int ((f_X6_save states z hi).1), .ref h2, .int ln, .ref h3, .int s0_39, .ref h4, .int rd, .int num, .int due, .long hash])), (h1, .inl (cI, 163, .inl z)), (h2, .inl (cI, 978, .inl ((f_X6_save states z hi).2))), (h3, .inl (cI, 60, .inl tx)), (h4, .inl (cI, 42, .inl pa))] H := hP
      have hD : va_D A [(h0, .inr (6, [.ref h1, .int ((f_X6_save states z hi).1), .ref h2, .int ln, .ref h3, .int s0_39, .ref h4, .int rd, .int num, .int due, .long hash])), (h1, .inl (cI, 163, .inl z)), (h2, .inl (cI, 978, .inl ((f_X6_save states z hi).2))), (h3, .inl (cI, 60, .inl tx)), (h4, .inl (cI, 42, .inl pa))] := hD
      obtain ⟨states_c55, estates_c55⟩ : ∃ zz9, zz9 = (f_X6_save states z hi).1 := ⟨_, rfl⟩
      rw [← estates_c55] at hP hD
      obtain ⟨hi_c55, ehi_c55⟩ : ∃ zz9, zz9 = (f_X6_save states z hi).2 := ⟨_, rfl⟩
      rw [← ehi_c55] at hP hD
      have eF : rr = f_X6_need_c55 z p1 p2 s0_39 states_c55 hi_c55 := eF.trans (by rw [f_X6_need_j39, if_pos c_1, estates_c55, ehi_c55])
      have eO : o_X6_need_c55 z p1 p2 s0_39 states_c55 hi_c55 := by rw [estates_c55, ehi_c55]; exact eO
      rw [o_X6_need_c55] at eO
      refine lv_aload_n hx hb dX6_need_55 rfl (lv_at hl 0 rfl) ?_
      refine lv_iload_n hx hb dX6_need_56 rfl (lv_at hl 1 rfl) ?_
      refine lv_iconst (v := 4) hx hb dX6_need_57 (by decide) ?_
      obtain ⟨hv_3, eO⟩ := eO
      refine vm_roVx (v := (f_X6_of z p1 4)) (As := [.int p1, .int 4]) (rest := []) (T := TX6) (N := 11) (wc := [(h0, .inr (6, [.ref h1, .int states_c55, .ref h2, .int ln, .ref h3, .int s0_39, .ref h4, .int rd, .int num, .int due, .long hash])), (h1, .inl (cI, 163, .inl z)), (h2, .inl (cI, 978, .inl hi_c55)), (h3, .inl (cI, 60, .inl tx)), (h4, .inl (cI, 42, .inl pa))]) ⟨hx, hb, hml, hown, hts⟩ hK hN hP hl.1 ⟨Nat.le_of_ble_eq_true rfl, Nat.le_of_ble_eq_true rfl⟩ (c_X6_of l dC dI cI cB h0 h1 h2 h3 h4 states_c55 ln s0_39 rd num due hash z hi_c55 tx pa p1 4 hv_3) (cwV 2 hts gX6_need_X6_of rfl rfl rfl yd_X6_of ⟨Nat.le_of_ble_eq_true rfl, Nat.le_of_ble_eq_true rfl⟩) [0, 1, 2, 3, 4] rfl 6 rfl rfl rfl rfl (Nat.le_of_ble_eq_true rfl) dX6_need_58 ?_
      refine lv_istore_n (lv' := [(3, .int (f_X6_of z p1 4)), (0, .ref h0), (1, .int p1), (2, .int p2)]) hx hb dX6_need_61 rfl hl (by decide) rfl (fun ls hl => ?_)
      refine lv_aload_n hx hb dX6_need_62 rfl (lv_at hl 1 rfl) ?_
      refine lv_iload_n hx hb dX6_need_63 rfl (lv_at hl 2 rfl) ?_
      refine lv_iconst (v := 4) hx hb dX6_need_64 (by decide) ?_
      refine lv_iload_n hx hb dX6_need_65 rfl (lv_at hl 3 rfl) ?_
      obtain ⟨hv_4, eO⟩ := eO
      refine vm_rwVv (As := [.int p1, .int 4, .int p2]) (rest := []) (T := TX6) (N := 11) (wc := [(h0, .inr (6, [.ref h1, .int states_c55, .ref h2, .int ln, .ref h3, .int s0_39, .ref h4, .int rd, .int num, .int due, .long hash])), (h1, .inl (cI, 163, .inl z)), (h2, .inl (cI, 978, .inl hi_c55)), (h3, .inl (cI, 60, .inl tx)), (h4, .inl (cI, 42, .inl pa))]) (w1 := [(h0, .inr (6, [.ref h1, .int states_c55, .ref h2, .int ln, .ref h3, .int s0_39, .ref h4, .int rd, .int num, .int due, .long hash])), (h1, .inl (cI, 163, .inl (f_X6_put z p1 4 p2))), (h2, .inl (cI, 978, .inl hi_c55)), (h3, .inl (cI, 60, .inl tx)), (h4, .inl (cI, 42, .inl pa))]) ⟨hx, hb, hml, hown, hts⟩ hK hN hP hD hS hA hl.1 ⟨Nat.le_of_ble_eq_true rfl, Nat.le_of_ble_eq_true rfl⟩ (c_X6_put l dC dI cI cB h0 h1 h2 h3 h4 _ states_c55 ln s0_39 rd num due hash z hi_c55 tx pa p1 4 p2 hv_4) (cwV 3 hts gX6_need_X6_put rfl rfl rfl yd_X6_put ⟨Nat.le_of_ble_eq_true rfl, Nat.le_of_ble_eq_true rfl⟩) [0, 1, 2, 3, 4] rfl rfl rfl 6 rfl rfl rfl rfl (Nat.le_of_ble_eq_true rfl) dX6_need_66 (fun H locs hP hD hS => ?_)
      have hP : va_P (dC, dI) vwCl [(h0, .inr (6, [.ref h1, .int states_c55, .ref h2, .int ln, .ref h3, .int s0_39, .ref h4, .int rd, .int num, .int due, .long hash])), (h1, .inl (cI, 163, .inl (f_X6_put z p1 4 p2))), (h2, .inl (cI, 978, .inl hi_c55)), (h3, .inl (cI, 60, .inl tx)), (h4, .inl (cI, 42, .inl pa))] H := hP
      have hD : va_D A [(h0, .inr (6, [.ref h1, .int states_c55, .ref h2, .int ln, .ref h3, .int s0_39, .ref h4, .int rd, .int num, .int due, .long hash])), (h1, .inl (cI, 163, .inl (f_X6_put z p1 4 p2))), (h2, .inl (cI, 978, .inl hi_c55)), (h3, .inl (cI, 60, .inl tx)), (h4, .inl (cI, 42, .inl pa))] := hD
      obtain ⟨z_c69, ez_c69⟩ : ∃ zz9, zz9 = (f_X6_put z p1 4 p2) := ⟨_, rfl⟩
      rw [← ez_c69] at hP hD
      have eF : rr = f_X6_need_c69 z p1 s0_39 states_c55 hi_c55 z_c69 := eF.trans (by rw [f_X6_need_c55, ez_c69])
      have eO : o_X6_need_c69 z p1 s0_39 states_c55 hi_c55 z_c69 := by rw [ez_c69]; exact eO
      rw [o_X6_need_c69] at eO
      refine lv_iload_n hx hb dX6_need_69 rfl (lv_at hl 0 rfl) ?_
      have e9 : rr = ((f_X6_of z p1 4), states_c55, s0_39, z_c69, hi_c55) := eF.trans (by rw [f_X6_need_c69])
      exact W.iret (v := (f_X6_of z p1 4)) hx hb hr (fun t ht hW => ⟨⟨_, (), rfl, by rw [e9], (by rw [e9]; show va_P _ _ _ t.heap; rw [ht]; exact hP)⟩, hS.F ht⟩) hS.2.2 dX6_need_70
    · rw [if_neg c_1] at eO
      refine lv_iconst (v := 0) hx hb dX6_need_49 (by decide) ?_
      have e9 : rr = (0, states, s0_39, z, hi) := eF.trans (by rw [f_X6_need_j39, if_neg c_1])
      exact W.iret (v := 0) hx hb hr (fun t ht hW => ⟨⟨_, (), rfl, by rw [e9], (by rw [e9]; show va_P _ _ _ t.heap; rw [ht]; exact hP)⟩, hS.F ht⟩) hS.2.2 dX6_need_50
  rw [o_X6_need] at eO
  refine lv_aload_n hx hb dX6_need_0 rfl (lv_at hl 0 rfl) ?_
  refine lv_aload_n hx hb dX6_need_1 rfl (lv_at hl 0 rfl) ?_
  refine lv_iload_n hx hb dX6_need_2 rfl (lv_at hl 1 rfl) ?_
  refine vm_roVx (v := vm_bi (f_X6_isMandate z p1)) (As := [.int p1]) (rest := [.ref h0]) (T := TX6) (N := 11) (wc := [(h0, .inr (6, [.ref h1, .int states, .ref h2, .int ln, .ref h3, .int thr, .ref h4, .int rd, .int num, .int due, .long hash])), (h1, .inl (cI, 163, .inl z)), (h2, .inl (cI, 978, .inl hi)), (h3, .inl (cI, 60, .inl tx)), (h4, .inl (cI, 42, .inl pa))]) ⟨hx, hb, hml, hown, hts⟩ hK hN hP hl.1 ⟨Nat.le_of_ble_eq_true rfl, Nat.le_of_ble_eq_true rfl⟩ (c_X6_isMandate l dC dI cI cB h0 h1 h2 h3 h4 states ln thr rd num due hash z hi tx pa p1) (cwV 1 hts gX6_need_X6_isMandate rfl rfl rfl yd_X6_isMandate ⟨Nat.le_of_ble_eq_true rfl, Nat.le_of_ble_eq_true rfl⟩) [0, 1, 2, 3, 4] rfl 6 rfl rfl rfl rfl (Nat.le_of_ble_eq_true rfl) dX6_need_3 ?_
  refine lv_if_ne (tgt := 13) hx hb dX6_need_6 (by decide) (fun c_5 => ?_) (fun c_5 => ?_)
  · rw [if_neg c_5] at eO
    refine lv_iload_n hx hb dX6_need_13 rfl (lv_at hl 2 rfl) ?_
    refine lv_iconst (v := 0) hx hb dX6_need_14 (by decide) ?_
    refine lv_iconst (v := 3) hx hb dX6_need_15 (by decide) ?_
    refine vm_roSx (v := vm_bi (f_X6_within p2 0 3)) (As := [.int p2, .int 0, .int 3]) (rest := [.ref h0]) ⟨hx, hb, hml, hown, hts⟩ hK hN hP hl.1 ⟨Nat.le_of_ble_eq_true rfl, Nat.le_of_ble_eq_true rfl⟩ (c_X6_within l dC dI cI cB p2 0 3) (va_cwS 3 hts gX6_need_X6_within rfl rfl rfl yd_X6_within ⟨Nat.le_of_ble_eq_true rfl, Nat.le_of_ble_eq_true rfl⟩) rfl rfl (Nat.le_of_ble_eq_true rfl) dX6_need_16 ?_
    refine lv_if_ne (tgt := 26) hx hb dX6_need_19 (by decide) (fun c_6 => ?_) (fun c_6 => ?_)
    · rw [if_neg c_6] at eO
      refine lv_aload_n hx hb dX6_need_26 rfl (lv_at hl 0 rfl) ?_
      refine lv_iload_n hx hb dX6_need_27 rfl (lv_at hl 1 rfl) ?_
      obtain ⟨hv_7, eO⟩ := eO
      refine vm_roVx (v := vm_bi (f_X6_stands z p1)) (As := [.int p1]) (rest := [.ref h0]) (T := TX6) (N := 11) (wc := [(h0, .inr (6, [.ref h1, .int states, .ref h2, .int ln, .ref h3, .int thr, .ref h4, .int rd, .int num, .int due, .long hash])), (h1, .inl (cI, 163, .inl z)), (h2, .inl (cI, 978, .inl hi)), (h3, .inl (cI, 60, .inl tx)), (h4, .inl (cI, 42, .inl pa))]) ⟨hx, hb, hml, hown, hts⟩ hK hN hP hl.1 ⟨Nat.le_of_ble_eq_true rfl, Nat.le_of_ble_eq_true rfl⟩ (c_X6_stands l dC dI cI cB h0 h1 h2 h3 h4 states ln thr rd num due hash z hi tx pa p1 hv_7) (cwV 1 hts gX6_need_X6_stands rfl rfl rfl yd_X6_stands ⟨Nat.le_of_ble_eq_true rfl, Nat.le_of_ble_eq_true rfl⟩) [0, 1, 2, 3, 4] rfl 6 rfl rfl rfl rfl (Nat.le_of_ble_eq_true rfl) dX6_need_28 ?_
      refine lv_if_eq (tgt := 38) hx hb dX6_need_31 (by decide) (fun c_8 => ?_) (fun c_8 => ?_)
      · rw [if_pos c_8] at eO
        refine lv_iconst (v := 3) hx hb dX6_need_38 (by decide) ?_
        exact hJ39 3 (eF.trans (by rw [f_X6_need, if_neg c_5, if_neg c_6, if_pos c_8])) eO _ _ hP hD hS ls (lv_sub hl [0, 1, 2] rfl)
      · rw [if_neg c_8] at eO
        refine lv_iconst (v := 0) hx hb dX6_need_34 (by decide) ?_
        refine lv_goto (tgt := 39) hx hb dX6_need_35 (by decide) ?_
        exact hJ39 0 (eF.trans (by rw [f_X6_need, if_neg c_5, if_neg c_6, if_neg c_8])) eO _ _ hP hD hS ls (lv_sub hl [0, 1, 2] rfl)
    · rw [if_pos c_6] at eO
      refine lv_iconst (v := 2) hx hb dX6_need_22 (by decide) ?_
      refine lv_goto (tgt := 39) hx hb dX6_need_23 (by decide) ?_
      exact hJ39 2 (eF.trans (by rw [f_X6_need, if_neg c_5, if_pos c_6])) eO _ _ hP hD hS ls (lv_sub hl [0, 1, 2] rfl)
  · rw [if_pos c_5] at eO
    refine lv_iconst (v := 1) hx hb dX6_need_9 (by decide) ?_
    refine lv_goto (tgt := 39) hx hb dX6_need_10 (by decide) ?_
    exact hJ39 1 (eF.trans (by rw [f_X6_need, if_pos c_5])) eO _ _ hP hD hS ls (lv_sub hl [0, 1, 2] rfl)

def f_X6_reason (z : Nat → Int32) (p1 : Int32) (p2 : Int32) : Int32 :=
  if (vm_bi (f_X6_stands z p1)) = 0 then
    1
  else
    if p2 ≤ (f_X6_of z p1 2) then
      if p2 ≤ (f_X6_gapOf z (f_X6_narrowestOf z p1)) then
        0
      else
        3
    else
      2
def o_X6_reason (z : Nat → Int32) (p1 : Int32) (p2 : Int32) : Prop :=
  o_X6_stands z p1 ∧
  (if (vm_bi (f_X6_stands z p1)) = 0 then
    True
  else
    o_X6_of z p1 2 ∧
    (if p2 ≤ (f_X6_of z p1 2) then
      o_X6_narrowestOf z p1 ∧
      (o_X6_gapOf z (f_X6_narrowestOf z p1) ∧
      (if p2 ≤ (f_X6_gapOf z (f_X6_narrowestOf z p1)) then
        True
      else
        True))
    else
      True))
theorem yd_X6_reason : yX6_reason.cls = RX6 ∧ yX6_reason.cls ≠ "java/lang/invoke/MethodHandle" ∧ yX6_reason.cls ≠ "java/lang/invoke/VarHandle" ∧ (parseMethodDescriptor yX6_reason.desc).map (fun d => d.parameters.length) = some 2 := by decide +kernel
set_option maxHeartbeats 4000000 in
set_option maxRecDepth 100000 in
theorem c_X6_reason (l : Launch) (dC : Nat → ClassId) (dI : Nat → Nat → Nat) (cI cB : ClassId) (h0 h1 h2 h3 h4 : Nat) (states : Int32) (ln : Int32) (thr : Int32) (rd : Int32) (num : Int32) (due : Int32) (hash : Int64) (z : Nat → Int32) (hi : Nat → Int32) (tx : Nat → Int32) (pa : Nat → Int32) (p1 : Int32) (p2 : Int32) (eO : o_X6_reason z p1 p2) : Met l yX6_reason wsX6_reason ({ frames := 3, cells := 0, slots := 0, locals := 66 }) (vm_pre [.ref h0, .int p1, .int p2] (dC, dI) [(h0, .inr (6, [.ref h1, .int states, .ref h2, .int ln, .ref h3, .int thr, .ref h4, .int rd, .int num, .int due, .long hash])), (h1, .inl (cI, 163, .inl z)), (h2, .inl (cI, 978, .inl hi)), (h3, .inl (cI, 60, .inl tx)), (h4, .inl (cI, 42, .inl pa))] cI cB) (vp_Si (fun r9 : Int32 => r9 = (f_X6_reason z p1 p2))) 0 0 (fun _ => False) := by
  refine Met.ofW (cc := cX6_reason) (maxL := 3) (ret := (some .int)) (by decide) rfl ?_
  intro p e s m args below meth c s₁ B hml hv
  obtain ⟨rfl, hP, hK, hN⟩ := hv
  have hx := B.exec
  have hb := B.bytes
  have hr := B.returns
  have hts := atoms_spec (ws := wsX6_reason) B.pre
  have hown : s.vm.findClass RX6 = some m.cls := findClass_of_methodNamed B.named
  have hlocks := B.notSynchronized
  generalize hrr : f_X6_reason z p1 p2 = rr
  have eF := hrr.symm
  have hl := lv_entry ([.ref h0, .int p1, .int p2]) (n := 3) (Nat.le_of_ble_eq_true rfl)
  rw [lg_entry_eq]
  generalize (lg_sl ([.ref h0, .int p1, .int p2]) ++ List.replicate (3 - (lg_sl ([.ref h0, .int p1, .int p2])).length) Slot.unset).toArray = ls at hl ⊢
  have hl : lv_has ls 3 [(0, .ref h0), (1, .int p1), (2, .int p2)] := hl
  rw [o_X6_reason] at eO
  refine lv_aload_n hx hb dX6_reason_0 rfl (lv_at hl 0 rfl) ?_
  refine lv_iload_n hx hb dX6_reason_1 rfl (lv_at hl 1 rfl) ?_
  obtain ⟨hv_1, eO⟩ := eO
  refine vm_roVx (v := vm_bi (f_X6_stands z p1)) (As := [.int p1]) (rest := []) (T := TX6) (N := 11) (wc := [(h0, .inr (6, [.ref h1, .int states, .ref h2, .int ln, .ref h3, .int thr, .ref h4, .int rd, .int num, .int due, .long hash])), (h1, .inl (cI, 163, .inl z)), (h2, .inl (cI, 978, .inl hi)), (h3, .inl (cI, 60, .inl tx)), (h4, .inl (cI, 42, .inl pa))]) ⟨hx, hb, hml, hown, hts⟩ hK hN hP hl.1 ⟨Nat.le_of_ble_eq_true rfl, Nat.le_of_ble_eq_true rfl⟩ (c_X6_stands l dC dI cI cB h0 h1 h2 h3 h4 states ln thr rd num due hash z hi tx pa p1 hv_1) (cwV 1 hts gX6_reason_X6_stands rfl rfl rfl yd_X6_stands ⟨Nat.le_of_ble_eq_true rfl, Nat.le_of_ble_eq_true rfl⟩) [0, 1, 2, 3, 4] rfl 6 rfl rfl rfl rfl (Nat.le_of_ble_eq_true rfl) dX6_reason_2 ?_
  refine lv_if_ne (tgt := 10) hx hb dX6_reason_5 (by decide) (fun c_2 => ?_) (fun c_2 => ?_)
  · rw [if_neg c_2] at eO
    refine lv_iload_n hx hb dX6_reason_10 rfl (lv_at hl 2 rfl) ?_
    refine lv_aload_n hx hb dX6_reason_11 rfl (lv_at hl 0 rfl) ?_
    refine lv_iload_n hx hb dX6_reason_12 rfl (lv_at hl 1 rfl) ?_
    refine lv_iconst (v := 2) hx hb dX6_reason_13 (by decide) ?_
    obtain ⟨hv_3, eO⟩ := eO
    refine vm_roVx (v := (f_X6_of z p1 2)) (As := [.int p1, .int 2]) (rest := [.int p2]) (T := TX6) (N := 11) (wc := [(h0, .inr (6, [.ref h1, .int states, .ref h2, .int ln, .ref h3, .int thr, .ref h4, .int rd, .int num, .int due, .long hash])), (h1, .inl (cI, 163, .inl z)), (h2, .inl (cI, 978, .inl hi)), (h3, .inl (cI, 60, .inl tx)), (h4, .inl (cI, 42, .inl pa))]) ⟨hx, hb, hml, hown, hts⟩ hK hN hP hl.1 ⟨Nat.le_of_ble_eq_true rfl, Nat.le_of_ble_eq_true rfl⟩ (c_X6_of l dC dI cI cB h0 h1 h2 h3 h4 states ln thr rd num due hash z hi tx pa p1 2 hv_3) (cwV 2 hts gX6_reason_X6_of rfl rfl rfl yd_X6_of ⟨Nat.le_of_ble_eq_true rfl, Nat.le_of_ble_eq_true rfl⟩) [0, 1, 2, 3, 4] rfl 6 rfl rfl rfl rfl (Nat.le_of_ble_eq_true rfl) dX6_reason_14 ?_
    refine lv_icmp_le (tgt := 24) hx hb dX6_reason_17 (by decide) (fun c_4 => ?_) (fun c_4 => ?_)
    · rw [if_pos c_4] at eO
      refine lv_aload_n hx hb dX6_reason_24 rfl (lv_at hl 0 rfl) ?_
      refine lv_aload_n hx hb dX6_reason_25 rfl (lv_at hl 0 rfl) ?_
      refine lv_iload_n hx hb dX6_reason_26 rfl (lv_at hl 1 rfl) ?_
      obtain ⟨hv_5, eO⟩ := eO
      refine vm_roVx (v := (f_X6_narrowestOf z p1)) (As := [.int p1]) (rest := [.ref h0]) (T := TX6) (N := 11) (wc := [(h0, .inr (6, [.ref h1, .int states, .ref h2, .int ln, .ref h3, .int thr, .ref h4, .int rd, .int num, .int due, .long hash])), (h1, .inl (cI, 163, .inl z)), (h2, .inl (cI, 978, .inl hi)), (h3, .inl (cI, 60, .inl tx)), (h4, .inl (cI, 42, .inl pa))]) ⟨hx, hb, hml, hown, hts⟩ hK hN hP hl.1 ⟨Nat.le_of_ble_eq_true rfl, Nat.le_of_ble_eq_true rfl⟩ (c_X6_narrowestOf l dC dI cI cB h0 h1 h2 h3 h4 states ln thr rd num due hash z hi tx pa p1 hv_5) (cwV 1 hts gX6_reason_X6_narrowestOf rfl rfl rfl yd_X6_narrowestOf ⟨Nat.le_of_ble_eq_true rfl, Nat.le_of_ble_eq_true rfl⟩) [0, 1, 2, 3, 4] rfl 6 rfl rfl rfl rfl (Nat.le_of_ble_eq_true rfl) dX6_reason_27 ?_
      obtain ⟨hv_6, eO⟩ := eO
      refine vm_roVx (v := (f_X6_gapOf z (f_X6_narrowestOf z p1))) (As := [.int (f_X6_narrowestOf z p1)]) (rest := []) (T := TX6) (N := 11) (wc := [(h0, .inr (6, [.ref h1, .int states, .ref h2, .int ln, .ref h3, .int thr, .ref h4, .int rd, .int num, .int due, .long hash])), (h1, .inl (cI, 163, .inl z)), (h2, .inl (cI, 978, .inl hi)), (h3, .inl (cI, 60, .inl tx)), (h4, .inl (cI, 42, .inl pa))]) ⟨hx, hb, hml, hown, hts⟩ hK hN hP hl.1 ⟨Nat.le_of_ble_eq_true rfl, Nat.le_of_ble_eq_true rfl⟩ (c_X6_gapOf l dC dI cI cB h0 h1 h2 h3 h4 states ln thr rd num due hash z hi tx pa (f_X6_narrowestOf z p1) hv_6) (cwV 1 hts gX6_reason_X6_gapOf rfl rfl rfl yd_X6_gapOf ⟨Nat.le_of_ble_eq_true rfl, Nat.le_of_ble_eq_true rfl⟩) [0, 1, 2, 3, 4] rfl 6 rfl rfl rfl rfl (Nat.le_of_ble_eq_true rfl) dX6_reason_30 ?_
      refine lv_iload_n hx hb dX6_reason_33 rfl (lv_at hl 2 rfl) ?_
      refine lv_icmp_ge (tgt := 41) hx hb dX6_reason_34 (by decide) (fun c_7 => ?_) (fun c_7 => ?_)
      · rw [if_pos c_7] at eO
        refine lv_iconst (v := 0) hx hb dX6_reason_41 (by decide) ?_
        have e9 : rr = 0 := eF.trans (by rw [f_X6_reason, if_neg c_2, if_pos c_4, if_pos c_7])
        exact W.iret (v := 0) hx hb hr (fun t ht hW => ⟨_, rfl, e9.symm, ht⟩) (fun _ hq => by cases hq) dX6_reason_42
      · rw [if_neg c_7] at eO
        refine lv_iconst (v := 3) hx hb dX6_reason_37 (by decide) ?_
        refine lv_goto (tgt := 42) hx hb dX6_reason_38 (by decide) ?_
        have e9 : rr = 3 := eF.trans (by rw [f_X6_reason, if_neg c_2, if_pos c_4, if_neg c_7])
        exact W.iret (v := 3) hx hb hr (fun t ht hW => ⟨_, rfl, e9.symm, ht⟩) (fun _ hq => by cases hq) dX6_reason_42
    · rw [if_neg c_4] at eO
      refine lv_iconst (v := 2) hx hb dX6_reason_20 (by decide) ?_
      refine lv_goto (tgt := 42) hx hb dX6_reason_21 (by decide) ?_
      have e9 : rr = 2 := eF.trans (by rw [f_X6_reason, if_neg c_2, if_neg c_4])
      exact W.iret (v := 2) hx hb hr (fun t ht hW => ⟨_, rfl, e9.symm, ht⟩) (fun _ hq => by cases hq) dX6_reason_42
  · rw [if_pos c_2] at eO
    refine lv_iconst (v := 1) hx hb dX6_reason_8 (by decide) ?_
    have e9 : rr = 1 := eF.trans (by rw [f_X6_reason, if_pos c_2])
    exact W.iret (v := 1) hx hb hr (fun t ht hW => ⟨_, rfl, e9.symm, ht⟩) (fun _ hq => by cases hq) dX6_reason_9

def f_X6_make_c23 (x3_2 : Int32) (kj2 : Int32 → (Nat → Int32) → (Nat → Int32)) (z_c23 : Nat → Int32) : (Nat → Int32) :=
  kj2 (f_X6_of z_c23 x3_2 0) z_c23
def f_X6_make_c49 (p2 : Int32) (z_c49 : Nat → Int32) : (Nat → Int32) :=
  (upd (upd (upd z_c49 (Int32.toNatClampNeg 5) ((z_c49 (Int32.toNatClampNeg 5)) + p2)) (Int32.toNatClampNeg 6) (((upd z_c49 (Int32.toNatClampNeg 5) ((z_c49 (Int32.toNatClampNeg 5)) + p2)) (Int32.toNatClampNeg 6)) + p2)) (Int32.toNatClampNeg 7) (((upd (upd z_c49 (Int32.toNatClampNeg 5) ((z_c49 (Int32.toNatClampNeg 5)) + p2)) (Int32.toNatClampNeg 6) (((upd z_c49 (Int32.toNatClampNeg 5) ((z_c49 (Int32.toNatClampNeg 5)) + p2)) (Int32.toNatClampNeg 6)) + p2)) (Int32.toNatClampNeg 7)) + 1))
def f_X6_make_j2 (p1 : Int32) (p2 : Int32) : Nat → Int32 → (Nat → Int32) → (Nat → Int32)
  | 0, _, _ => (fun _ => 0)
  | n2 + 1, x3_2, z_2 => if x3_2 = (-1) then
      f_X6_make_c49 p2 (f_X6_put z_2 p1 7 ((f_X6_of z_2 p1 7) + p2))
    else
      f_X6_make_c23 x3_2 (f_X6_make_j2 p1 p2 n2) (f_X6_put z_2 x3_2 6 ((f_X6_of z_2 x3_2 6) + p2))
def f_X6_make (z : Nat → Int32) (p1 : Int32) (p2 : Int32) : (Nat → Int32) :=
  f_X6_make_j2 p1 p2 1000 p1 z
def o_X6_make_c23 (x3_2 : Int32) (koj2 : Int32 → (Nat → Int32) → Prop) (z_c23 : Nat → Int32) : Prop :=
  o_X6_of z_c23 x3_2 0 ∧
  (koj2 (f_X6_of z_c23 x3_2 0) z_c23)
def o_X6_make_c49 (p2 : Int32) (z_c49 : Nat → Int32) : Prop :=
  True
def o_X6_make_j2 (p1 : Int32) (p2 : Int32) : Nat → Int32 → (Nat → Int32) → Prop
  | 0, _, _ => False
  | n2 + 1, x3_2, z_2 => if x3_2 = (-1) then
      o_X6_of z_2 p1 7 ∧
      (o_X6_put z_2 p1 7 ((f_X6_of z_2 p1 7) + p2) ∧
      (o_X6_make_c49 p2 (f_X6_put z_2 p1 7 ((f_X6_of z_2 p1 7) + p2))))
    else
      o_X6_of z_2 x3_2 6 ∧
      (o_X6_put z_2 x3_2 6 ((f_X6_of z_2 x3_2 6) + p2) ∧
      (o_X6_make_c23 x3_2 (o_X6_make_j2 p1 p2 n2) (f_X6_put z_2 x3_2 6 ((f_X6_of z_2 x3_2 6) + p2))))
def o_X6_make (z : Nat → Int32) (p1 : Int32) (p2 : Int32) : Prop :=
  o_X6_make_j2 p1 p2 1000 p1 z
theorem yd_X6_make : yX6_make.cls = RX6 ∧ yX6_make.cls ≠ "java/lang/invoke/MethodHandle" ∧ yX6_make.cls ≠ "java/lang/invoke/VarHandle" ∧ (parseMethodDescriptor yX6_make.desc).map (fun d => d.parameters.length) = some 2 := by decide +kernel
set_option maxHeartbeats 4000000 in
set_option maxRecDepth 100000 in
theorem c_X6_make (l : Launch) (dC : Nat → ClassId) (dI : Nat → Nat → Nat) (cI cB : ClassId) (h0 h1 h2 h3 h4 : Nat) (sz : Nat) (states : Int32) (ln : Int32) (thr : Int32) (rd : Int32) (num : Int32) (due : Int32) (hash : Int64) (z : Nat → Int32) (hi : Nat → Int32) (tx : Nat → Int32) (pa : Nat → Int32) (p1 : Int32) (p2 : Int32) (eO : o_X6_make z p1 p2) : Met l yX6_make wsX6_make ({ frames := 1, cells := 0, slots := 0, locals := 23 }) (vm_prw [.ref h0, .int p1, .int p2] (dC, dI) [(h0, .inr (6, [.ref h1, .int states, .ref h2, .int ln, .ref h3, .int thr, .ref h4, .int rd, .int num, .int due, .long hash])), (h1, .inl (cI, 163, .inl z)), (h2, .inl (cI, 978, .inl hi)), (h3, .inl (cI, 60, .inl tx)), (h4, .inl (cI, 42, .inl pa))] cI cB sz) (va_Qv (fun _ : Unit => True) (fun _ t => va_P (dC, dI) vwCl [(h0, .inr (6, [.ref h1, .int states, .ref h2, .int ln, .ref h3, .int thr, .ref h4, .int rd, .int num, .int due, .long hash])), (h1, .inl (cI, 163, .inl (f_X6_make z p1 p2))), (h2, .inl (cI, 978, .inl hi)), (h3, .inl (cI, 60, .inl tx)), (h4, .inl (cI, 42, .inl pa))] t.heap) (va_A [(h0, .inr (6, [.ref h1, .int states, .ref h2, .int ln, .ref h3, .int thr, .ref h4, .int rd, .int num, .int due, .long hash])), (h1, .inl (cI, 163, .inl z)), (h2, .inl (cI, 978, .inl hi)), (h3, .inl (cI, 60, .inl tx)), (h4, .inl (cI, 42, .inl pa))] sz)) 0 0 (va_A [(h0, .inr (6, [.ref h1, .int states, .ref h2, .int ln, .ref h3, .int thr, .ref h4, .int rd, .int num, .int due, .long hash])), (h1, .inl (cI, 163, .inl z)), (h2, .inl (cI, 978, .inl hi)), (h3, .inl (cI, 60, .inl tx)), (h4, .inl (cI, 42, .inl pa))] sz) := by
  refine Met.ofW (cc := cX6_make) (maxL := 4) (ret := none) (by decide) rfl ?_
  intro p e s m args below meth c s₁ B hml hv
  obtain ⟨rfl, hsz, hP, hK, hN, hD0⟩ := hv
  have hx := B.exec
  have hb := B.bytes
  have hr := B.returns
  have hts := atoms_spec (ws := wsX6_make) B.pre
  have hown : s.vm.findClass RX6 = some m.cls := findClass_of_methodNamed B.named
  have hlocks := B.notSynchronized
  subst hsz
  have hD := hD0.self (sz := s.heap.size)
  generalize hAe : va_A [(h0, .inr (6, [.ref h1, .int states, .ref h2, .int ln, .ref h3, .int thr, .ref h4, .int rd, .int num, .int due, .long hash])), (h1, .inl (cI, 163, .inl z)), (h2, .inl (cI, 978, .inl hi)), (h3, .inl (cI, 60, .inl tx)), (h4, .inl (cI, 42, .inl pa))] s.heap.size = A at hD ⊢
  have hA : ∀ q : Nat, s.heap.size ≤ q → A q := fun q h => by rw [← hAe]; exact Or.inr h
  have hS : va_S A s.heap s.heap [] := va_S.rf
  have hP : va_P (dC, dI) vwCl [(h0, .inr (6, [.ref h1, .int states, .ref h2, .int ln, .ref h3, .int thr, .ref h4, .int rd, .int num, .int due, .long hash])), (h1, .inl (cI, 163, .inl z)), (h2, .inl (cI, 978, .inl hi)), (h3, .inl (cI, 60, .inl tx)), (h4, .inl (cI, 42, .inl pa))] s.heap := hP
  have kw1 := hts (.fieldLink RX6 7 "LapseMandatesModel" "z" "[I") (List.mem_of_getElem? (i := 1) rfl)
  have iwsX60 : ∀ w ∈ wsX60, w ∈ wsX6_make := fun w h => List.mem_cons_of_mem _ (List.mem_append_right _ h)
  generalize hrr : f_X6_make z p1 p2 = rr
  have eF := hrr.symm
  have hl := lv_entry ([.ref h0, .int p1, .int p2]) (n := 4) (Nat.le_of_ble_eq_true rfl)
  rw [lg_entry_eq]
  generalize (lg_sl ([.ref h0, .int p1, .int p2]) ++ List.replicate (4 - (lg_sl ([.ref h0, .int p1, .int p2])).length) Slot.unset).toArray = ls at hl ⊢
  have hl : lv_has ls 4 [(0, .ref h0), (1, .int p1), (2, .int p2)] := hl
  have hJ2 : ∀ (n2 : Nat) (x3_2 : Int32) (z_2 : Nat → Int32), rr = f_X6_make_j2 p1 p2 n2 x3_2 z_2 → o_X6_make_j2 p1 p2 n2 x3_2 z_2 → ∀ (H : Heap) (locs : List Loc), va_P (dC, dI) vwCl [(h0, .inr (6, [.ref h1, .int states, .ref h2, .int ln, .ref h3, .int thr, .ref h4, .int rd, .int num, .int due, .long hash])), (h1, .inl (cI, 163, .inl z_2)), (h2, .inl (cI, 978, .inl hi)), (h3, .inl (cI, 60, .inl tx)), (h4, .inl (cI, 42, .inl pa))] H → va_D A [(h0, .inr (6, [.ref h1, .int states, .ref h2, .int ln, .ref h3, .int thr, .ref h4, .int rd, .int num, .int due, .long hash])), (h1, .inl (cI, 163, .inl z_2)), (h2, .inl (cI, 978, .inl hi)), (h3, .inl (cI, 60, .inl tx)), (h4, .inl (cI, 42, .inl pa))] → va_S A s.heap H locs → ∀ (ls : Array Slot), lv_has ls 4 [(0, .ref h0), (1, .int p1), (2, .int p2), (3, .int x3_2)] → W p l e (headSpec wsX6_make ({ frames := 1, cells := 0, slots := 0, locals := 23 })).room s m ([.ref h0, .int p1, .int p2] : List Value).toArray below meth c H locs 0 0 (MQ below (va_Qv (fun _ : Unit => True) (fun _ t => va_P (dC, dI) vwCl [(h0, .inr (6, [.ref h1, .int states, .ref h2, .int ln, .ref h3, .int thr, .ref h4, .int rd, .int num, .int due, .long hash])), (h1, .inl (cI, 163, .inl rr)), (h2, .inl (cI, 978, .inl hi)), (h3, .inl (cI, 60, .inl tx)), (h4, .inl (cI, 42, .inl pa))] t.heap) A) ([.ref h0, .int p1, .int p2] : List Value).toArray s 0 0 A) (F0 m 2 ls []) := by
    intro n2
    induction n2 with
    | zero =>
      intro x3_2 z_2 eF eO
      exact False.elim eO
    | succ n2 ih2 =>
      intro x3_2 z_2 eF eO H locs hP hD hS ls hl
      rw [o_X6_make_j2] at eO
      refine lv_iload_n hx hb dX6_make_2 rfl (lv_at hl 3 rfl) ?_
      refine lv_iconst (v := (-1)) hx hb dX6_make_3 (by decide) ?_
      refine lv_icmp_eq (tgt := 33) hx hb dX6_make_4 (by decide) (fun c_1 => ?_) (fun c_1 => ?_)
      · rw [if_pos c_1] at eO
        refine lv_aload_n hx hb dX6_make_33 rfl (lv_at hl 0 rfl) ?_
        refine lv_iload_n hx hb dX6_make_34 rfl (lv_at hl 1 rfl) ?_
        refine lv_bipush (v := 7) hx hb dX6_make_35 (by decide) ?_
        refine lv_aload_n hx hb dX6_make_37 rfl (lv_at hl 0 rfl) ?_
        refine lv_iload_n hx hb dX6_make_38 rfl (lv_at hl 1 rfl) ?_
        refine lv_bipush (v := 7) hx hb dX6_make_39 (by decide) ?_
        obtain ⟨hv_2, eO⟩ := eO
        refine vm_roVx (v := (f_X6_of z_2 p1 7)) (As := [.int p1, .int 7]) (rest := [.int 7, .int p1, .ref h0]) (T := TX6) (N := 11) (wc := [(h0, .inr (6, [.ref h1, .int states, .ref h2, .int ln, .ref h3, .int thr, .ref h4, .int rd, .int num, .int due, .long hash])), (h1, .inl (cI, 163, .inl z_2)), (h2, .inl (cI, 978, .inl hi)), (h3, .inl (cI, 60, .inl tx)), (h4, .inl (cI, 42, .inl pa))]) ⟨hx, hb, hml, hown, hts⟩ hK hN hP hl.1 ⟨Nat.le_of_ble_eq_true rfl, Nat.le_of_ble_eq_true rfl⟩ (c_X6_of l dC dI cI cB h0 h1 h2 h3 h4 states ln thr rd num due hash z_2 hi tx pa p1 7 hv_2) (cwV 2 hts gX6_make_X6_of rfl rfl rfl yd_X6_of ⟨Nat.le_of_ble_eq_true rfl, Nat.le_of_ble_eq_true rfl⟩) [0, 1, 2, 3, 4] rfl 6 rfl rfl rfl rfl (Nat.le_of_ble_eq_true rfl) dX6_make_41 ?_
        refine lv_iload_n hx hb dX6_make_44 rfl (lv_at hl 2 rfl) ?_
        refine lv_iadd hx hb dX6_make_45 ?_
        obtain ⟨hv_3, eO⟩ := eO
        refine vm_rwVv (As := [.int p1, .int 7, .int ((f_X6_of z_2 p1 7) + p2)]) (rest := []) (T := TX6) (N := 11) (wc := [(h0, .inr (6, [.ref h1, .int states, .ref h2, .int ln, .ref h3, .int thr, .ref h4, .int rd, .int num, .int due, .long hash])), (h1, .inl (cI, 163, .inl z_2)), (h2, .inl (cI, 978, .inl hi)), (h3, .inl (cI, 60, .inl tx)), (h4, .inl (cI, 42, .inl pa))]) (w1 := [(h0, .inr (6, [.ref h1, .int states, .ref h2, .int ln, .ref h3, .int thr, .ref h4, .int rd, .int num, .int due, .long hash])), (h1, .inl (cI, 163, .inl (f_X6_put z_2 p1 7 ((f_X6_of z_2 p1 7) + p2)))), (h2, .inl (cI, 978, .inl hi)), (h3, .inl (cI, 60, .inl tx)), (h4, .inl (cI, 42, .inl pa))]) ⟨hx, hb, hml, hown, hts⟩ hK hN hP hD hS hA hl.1 ⟨Nat.le_of_ble_eq_true rfl, Nat.le_of_ble_eq_true rfl⟩ (c_X6_put l dC dI cI cB h0 h1 h2 h3 h4 _ states ln thr rd num due hash z_2 hi tx pa p1 7 ((f_X6_of z_2 p1 7) + p2) hv_3) (cwV 3 hts gX6_make_X6_put rfl rfl rfl yd_X6_put ⟨Nat.le_of_ble_eq_true rfl, Nat.le_of_ble_eq_true rfl⟩) [0, 1, 2, 3, 4] rfl rfl rfl 6 rfl rfl rfl rfl (Nat.le_of_ble_eq_true rfl) dX6_make_46 (fun H locs hP hD hS => ?_)
        have hP : va_P (dC, dI) vwCl [(h0, .inr (6, [.ref h1, .int states, .ref h2, .int ln, .ref h3, .int thr, .ref h4, .int rd, .int num, .int due, .long hash])), (h1, .inl (cI, 163, .inl (f_X6_put z_2 p1 7 ((f_X6_of z_2 p1 7) + p2)))), (h2, .inl (cI, 978, .inl hi)), (h3, .inl (cI, 60, .inl tx)), (h4, .inl (cI, 42, .inl pa))] H := hP
        have hD : va_D A [(h0, .inr (6, [.ref h1, .int states, .ref h2, .int ln, .ref h3, .int thr, .ref h4, .int rd, .int num, .int due, .long hash])), (h1, .inl (cI, 163, .inl (f_X6_put z_2 p1 7 ((f_X6_of z_2 p1 7) + p2)))), (h2, .inl (cI, 978, .inl hi)), (h3, .inl (cI, 60, .inl tx)), (h4, .inl (cI, 42, .inl pa))] := hD
        obtain ⟨z_c49, ez_c49⟩ : ∃ zz9, zz9 = (f_X6_put z_2 p1 7 ((f_X6_of z_2 p1 7) + p2)) := ⟨_, rfl⟩
        rw [← ez_c49] at hP hD
        have eF : rr = f_X6_make_c49 p2 z_c49 := eF.trans (by rw [f_X6_make_j2, if_pos c_1, ez_c49])
        have eO : o_X6_make_c49 p2 z_c49 := by rw [ez_c49]; exact eO
        rw [o_X6_make_c49] at eO
        refine lv_aload_n hx hb dX6_make_49 rfl (lv_at hl 0 rfl) ?_
        refine va_get (D := (dC, dI)) (ci := 6) (v := .ref h1) (C := RX6) (T := TX6) (N := 11) hx hb hts iwsX60 hown hK hP 0 rfl rfl 0 (by decide) kw1 (fun _ h9 => h9) rfl dX6_make_50 ?_
        refine lv_iconst (v := 5) hx hb dX6_make_53 (by decide) ?_
        refine lv_dup2_11 hx hb dX6_make_54 rfl rfl ?_
        refine va_iald hx hb hK hP 1 0 rfl rfl (by unfold vp_in; decide) dX6_make_55 ?_
        refine lv_iload_n hx hb dX6_make_56 rfl (lv_at hl 2 rfl) ?_
        refine lv_iadd hx hb dX6_make_57 ?_
        refine va_iast hx hb hK hP hD hS 1 0 rfl rfl (by unfold vp_in; decide) dX6_make_58 (fun H locs hP hD hS => ?_)
        have hP : va_P (dC, dI) vwCl [(h0, .inr (6, [.ref h1, .int states, .ref h2, .int ln, .ref h3, .int thr, .ref h4, .int rd, .int num, .int due, .long hash])), (h1, .inl (cI, 163, .inl (upd z_c49 (Int32.toNatClampNeg 5) ((z_c49 (Int32.toNatClampNeg 5)) + p2)))), (h2, .inl (cI, 978, .inl hi)), (h3, .inl (cI, 60, .inl tx)), (h4, .inl (cI, 42, .inl pa))] H := hP
        have hD : va_D A [(h0, .inr (6, [.ref h1, .int states, .ref h2, .int ln, .ref h3, .int thr, .ref h4, .int rd, .int num, .int due, .long hash])), (h1, .inl (cI, 163, .inl (upd z_c49 (Int32.toNatClampNeg 5) ((z_c49 (Int32.toNatClampNeg 5)) + p2)))), (h2, .inl (cI, 978, .inl hi)), (h3, .inl (cI, 60, .inl tx)), (h4, .inl (cI, 42, .inl pa))] := hD
        refine lv_aload_n hx hb dX6_make_59 rfl (lv_at hl 0 rfl) ?_
        refine va_get (D := (dC, dI)) (ci := 6) (v := .ref h1) (C := RX6) (T := TX6) (N := 11) hx hb hts iwsX60 hown hK hP 0 rfl rfl 0 (by decide) kw1 (fun _ h9 => h9) rfl dX6_make_60 ?_
        refine lv_bipush (v := 6) hx hb dX6_make_63 (by decide) ?_
        refine lv_dup2_11 hx hb dX6_make_65 rfl rfl ?_
        refine va_iald hx hb hK hP 1 0 rfl rfl (by unfold vp_in; decide) dX6_make_66 ?_
        refine lv_iload_n hx hb dX6_make_67 rfl (lv_at hl 2 rfl) ?_
        refine lv_iadd hx hb dX6_make_68 ?_
        refine va_iast hx hb hK hP hD hS 1 0 rfl rfl (by unfold vp_in; decide) dX6_make_69 (fun H locs hP hD hS => ?_)
        have hP : va_P (dC, dI) vwCl [(h0, .inr (6, [.ref h1, .int states, .ref h2, .int ln, .ref h3, .int thr, .ref h4, .int rd, .int num, .int due, .long hash])), (h1, .inl (cI, 163, .inl (upd (upd z_c49 (Int32.toNatClampNeg 5) ((z_c49 (Int32.toNatClampNeg 5)) + p2)) (Int32.toNatClampNeg 6) (((upd z_c49 (Int32.toNatClampNeg 5) ((z_c49 (Int32.toNatClampNeg 5)) + p2)) (Int32.toNatClampNeg 6)) + p2)))), (h2, .inl (cI, 978, .inl hi)), (h3, .inl (cI, 60, .inl tx)), (h4, .inl (cI, 42, .inl pa))] H := hP
        have hD : va_D A [(h0, .inr (6, [.ref h1, .int states, .ref h2, .int ln, .ref h3, .int thr, .ref h4, .int rd, .int num, .int due, .long hash])), (h1, .inl (cI, 163, .inl (upd (upd z_c49 (Int32.toNatClampNeg 5) ((z_c49 (Int32.toNatClampNeg 5)) + p2)) (Int32.toNatClampNeg 6) (((upd z_c49 (Int32.toNatClampNeg 5) ((z_c49 (Int32.toNatClampNeg 5)) + p2)) (Int32.toNatClampNeg 6)) + p2)))), (h2, .inl (cI, 978, .inl hi)), (h3, .inl (cI, 60, .inl tx)), (h4, .inl (cI, 42, .inl pa))] := hD
        refine lv_aload_n hx hb dX6_make_70 rfl (lv_at hl 0 rfl) ?_
        refine va_get (D := (dC, dI)) (ci := 6) (v := .ref h1) (C := RX6) (T := TX6) (N := 11) hx hb hts iwsX60 hown hK hP 0 rfl rfl 0 (by decide) kw1 (fun _ h9 => h9) rfl dX6_make_71 ?_
        refine lv_bipush (v := 7) hx hb dX6_make_74 (by decide) ?_
        refine lv_dup2_11 hx hb dX6_make_76 rfl rfl ?_
        refine va_iald hx hb hK hP 1 0 rfl rfl (by unfold vp_in; decide) dX6_make_77 ?_
        refine lv_iconst (v := 1) hx hb dX6_make_78 (by decide) ?_
        refine lv_iadd hx hb dX6_make_79 ?_
        refine va_iast hx hb hK hP hD hS 1 0 rfl rfl (by unfold vp_in; decide) dX6_make_80 (fun H locs hP hD hS => ?_)
        have hP : va_P (dC, dI) vwCl [(h0, .inr (6, [.ref h1, .int states, .ref h2, .int ln, .ref h3, .int thr, .ref h4, .int rd, .int num, .int due, .long hash])), (h1, .inl (cI, 163, .inl (upd (upd (upd z_c49 (Int32.toNatClampNeg 5) ((z_c49 (Int32.toNatClampNeg 5)) + p2)) (Int32.toNatClampNeg 6) (((upd z_c49 (Int32.toNatClampNeg 5) ((z_c49 (Int32.toNatClampNeg 5)) + p2)) (Int32.toNatClampNeg 6)) + p2)) (Int32.toNatClampNeg 7) (((upd (upd z_c49 (Int32.toNatClampNeg 5) ((z_c49 (Int32.toNatClampNeg 5)) + p2)) (Int32.toNatClampNeg 6) (((upd z_c49 (Int32.toNatClampNeg 5) ((z_c49 (Int32.toNatClampNeg 5)) + p2)) (Int32.toNatClampNeg 6)) + p2)) (Int32.toNatClampNeg 7)) + 1)))), (h2, .inl (cI, 978, .inl hi)), (h3, .inl (cI, 60, .inl tx)), (h4, .inl (cI, 42, .inl pa))] H := hP
        have hD : va_D A [(h0, .inr (6, [.ref h1, .int states, .ref h2, .int ln, .ref h3, .int thr, .ref h4, .int rd, .int num, .int due, .long hash])), (h1, .inl (cI, 163, .inl (upd (upd (upd z_c49 (Int32.toNatClampNeg 5) ((z_c49 (Int32.toNatClampNeg 5)) + p2)) (Int32.toNatClampNeg 6) (((upd z_c49 (Int32.toNatClampNeg 5) ((z_c49 (Int32.toNatClampNeg 5)) + p2)) (Int32.toNatClampNeg 6)) + p2)) (Int32.toNatClampNeg 7) (((upd (upd z_c49 (Int32.toNatClampNeg 5) ((z_c49 (Int32.toNatClampNeg 5)) + p2)) (Int32.toNatClampNeg 6) (((upd z_c49 (Int32.toNatClampNeg 5) ((z_c49 (Int32.toNatClampNeg 5)) + p2)) (Int32.toNatClampNeg 6)) + p2)) (Int32.toNatClampNeg 7)) + 1)))), (h2, .inl (cI, 978, .inl hi)), (h3, .inl (cI, 60, .inl tx)), (h4, .inl (cI, 42, .inl pa))] := hD
        have e9 : rr = (upd (upd (upd z_c49 (Int32.toNatClampNeg 5) ((z_c49 (Int32.toNatClampNeg 5)) + p2)) (Int32.toNatClampNeg 6) (((upd z_c49 (Int32.toNatClampNeg 5) ((z_c49 (Int32.toNatClampNeg 5)) + p2)) (Int32.toNatClampNeg 6)) + p2)) (Int32.toNatClampNeg 7) (((upd (upd z_c49 (Int32.toNatClampNeg 5) ((z_c49 (Int32.toNatClampNeg 5)) + p2)) (Int32.toNatClampNeg 6) (((upd z_c49 (Int32.toNatClampNeg 5) ((z_c49 (Int32.toNatClampNeg 5)) + p2)) (Int32.toNatClampNeg 6)) + p2)) (Int32.toNatClampNeg 7)) + 1)) := eF.trans (by rw [f_X6_make_c49])
        exact W.vret hx hb hr (fun t ht hW => ⟨⟨(), rfl, trivial, (by rw [e9]; show va_P _ _ _ t.heap; rw [ht]; exact hP)⟩, hS.F ht⟩) hS.2.2 dX6_make_81
      · rw [if_neg c_1] at eO
        refine lv_aload_n hx hb dX6_make_7 rfl (lv_at hl 0 rfl) ?_
        refine lv_iload_n hx hb dX6_make_8 rfl (lv_at hl 3 rfl) ?_
        refine lv_bipush (v := 6) hx hb dX6_make_9 (by decide) ?_
        refine lv_aload_n hx hb dX6_make_11 rfl (lv_at hl 0 rfl) ?_
        refine lv_iload_n hx hb dX6_make_12 rfl (lv_at hl 3 rfl) ?_
        refine lv_bipush (v := 6) hx hb dX6_make_13 (by decide) ?_
        obtain ⟨hv_4, eO⟩ := eO
        refine vm_roVx (v := (f_X6_of z_2 x3_2 6)) (As := [.int x3_2, .int 6]) (rest := [.int 6, .int x3_2, .ref h0]) (T := TX6) (N := 11) (wc := [(h0, .inr (6, [.ref h1, .int states, .ref h2, .int ln, .ref h3, .int thr, .ref h4, .int rd, .int num, .int due, .long hash])), (h1, .inl (cI, 163, .inl z_2)), (h2, .inl (cI, 978, .inl hi)), (h3, .inl (cI, 60, .inl tx)), (h4, .inl (cI, 42, .inl pa))]) ⟨hx, hb, hml, hown, hts⟩ hK hN hP hl.1 ⟨Nat.le_of_ble_eq_true rfl, Nat.le_of_ble_eq_true rfl⟩ (c_X6_of l dC dI cI cB h0 h1 h2 h3 h4 states ln thr rd num due hash z_2 hi tx pa x3_2 6 hv_4) (cwV 2 hts gX6_make_X6_of rfl rfl rfl yd_X6_of ⟨Nat.le_of_ble_eq_true rfl, Nat.le_of_ble_eq_true rfl⟩) [0, 1, 2, 3, 4] rfl 6 rfl rfl rfl rfl (Nat.le_of_ble_eq_true rfl) dX6_make_15 ?_
        refine lv_iload_n hx hb dX6_make_18 rfl (lv_at hl 2 rfl) ?_
        refine lv_iadd hx hb dX6_make_19 ?_
        obtain ⟨hv_5, eO⟩ := eO
        refine vm_rwVv (As := [.int x3_2, .int 6, .int ((f_X6_of z_2 x3_2 6) + p2)]) (rest := []) (T := TX6) (N := 11) (wc := [(h0, .inr (6, [.ref h1, .int states, .ref h2, .int ln, .ref h3, .int thr, .ref h4, .int rd, .int num, .int due, .long hash])), (h1, .inl (cI, 163, .inl z_2)), (h2, .inl (cI, 978, .inl hi)), (h3, .inl (cI, 60, .inl tx)), (h4, .inl (cI, 42, .inl pa))]) (w1 := [(h0, .inr (6, [.ref h1, .int states, .ref h2, .int ln, .ref h3, .int thr, .ref h4, .int rd, .int num, .int due, .long hash])), (h1, .inl (cI, 163, .inl (f_X6_put z_2 x3_2 6 ((f_X6_of z_2 x3_2 6) + p2)))), (h2, .inl (cI, 978, .inl hi)), (h3, .inl (cI, 60, .inl tx)), (h4, .inl (cI, 42, .inl pa))]) ⟨hx, hb, hml, hown, hts⟩ hK hN hP hD hS hA hl.1 ⟨Nat.le_of_ble_eq_true rfl, Nat.le_of_ble_eq_true rfl⟩ (c_X6_put l dC dI cI cB h0 h1 h2 h3 h4 _ states ln thr rd num due hash z_2 hi tx pa x3_2 6 ((f_X6_of z_2 x3_2 6) + p2) hv_5) (cwV 3 hts gX6_make_X6_put rfl rfl rfl yd_X6_put ⟨Nat.le_of_ble_eq_true rfl, Nat.le_of_ble_eq_true rfl⟩) [0, 1, 2, 3, 4] rfl rfl rfl 6 rfl rfl rfl rfl (Nat.le_of_ble_eq_true rfl) dX6_make_20 (fun H locs hP hD hS => ?_)
        have hP : va_P (dC, dI) vwCl [(h0, .inr (6, [.ref h1, .int states, .ref h2, .int ln, .ref h3, .int thr, .ref h4, .int rd, .int num, .int due, .long hash])), (h1, .inl (cI, 163, .inl (f_X6_put z_2 x3_2 6 ((f_X6_of z_2 x3_2 6) + p2)))), (h2, .inl (cI, 978, .inl hi)), (h3, .inl (cI, 60, .inl tx)), (h4, .inl (cI, 42, .inl pa))] H := hP
        have hD : va_D A [(h0, .inr (6, [.ref h1, .int states, .ref h2, .int ln, .ref h3, .int thr, .ref h4, .int rd, .int num, .int due, .long hash])), (h1, .inl (cI, 163, .inl (f_X6_put z_2 x3_2 6 ((f_X6_of z_2 x3_2 6) + p2)))), (h2, .inl (cI, 978, .inl hi)), (h3, .inl (cI, 60, .inl tx)), (h4, .inl (cI, 42, .inl pa))] := hD
        obtain ⟨z_c23, ez_c23⟩ : ∃ zz9, zz9 = (f_X6_put z_2 x3_2 6 ((f_X6_of z_2 x3_2 6) + p2)) := ⟨_, rfl⟩
        rw [← ez_c23] at hP hD
        have eF : rr = f_X6_make_c23 x3_2 (f_X6_make_j2 p1 p2 n2) z_c23 := eF.trans (by rw [f_X6_make_j2, if_neg c_1, ez_c23])
        have eO : o_X6_make_c23 x3_2 (o_X6_make_j2 p1 p2 n2) z_c23 := by rw [ez_c23]; exact eO
        rw [o_X6_make_c23] at eO
        refine lv_aload_n hx hb dX6_make_23 rfl (lv_at hl 0 rfl) ?_
        refine lv_iload_n hx hb dX6_make_24 rfl (lv_at hl 3 rfl) ?_
        refine lv_iconst (v := 0) hx hb dX6_make_25 (by decide) ?_
        obtain ⟨hv_6, eO⟩ := eO
        refine vm_roVx (v := (f_X6_of z_c23 x3_2 0)) (As := [.int x3_2, .int 0]) (rest := []) (T := TX6) (N := 11) (wc := [(h0, .inr (6, [.ref h1, .int states, .ref h2, .int ln, .ref h3, .int thr, .ref h4, .int rd, .int num, .int due, .long hash])), (h1, .inl (cI, 163, .inl z_c23)), (h2, .inl (cI, 978, .inl hi)), (h3, .inl (cI, 60, .inl tx)), (h4, .inl (cI, 42, .inl pa))]) ⟨hx, hb, hml, hown, hts⟩ hK hN hP hl.1 ⟨Nat.le_of_ble_eq_true rfl, Nat.le_of_ble_eq_true rfl⟩ (c_X6_of l dC dI cI cB h0 h1 h2 h3 h4 states ln thr rd num due hash z_c23 hi tx pa x3_2 0 hv_6) (cwV 2 hts gX6_make_X6_of rfl rfl rfl yd_X6_of ⟨Nat.le_of_ble_eq_true rfl, Nat.le_of_ble_eq_true rfl⟩) [0, 1, 2, 3, 4] rfl 6 rfl rfl rfl rfl (Nat.le_of_ble_eq_true rfl) dX6_make_26 ?_
        refine lv_istore_n (lv' := [(3, .int (f_X6_of z_c23 x3_2 0)), (0, .ref h0), (1, .int p1), (2, .int p2)]) hx hb dX6_make_29 rfl hl (by decide) rfl (fun ls hl => ?_)
        refine lv_goto (tgt := 2) hx hb dX6_make_30 (by decide) ?_
        exact ih2 (f_X6_of z_c23 x3_2 0) z_c23 (eF.trans (by rw [f_X6_make_c23])) eO _ _ hP hD hS ls (lv_sub hl [1, 2, 3, 0] rfl)
  rw [o_X6_make] at eO
  refine lv_iload_n hx hb dX6_make_0 rfl (lv_at hl 1 rfl) ?_
  refine lv_istore_n (lv' := [(3, .int p1), (0, .ref h0), (1, .int p1), (2, .int p2)]) hx hb dX6_make_1 rfl hl (by decide) rfl (fun ls hl => ?_)
  exact hJ2 1000 p1 z (eF.trans (by rw [f_X6_make])) eO _ _ hP hD hS ls (lv_sub hl [1, 2, 3, 0] rfl)

def f_X6_canAsk_j57 : Bool :=
  true
def f_X6_canAsk_j25 (z : Nat → Int32) (p1 : Int32) (p2 : Int32) (p3 : Int32) (s0_25 : Bool) : Bool :=
  if (f_X6_reason z p1 p2) = 0 then
    if (vm_bi s0_25) = 0 then
      false
    else
      if p3 = 0 then
        f_X6_canAsk_j57
      else
        if ((f_X6_of z p1 2) / 2) < p2 then
          false
        else
          f_X6_canAsk_j57
  else
    false
def f_X6_canAsk_j20 (z : Nat → Int32) (p1 : Int32) (p2 : Int32) (p3 : Int32) : Bool :=
  f_X6_canAsk_j25 z p1 p2 p3 true
def f_X6_canAsk (z : Nat → Int32) (p1 : Int32) (p2 : Int32) (p3 : Int32) : Bool :=
  if (f_X6_of z p1 4) = 0 then
    f_X6_canAsk_j20 z p1 p2 p3
  else
    if 6 ≤ (z (Int32.toNatClampNeg 4)) then
      f_X6_canAsk_j25 z p1 p2 p3 false
    else
      f_X6_canAsk_j20 z p1 p2 p3
def o_X6_canAsk_j57 : Prop :=
  True
def o_X6_canAsk_j25 (z : Nat → Int32) (p1 : Int32) (p2 : Int32) (p3 : Int32) (s0_25 : Bool) : Prop :=
  o_X6_reason z p1 p2 ∧
  (if (f_X6_reason z p1 p2) = 0 then
    if (vm_bi s0_25) = 0 then
      True
    else
      if p3 = 0 then
        o_X6_canAsk_j57
      else
        o_X6_of z p1 2 ∧
        (if ((f_X6_of z p1 2) / 2) < p2 then
          True
        else
          o_X6_canAsk_j57)
  else
    True)
def o_X6_canAsk_j20 (z : Nat → Int32) (p1 : Int32) (p2 : Int32) (p3 : Int32) : Prop :=
  o_X6_canAsk_j25 z p1 p2 p3 true
def o_X6_canAsk (z : Nat → Int32) (p1 : Int32) (p2 : Int32) (p3 : Int32) : Prop :=
  o_X6_of z p1 4 ∧
  (if (f_X6_of z p1 4) = 0 then
    o_X6_canAsk_j20 z p1 p2 p3
  else
    if 6 ≤ (z (Int32.toNatClampNeg 4)) then
      o_X6_canAsk_j25 z p1 p2 p3 false
    else
      o_X6_canAsk_j20 z p1 p2 p3)
theorem yd_X6_canAsk : yX6_canAsk.cls = RX6 ∧ yX6_canAsk.cls ≠ "java/lang/invoke/MethodHandle" ∧ yX6_canAsk.cls ≠ "java/lang/invoke/VarHandle" ∧ (parseMethodDescriptor yX6_canAsk.desc).map (fun d => d.parameters.length) = some 3 := by decide +kernel
set_option maxHeartbeats 4000000 in
set_option maxRecDepth 100000 in
theorem c_X6_canAsk (l : Launch) (dC : Nat → ClassId) (dI : Nat → Nat → Nat) (cI cB : ClassId) (h0 h1 h2 h3 h4 : Nat) (states : Int32) (ln : Int32) (thr : Int32) (rd : Int32) (num : Int32) (due : Int32) (hash : Int64) (z : Nat → Int32) (hi : Nat → Int32) (tx : Nat → Int32) (pa : Nat → Int32) (p1 : Int32) (p2 : Int32) (p3 : Int32) (eO : o_X6_canAsk z p1 p2 p3) : Met l yX6_canAsk wsX6_canAsk ({ frames := 4, cells := 0, slots := 0, locals := 88 }) (vm_pre [.ref h0, .int p1, .int p2, .int p3] (dC, dI) [(h0, .inr (6, [.ref h1, .int states, .ref h2, .int ln, .ref h3, .int thr, .ref h4, .int rd, .int num, .int due, .long hash])), (h1, .inl (cI, 163, .inl z)), (h2, .inl (cI, 978, .inl hi)), (h3, .inl (cI, 60, .inl tx)), (h4, .inl (cI, 42, .inl pa))] cI cB) (vp_Si (fun r9 : Int32 => r9 = vm_bi (f_X6_canAsk z p1 p2 p3))) 0 0 (fun _ => False) := by
  refine Met.ofW (cc := cX6_canAsk) (maxL := 5) (ret := (some .boolean)) (by decide) rfl ?_
  intro p e s m args below meth c s₁ B hml hv
  obtain ⟨rfl, hP, hK, hN⟩ := hv
  have hx := B.exec
  have hb := B.bytes
  have hr := B.returns
  have hts := atoms_spec (ws := wsX6_canAsk) B.pre
  have hown : s.vm.findClass RX6 = some m.cls := findClass_of_methodNamed B.named
  have hlocks := B.notSynchronized
  have kw1 := hts (.fieldLink RX6 7 "LapseMandatesModel" "z" "[I") (List.mem_of_getElem? (i := 1) rfl)
  have iwsX60 : ∀ w ∈ wsX60, w ∈ wsX6_canAsk := fun w h => List.mem_cons_of_mem _ (List.mem_append_right _ h)
  generalize hrr : f_X6_canAsk z p1 p2 p3 = rr
  have eF := hrr.symm
  have hl := lv_entry ([.ref h0, .int p1, .int p2, .int p3]) (n := 5) (Nat.le_of_ble_eq_true rfl)
  rw [lg_entry_eq]
  generalize (lg_sl ([.ref h0, .int p1, .int p2, .int p3]) ++ List.replicate (5 - (lg_sl ([.ref h0, .int p1, .int p2, .int p3])).length) Slot.unset).toArray = ls at hl ⊢
  have hl : lv_has ls 5 [(0, .ref h0), (1, .int p1), (2, .int p2), (3, .int p3)] := hl
  have hJ57 : rr = f_X6_canAsk_j57 → o_X6_canAsk_j57 → ∀ (ls : Array Slot), lv_has ls 5 [] → W p l e (headSpec wsX6_canAsk ({ frames := 4, cells := 0, slots := 0, locals := 88 })).room s m ([.ref h0, .int p1, .int p2, .int p3] : List Value).toArray below meth c s.heap [] 0 0 (MQ below (vp_Si (fun r9 : Int32 => r9 = vm_bi rr)) ([.ref h0, .int p1, .int p2, .int p3] : List Value).toArray s 0 0 (fun _ => False)) (F0 m 57 ls []) := by
    intro eF eO ls hl
    rw [o_X6_canAsk_j57] at eO
    refine lv_iconst (v := 1) hx hb dX6_canAsk_57 (by decide) ?_
    refine lv_goto (tgt := 62) hx hb dX6_canAsk_58 (by decide) ?_
    have e9 : rr = true := eF.trans (by rw [f_X6_canAsk_j57])
    exact W.zret (v := 1) hx hb hr rfl (fun t ht hW => ⟨_, rfl, by rw [e9] <;> rfl, ht⟩) (fun _ hq => by cases hq) dX6_canAsk_62
  have hJ25 : ∀ (s0_25 : Bool), rr = f_X6_canAsk_j25 z p1 p2 p3 s0_25 → o_X6_canAsk_j25 z p1 p2 p3 s0_25 → ∀ (ls : Array Slot), lv_has ls 5 [(0, .ref h0), (1, .int p1), (2, .int p2), (3, .int p3)] → W p l e (headSpec wsX6_canAsk ({ frames := 4, cells := 0, slots := 0, locals := 88 })).room s m ([.ref h0, .int p1, .int p2, .int p3] : List Value).toArray below meth c s.heap [] 0 0 (MQ below (vp_Si (fun r9 : Int32 => r9 = vm_bi rr)) ([.ref h0, .int p1, .int p2, .int p3] : List Value).toArray s 0 0 (fun _ => False)) (F0 m 25 ls [.int (vm_bi s0_25)]) := by
    intro s0_25 eF eO ls hl
    rw [o_X6_canAsk_j25] at eO
    refine lv_istore (lv' := [(4, .int (vm_bi s0_25)), (0, .ref h0), (1, .int p1), (2, .int p2), (3, .int p3)]) hx hb dX6_canAsk_25 hl (by decide) rfl (fun ls hl => ?_)
    refine lv_aload_n hx hb dX6_canAsk_27 rfl (lv_at hl 1 rfl) ?_
    refine lv_iload_n hx hb dX6_canAsk_28 rfl (lv_at hl 2 rfl) ?_
    refine lv_iload_n hx hb dX6_canAsk_29 rfl (lv_at hl 3 rfl) ?_
    obtain ⟨hv_1, eO⟩ := eO
    refine vm_roVx (v := (f_X6_reason z p1 p2)) (As := [.int p1, .int p2]) (rest := []) (T := TX6) (N := 11) (wc := [(h0, .inr (6, [.ref h1, .int states, .ref h2, .int ln, .ref h3, .int thr, .ref h4, .int rd, .int num, .int due, .long hash])), (h1, .inl (cI, 163, .inl z)), (h2, .inl (cI, 978, .inl hi)), (h3, .inl (cI, 60, .inl tx)), (h4, .inl (cI, 42, .inl pa))]) ⟨hx, hb, hml, hown, hts⟩ hK hN hP hl.1 ⟨Nat.le_of_ble_eq_true rfl, Nat.le_of_ble_eq_true rfl⟩ (c_X6_reason l dC dI cI cB h0 h1 h2 h3 h4 states ln thr rd num due hash z hi tx pa p1 p2 hv_1) (cwV 2 hts gX6_canAsk_X6_reason rfl rfl rfl yd_X6_reason ⟨Nat.le_of_ble_eq_true rfl, Nat.le_of_ble_eq_true rfl⟩) [0, 1, 2, 3, 4] rfl 6 rfl rfl rfl rfl (Nat.le_of_ble_eq_true rfl) dX6_canAsk_30 ?_
    refine lv_if_ne (tgt := 61) hx hb dX6_canAsk_33 (by decide) (fun c_2 => ?_) (fun c_2 => ?_)
    · rw [if_neg c_2] at eO
      refine lv_iconst (v := 0) hx hb dX6_canAsk_61 (by decide) ?_
      have e9 : rr = false := eF.trans (by rw [f_X6_canAsk_j25, if_neg c_2])
      exact W.zret (v := 0) hx hb hr rfl (fun t ht hW => ⟨_, rfl, by rw [e9] <;> rfl, ht⟩) (fun _ hq => by cases hq) dX6_canAsk_62
    · rw [if_pos c_2] at eO
      refine lv_iload hx hb dX6_canAsk_36 (lv_at hl 0 rfl) ?_
      refine lv_if_eq (tgt := 61) hx hb dX6_canAsk_38 (by decide) (fun c_3 => ?_) (fun c_3 => ?_)
      · rw [if_pos c_3] at eO
        refine lv_iconst (v := 0) hx hb dX6_canAsk_61 (by decide) ?_
        have e9 : rr = false := eF.trans (by rw [f_X6_canAsk_j25, if_pos c_2, if_pos c_3])
        exact W.zret (v := 0) hx hb hr rfl (fun t ht hW => ⟨_, rfl, by rw [e9] <;> rfl, ht⟩) (fun _ hq => by cases hq) dX6_canAsk_62
      · rw [if_neg c_3] at eO
        refine lv_iload_n hx hb dX6_canAsk_41 rfl (lv_at hl 4 rfl) ?_
        refine lv_if_eq (tgt := 57) hx hb dX6_canAsk_42 (by decide) (fun c_4 => ?_) (fun c_4 => ?_)
        · rw [if_pos c_4] at eO
          exact hJ57 (eF.trans (by rw [f_X6_canAsk_j25, if_pos c_2, if_neg c_3, if_pos c_4])) eO ls (lv_sub hl [] rfl)
        · rw [if_neg c_4] at eO
          refine lv_iload_n hx hb dX6_canAsk_45 rfl (lv_at hl 3 rfl) ?_
          refine lv_aload_n hx hb dX6_canAsk_46 rfl (lv_at hl 1 rfl) ?_
          refine lv_iload_n hx hb dX6_canAsk_47 rfl (lv_at hl 2 rfl) ?_
          refine lv_iconst (v := 2) hx hb dX6_canAsk_48 (by decide) ?_
          obtain ⟨hv_5, eO⟩ := eO
          refine vm_roVx (v := (f_X6_of z p1 2)) (As := [.int p1, .int 2]) (rest := [.int p2]) (T := TX6) (N := 11) (wc := [(h0, .inr (6, [.ref h1, .int states, .ref h2, .int ln, .ref h3, .int thr, .ref h4, .int rd, .int num, .int due, .long hash])), (h1, .inl (cI, 163, .inl z)), (h2, .inl (cI, 978, .inl hi)), (h3, .inl (cI, 60, .inl tx)), (h4, .inl (cI, 42, .inl pa))]) ⟨hx, hb, hml, hown, hts⟩ hK hN hP hl.1 ⟨Nat.le_of_ble_eq_true rfl, Nat.le_of_ble_eq_true rfl⟩ (c_X6_of l dC dI cI cB h0 h1 h2 h3 h4 states ln thr rd num due hash z hi tx pa p1 2 hv_5) (cwV 2 hts gX6_canAsk_X6_of rfl rfl rfl yd_X6_of ⟨Nat.le_of_ble_eq_true rfl, Nat.le_of_ble_eq_true rfl⟩) [0, 1, 2, 3, 4] rfl 6 rfl rfl rfl rfl (Nat.le_of_ble_eq_true rfl) dX6_canAsk_49 ?_
          refine lv_iconst (v := 2) hx hb dX6_canAsk_52 (by decide) ?_
          refine lv_idiv hx hb dX6_canAsk_53 (by decide) ?_
          refine lv_icmp_gt (tgt := 61) hx hb dX6_canAsk_54 (by decide) (fun c_6 => ?_) (fun c_6 => ?_)
          · rw [if_pos c_6] at eO
            refine lv_iconst (v := 0) hx hb dX6_canAsk_61 (by decide) ?_
            have e9 : rr = false := eF.trans (by rw [f_X6_canAsk_j25, if_pos c_2, if_neg c_3, if_neg c_4, if_pos c_6])
            exact W.zret (v := 0) hx hb hr rfl (fun t ht hW => ⟨_, rfl, by rw [e9] <;> rfl, ht⟩) (fun _ hq => by cases hq) dX6_canAsk_62
          · rw [if_neg c_6] at eO
            exact hJ57 (eF.trans (by rw [f_X6_canAsk_j25, if_pos c_2, if_neg c_3, if_neg c_4, if_neg c_6])) eO ls (lv_sub hl [] rfl)
  have hJ20 : rr = f_X6_canAsk_j20 z p1 p2 p3 → o_X6_canAsk_j20 z p1 p2 p3 → ∀ (ls : Array Slot), lv_has ls 5 [(0, .ref h0), (1, .int p1), (2, .int p2), (3, .int p3)] → W p l e (headSpec wsX6_canAsk ({ frames := 4, cells := 0, slots := 0, locals := 88 })).room s m ([.ref h0, .int p1, .int p2, .int p3] : List Value).toArray below meth c s.heap [] 0 0 (MQ below (vp_Si (fun r9 : Int32 => r9 = vm_bi rr)) ([.ref h0, .int p1, .int p2, .int p3] : List Value).toArray s 0 0 (fun _ => False)) (F0 m 20 ls []) := by
    intro eF eO ls hl
    rw [o_X6_canAsk_j20] at eO
    refine lv_iconst (v := 1) hx hb dX6_canAsk_20 (by decide) ?_
    refine lv_goto (tgt := 25) hx hb dX6_canAsk_21 (by decide) ?_
    exact hJ25 true (eF.trans (by rw [f_X6_canAsk_j20])) eO ls (lv_sub hl [0, 1, 2, 3] rfl)
  rw [o_X6_canAsk] at eO
  refine lv_aload_n hx hb dX6_canAsk_0 rfl (lv_at hl 0 rfl) ?_
  refine lv_iload_n hx hb dX6_canAsk_1 rfl (lv_at hl 1 rfl) ?_
  refine lv_iconst (v := 4) hx hb dX6_canAsk_2 (by decide) ?_
  obtain ⟨hv_7, eO⟩ := eO
  refine vm_roVx (v := (f_X6_of z p1 4)) (As := [.int p1, .int 4]) (rest := []) (T := TX6) (N := 11) (wc := [(h0, .inr (6, [.ref h1, .int states, .ref h2, .int ln, .ref h3, .int thr, .ref h4, .int rd, .int num, .int due, .long hash])), (h1, .inl (cI, 163, .inl z)), (h2, .inl (cI, 978, .inl hi)), (h3, .inl (cI, 60, .inl tx)), (h4, .inl (cI, 42, .inl pa))]) ⟨hx, hb, hml, hown, hts⟩ hK hN hP hl.1 ⟨Nat.le_of_ble_eq_true rfl, Nat.le_of_ble_eq_true rfl⟩ (c_X6_of l dC dI cI cB h0 h1 h2 h3 h4 states ln thr rd num due hash z hi tx pa p1 4 hv_7) (cwV 2 hts gX6_canAsk_X6_of rfl rfl rfl yd_X6_of ⟨Nat.le_of_ble_eq_true rfl, Nat.le_of_ble_eq_true rfl⟩) [0, 1, 2, 3, 4] rfl 6 rfl rfl rfl rfl (Nat.le_of_ble_eq_true rfl) dX6_canAsk_3 ?_
  refine lv_if_eq (tgt := 20) hx hb dX6_canAsk_6 (by decide) (fun c_8 => ?_) (fun c_8 => ?_)
  · rw [if_pos c_8] at eO
    exact hJ20 (eF.trans (by rw [f_X6_canAsk, if_pos c_8])) eO ls (lv_sub hl [0, 1, 2, 3] rfl)
  · rw [if_neg c_8] at eO
    refine lv_aload_n hx hb dX6_canAsk_9 rfl (lv_at hl 0 rfl) ?_
    refine va_get (D := (dC, dI)) (ci := 6) (v := .ref h1) (C := RX6) (T := TX6) (N := 11) hx hb hts iwsX60 hown hK hP 0 rfl rfl 0 (by decide) kw1 (fun _ h9 => h9) rfl dX6_canAsk_10 ?_
    refine lv_iconst (v := 4) hx hb dX6_canAsk_13 (by decide) ?_
    refine va_iald hx hb hK hP 1 0 rfl rfl (by unfold vp_in; decide) dX6_canAsk_14 ?_
    refine lv_bipush (v := 6) hx hb dX6_canAsk_15 (by decide) ?_
    refine lv_icmp_ge (tgt := 24) hx hb dX6_canAsk_17 (by decide) (fun c_9 => ?_) (fun c_9 => ?_)
    · rw [if_pos c_9] at eO
      refine lv_iconst (v := 0) hx hb dX6_canAsk_24 (by decide) ?_
      exact hJ25 false (eF.trans (by rw [f_X6_canAsk, if_neg c_8, if_pos c_9])) eO ls (lv_sub hl [0, 1, 2, 3] rfl)
    · rw [if_neg c_9] at eO
      exact hJ20 (eF.trans (by rw [f_X6_canAsk, if_neg c_8, if_neg c_9])) eO ls (lv_sub hl [0, 1, 2, 3] rfl)

def f_X6_asks_c70 (x4_67 : Bool) (z_c70 : Nat → Int32) : Int32 × (Nat → Int32) :=
  if (vm_bi x4_67) = 0 then
    (0, z_c70)
  else
    (1, z_c70)
def f_X6_asks_j67 (p1 : Int32) (p2 : Int32) (x4_67 : Bool) (s0_67 : Bool) (z_67 : Nat → Int32) : Int32 × (Nat → Int32) :=
  f_X6_asks_c70 x4_67 (f_X6_addRequest z_67 p1 p2 (vm_bi s0_67))
def f_X6_asks_j70 (x4_70 : Bool) (z_70 : Nat → Int32) : Int32 × (Nat → Int32) :=
  if (vm_bi x4_70) = 0 then
    (0, z_70)
  else
    (1, z_70)
def f_X6_asks_j50 (p1 : Int32) (p2 : Int32) (p3 : Int32) (x4_50 : Bool) (z_50 : Nat → Int32) : Int32 × (Nat → Int32) :=
  if (vm_bi x4_50) = 0 then
    f_X6_asks_j70 x4_50 z_50
  else
    if p3 = 0 then
      f_X6_asks_j67 p1 p2 x4_50 false z_50
    else
      f_X6_asks_j67 p1 p2 x4_50 true z_50
def f_X6_asks_j48 (p1 : Int32) (p2 : Int32) (p3 : Int32) (x4_48 : Bool) (s0_48 : Bool) (s1_48 : Int32) (z_48 : Nat → Int32) : Int32 × (Nat → Int32) :=
  f_X6_asks_j50 p1 p2 p3 x4_48 (upd z_48 (Int32.toNatClampNeg 8) (s1_48 + (vm_bi s0_48)))
def f_X6_asks_c31 (p1 : Int32) (p2 : Int32) (p3 : Int32) (x4_25 : Bool) (z_c31 : Nat → Int32) : Int32 × (Nat → Int32) :=
  if p3 = 0 then
    f_X6_asks_j48 p1 p2 p3 x4_25 false (z_c31 (Int32.toNatClampNeg 8)) z_c31
  else
    f_X6_asks_j48 p1 p2 p3 x4_25 true (z_c31 (Int32.toNatClampNeg 8)) z_c31
def f_X6_asks_j25 (z : Nat → Int32) (p1 : Int32) (p2 : Int32) (p3 : Int32) (x4_25 : Bool) : Int32 × (Nat → Int32) :=
  f_X6_asks_c31 p1 p2 p3 x4_25 (f_X6_make z p1 p2)
def f_X6_asks_j14 (z : Nat → Int32) (p1 : Int32) (p2 : Int32) (p3 : Int32) (s0_14 : Bool) : Int32 × (Nat → Int32) :=
  if p3 = 0 then
    if (vm_bi s0_14) = 0 then
      f_X6_asks_j25 z p1 p2 p3 s0_14
    else
      f_X6_asks_j50 p1 p2 p3 s0_14 z
  else
    f_X6_asks_j25 z p1 p2 p3 s0_14
def f_X6_asks (z : Nat → Int32) (p1 : Int32) (p2 : Int32) (p3 : Int32) : Int32 × (Nat → Int32) :=
  if (f_X6_of z p1 4) ≤ 0 then
    f_X6_asks_j14 z p1 p2 p3 false
  else
    f_X6_asks_j14 z p1 p2 p3 true
def o_X6_asks_c70 (x4_67 : Bool) (z_c70 : Nat → Int32) : Prop :=
  if (vm_bi x4_67) = 0 then
    True
  else
    True
def o_X6_asks_j67 (p1 : Int32) (p2 : Int32) (x4_67 : Bool) (s0_67 : Bool) (z_67 : Nat → Int32) : Prop :=
  o_X6_addRequest z_67 p1 p2 (vm_bi s0_67) ∧
  (o_X6_asks_c70 x4_67 (f_X6_addRequest z_67 p1 p2 (vm_bi s0_67)))
def o_X6_asks_j70 (x4_70 : Bool) (z_70 : Nat → Int32) : Prop :=
  if (vm_bi x4_70) = 0 then
    True
  else
    True
def o_X6_asks_j50 (p1 : Int32) (p2 : Int32) (p3 : Int32) (x4_50 : Bool) (z_50 : Nat → Int32) : Prop :=
  if (vm_bi x4_50) = 0 then
    o_X6_asks_j70 x4_50 z_50
  else
    if p3 = 0 then
      o_X6_asks_j67 p1 p2 x4_50 false z_50
    else
      o_X6_asks_j67 p1 p2 x4_50 true z_50
def o_X6_asks_j48 (p1 : Int32) (p2 : Int32) (p3 : Int32) (x4_48 : Bool) (s0_48 : Bool) (s1_48 : Int32) (z_48 : Nat → Int32) : Prop :=
  o_X6_asks_j50 p1 p2 p3 x4_48 (upd z_48 (Int32.toNatClampNeg 8) (s1_48 + (vm_bi s0_48)))
def o_X6_asks_c31 (p1 : Int32) (p2 : Int32) (p3 : Int32) (x4_25 : Bool) (z_c31 : Nat → Int32) : Prop :=
  if p3 = 0 then
    o_X6_asks_j48 p1 p2 p3 x4_25 false (z_c31 (Int32.toNatClampNeg 8)) z_c31
  else
    o_X6_asks_j48 p1 p2 p3 x4_25 true (z_c31 (Int32.toNatClampNeg 8)) z_c31
def o_X6_asks_j25 (z : Nat → Int32) (p1 : Int32) (p2 : Int32) (p3 : Int32) (x4_25 : Bool) : Prop :=
  o_X6_make z p1 p2 ∧
  (o_X6_asks_c31 p1 p2 p3 x4_25 (f_X6_make z p1 p2))
def o_X6_asks_j14 (z : Nat → Int32) (p1 : Int32) (p2 : Int32) (p3 : Int32) (s0_14 : Bool) : Prop :=
  if p3 = 0 then
    if (vm_bi s0_14) = 0 then
      o_X6_asks_j25 z p1 p2 p3 s0_14
    else
      o_X6_asks_j50 p1 p2 p3 s0_14 z
  else
    o_X6_asks_j25 z p1 p2 p3 s0_14
def o_X6_asks (z : Nat → Int32) (p1 : Int32) (p2 : Int32) (p3 : Int32) : Prop :=
  o_X6_of z p1 4 ∧
  (if (f_X6_of z p1 4) ≤ 0 then
    o_X6_asks_j14 z p1 p2 p3 false
  else
    o_X6_asks_j14 z p1 p2 p3 true)
theorem yd_X6_asks : yX6_asks.cls = RX6 ∧ yX6_asks.cls ≠ "java/lang/invoke/MethodHandle" ∧ yX6_asks.cls ≠ "java/lang/invoke/VarHandle" ∧ (parseMethodDescriptor yX6_asks.desc).map (fun d => d.parameters.length) = some 3 := by decide +kernel
set_option maxHeartbeats 4000000 in
set_option maxRecDepth 100000 in
theorem c_X6_asks (l : Launch) (dC : Nat → ClassId) (dI : Nat → Nat → Nat) (cI cB : ClassId) (h0 h1 h2 h3 h4 : Nat) (sz : Nat) (states : Int32) (ln : Int32) (thr : Int32) (rd : Int32) (num : Int32) (due : Int32) (hash : Int64) (z : Nat → Int32) (hi : Nat → Int32) (tx : Nat → Int32) (pa : Nat → Int32) (p1 : Int32) (p2 : Int32) (p3 : Int32) (eO : o_X6_asks z p1 p2 p3) : Met l yX6_asks wsX6_asks ({ frames := 2, cells := 0, slots := 0, locals := 46 }) (vm_prw [.ref h0, .int p1, .int p2, .int p3] (dC, dI) [(h0, .inr (6, [.ref h1, .int states, .ref h2, .int ln, .ref h3, .int thr, .ref h4, .int rd, .int num, .int due, .long hash])), (h1, .inl (cI, 163, .inl z)), (h2, .inl (cI, 978, .inl hi)), (h3, .inl (cI, 60, .inl tx)), (h4, .inl (cI, 42, .inl pa))] cI cB sz) (va_Qi (fun (r9 : Int32) (_ : Unit) => r9 = (f_X6_asks z p1 p2 p3).1) (fun _ t => va_P (dC, dI) vwCl [(h0, .inr (6, [.ref h1, .int states, .ref h2, .int ln, .ref h3, .int thr, .ref h4, .int rd, .int num, .int due, .long hash])), (h1, .inl (cI, 163, .inl ((f_X6_asks z p1 p2 p3).2))), (h2, .inl (cI, 978, .inl hi)), (h3, .inl (cI, 60, .inl tx)), (h4, .inl (cI, 42, .inl pa))] t.heap) (va_A [(h0, .inr (6, [.ref h1, .int states, .ref h2, .int ln, .ref h3, .int thr, .ref h4, .int rd, .int num, .int due, .long hash])), (h1, .inl (cI, 163, .inl z)), (h2, .inl (cI, 978, .inl hi)), (h3, .inl (cI, 60, .inl tx)), (h4, .inl (cI, 42, .inl pa))] sz)) 0 0 (va_A [(h0, .inr (6, [.ref h1, .int states, .ref h2, .int ln, .ref h3, .int thr, .ref h4, .int rd, .int num, .int due, .long hash])), (h1, .inl (cI, 163, .inl z)), (h2, .inl (cI, 978, .inl hi)), (h3, .inl (cI, 60, .inl tx)), (h4, .inl (cI, 42, .inl pa))] sz) := by
  refine Met.ofW (cc := cX6_asks) (maxL := 5) (ret := (some .int)) (by decide) rfl ?_
  intro p e s m args below meth c s₁ B hml hv
  obtain ⟨rfl, hsz, hP, hK, hN, hD0⟩ := hv
  have hx := B.exec
  have hb := B.bytes
  have hr := B.returns
  have hts := atoms_spec (ws := wsX6_asks) B.pre
  have hown : s.vm.findClass RX6 = some m.cls := findClass_of_methodNamed B.named
  have hlocks := B.notSynchronized
  subst hsz
  have hD := hD0.self (sz := s.heap.size)
  generalize hAe : va_A [(h0, .inr (6, [.ref h1, .int states, .ref h2, .int ln, .ref h3, .int thr, .ref h4, .int rd, .int num, .int due, .long hash])), (h1, .inl (cI, 163, .inl z)), (h2, .inl (cI, 978, .inl hi)), (h3, .inl (cI, 60, .inl tx)), (h4, .inl (cI, 42, .inl pa))] s.heap.size = A at hD ⊢
  have hA : ∀ q : Nat, s.heap.size ≤ q → A q := fun q h => by rw [← hAe]; exact Or.inr h
  have hS : va_S A s.heap s.heap [] := va_S.rf
  have hP : va_P (dC, dI) vwCl [(h0, .inr (6, [.ref h1, .int states, .ref h2, .int ln, .ref h3, .int thr, .ref h4, .int rd, .int num, .int due, .long hash])), (h1, .inl (cI, 163, .inl z)), (h2, .inl (cI, 978, .inl hi)), (h3, .inl (cI, 60, .inl tx)), (h4, .inl (cI, 42, .inl pa))] s.heap := hP
  have kw1 := hts (.fieldLink RX6 7 "LapseMandatesModel" "z" "[I") (List.mem_of_getElem? (i := 1) rfl)
  have iwsX60 : ∀ w ∈ wsX60, w ∈ wsX6_asks := fun w h => List.mem_cons_of_mem _ (List.mem_append_right _ h)
  generalize hrr : f_X6_asks z p1 p2 p3 = rr
  have eF := hrr.symm
  have hl := lv_entry ([.ref h0, .int p1, .int p2, .int p3]) (n := 5) (Nat.le_of_ble_eq_true rfl)
  rw [lg_entry_eq]
  generalize (lg_sl ([.ref h0, .int p1, .int p2, .int p3]) ++ List.replicate (5 - (lg_sl ([.ref h0, .int p1, .int p2, .int p3])).length) Slot.unset).toArray = ls at hl ⊢
  have hl : lv_has ls 5 [(0, .ref h0), (1, .int p1), (2, .int p2), (3, .int p3)] := hl
  have hJ70 : ∀ (x4_70 : Bool) (z_70 : Nat → Int32), rr = f_X6_asks_j70 x4_70 z_70 → o_X6_asks_j70 x4_70 z_70 → ∀ (H : Heap) (locs : List Loc), va_P (dC, dI) vwCl [(h0, .inr (6, [.ref h1, .int states, .ref h2, .int ln, .ref h3, .int thr, .ref h4, .int rd, .int num, .int due, .long hash])), (h1, .inl (cI, 163, .inl z_70)), (h2, .inl (cI, 978, .inl hi)), (h3, .inl (cI, 60, .inl tx)), (h4, .inl (cI, 42, .inl pa))] H → va_D A [(h0, .inr (6, [.ref h1, .int states, .ref h2, .int ln, .ref h3, .int thr, .ref h4, .int rd, .int num, .int due, .long hash])), (h1, .inl (cI, 163, .inl z_70)), (h2, .inl (cI, 978, .inl hi)), (h3, .inl (cI, 60, .inl tx)), (h4, .inl (cI, 42, .inl pa))] → va_S A s.heap H locs → ∀ (ls : Array Slot), lv_has ls 5 [(4, .int (vm_bi x4_70))] → W p l e (headSpec wsX6_asks ({ frames := 2, cells := 0, slots := 0, locals := 46 })).room s m ([.ref h0, .int p1, .int p2, .int p3] : List Value).toArray below meth c H locs 0 0 (MQ below (va_Qi (fun (r9 : Int32) (_ : Unit) => r9 = rr.1) (fun _ t => va_P (dC, dI) vwCl [(h0, .inr (6, [.ref h1, .int states, .ref h2, .int ln, .ref h3, .int thr, .ref h4, .int rd, .int num, .int due, .long hash])), (h1, .inl (cI, 163, .inl rr.2)), (h2, .inl (cI, 978, .inl hi)), (h3, .inl (cI, 60, .inl tx)), (h4, .inl (cI, 42, .inl pa))] t.heap) A) ([.ref h0, .int p1, .int p2, .int p3] : List Value).toArray s 0 0 A) (F0 m 70 ls []) := by
    intro x4_70 z_70 eF eO H locs hP hD hS ls hl
    rw [o_X6_asks_j70] at eO
    refine lv_iload hx hb dX6_asks_70 (lv_at hl 0 rfl) ?_
    refine lv_if_eq (tgt := 79) hx hb dX6_asks_72 (by decide) (fun c_1 => ?_) (fun c_1 => ?_)
    · rw [if_pos c_1] at eO
      refine lv_iconst (v := 0) hx hb dX6_asks_79 (by decide) ?_
      have e9 : rr = (0, z_70) := eF.trans (by rw [f_X6_asks_j70, if_pos c_1])
      exact W.iret (v := 0) hx hb hr (fun t ht hW => ⟨⟨_, (), rfl, by rw [e9], (by rw [e9]; show va_P _ _ _ t.heap; rw [ht]; exact hP)⟩, hS.F ht⟩) hS.2.2 dX6_asks_80
    · rw [if_neg c_1] at eO
      refine lv_iconst (v := 1) hx hb dX6_asks_75 (by decide) ?_
      refine lv_goto (tgt := 80) hx hb dX6_asks_76 (by decide) ?_
      have e9 : rr = (1, z_70) := eF.trans (by rw [f_X6_asks_j70, if_neg c_1])
      exact W.iret (v := 1) hx hb hr (fun t ht hW => ⟨⟨_, (), rfl, by rw [e9], (by rw [e9]; show va_P _ _ _ t.heap; rw [ht]; exact hP)⟩, hS.F ht⟩) hS.2.2 dX6_asks_80
  have hJ67 : ∀ (x4_67 : Bool) (s0_67 : Bool) (z_67 : Nat → Int32), rr = f_X6_asks_j67 p1 p2 x4_67 s0_67 z_67 → o_X6_asks_j67 p1 p2 x4_67 s0_67 z_67 → ∀ (H : Heap) (locs : List Loc), va_P (dC, dI) vwCl [(h0, .inr (6, [.ref h1, .int states, .ref h2, .int ln, .ref h3, .int thr, .ref h4, .int rd, .int num, .int due, .long hash])), (h1, .inl (cI, 163, .inl z_67)), (h2, .inl (cI, 978, .inl hi)), (h3, .inl (cI, 60, .inl tx)), (h4, .inl (cI, 42, .inl pa))] H → va_D A [(h0, .inr (6, [.ref h1, .int states, .ref h2, .int ln, .ref h3, .int thr, .ref h4, .int rd, .int num, .int due, .long hash])), (h1, .inl (cI, 163, .inl z_67)), (h2, .inl (cI, 978, .inl hi)), (h3, .inl (cI, 60, .inl tx)), (h4, .inl (cI, 42, .inl pa))] → va_S A s.heap H locs → ∀ (ls : Array Slot), lv_has ls 5 [(4, .int (vm_bi x4_67))] → W p l e (headSpec wsX6_asks ({ frames := 2, cells := 0, slots := 0, locals := 46 })).room s m ([.ref h0, .int p1, .int p2, .int p3] : List Value).toArray below meth c H locs 0 0 (MQ below (va_Qi (fun (r9 : Int32) (_ : Unit) => r9 = rr.1) (fun _ t => va_P (dC, dI) vwCl [(h0, .inr (6, [.ref h1, .int states, .ref h2, .int ln, .ref h3, .int thr, .ref h4, .int rd, .int num, .int due, .long hash])), (h1, .inl (cI, 163, .inl rr.2)), (h2, .inl (cI, 978, .inl hi)), (h3, .inl (cI, 60, .inl tx)), (h4, .inl (cI, 42, .inl pa))] t.heap) A) ([.ref h0, .int p1, .int p2, .int p3] : List Value).toArray s 0 0 A) (F0 m 67 ls [.int (vm_bi s0_67), .int p2, .int p1, .ref h0]) := by
    intro x4_67 s0_67 z_67 eF eO H locs hP hD hS ls hl
    rw [o_X6_asks_j67] at eO
    obtain ⟨hv_2, eO⟩ := eO
    refine vm_rwVv (As := [.int p1, .int p2, .int (vm_bi s0_67)]) (rest := []) (T := TX6) (N := 11) (wc := [(h0, .inr (6, [.ref h1, .int states, .ref h2, .int ln, .ref h3, .int thr, .ref h4, .int rd, .int num, .int due, .long hash])), (h1, .inl (cI, 163, .inl z_67)), (h2, .inl (cI, 978, .inl hi)), (h3, .inl (cI, 60, .inl tx)), (h4, .inl (cI, 42, .inl pa))]) (w1 := [(h0, .inr (6, [.ref h1, .int states, .ref h2, .int ln, .ref h3, .int thr, .ref h4, .int rd, .int num, .int due, .long hash])), (h1, .inl (cI, 163, .inl (f_X6_addRequest z_67 p1 p2 (vm_bi s0_67)))), (h2, .inl (cI, 978, .inl hi)), (h3, .inl (cI, 60, .inl tx)), (h4, .inl (cI, 42, .inl pa))]) ⟨hx, hb, hml, hown, hts⟩ hK hN hP hD hS hA hl.1 ⟨Nat.le_of_ble_eq_true rfl, Nat.le_of_ble_eq_true rfl⟩ (c_X6_addRequest l dC dI cI cB h0 h1 h2 h3 h4 _ states ln thr rd num due hash z_67 hi tx pa p1 p2 (vm_bi s0_67) hv_2) (cwV 3 hts gX6_asks_X6_addRequest rfl rfl rfl yd_X6_addRequest ⟨Nat.le_of_ble_eq_true rfl, Nat.le_of_ble_eq_true rfl⟩) [0, 1, 2, 3, 4] rfl rfl rfl 6 rfl rfl rfl rfl (Nat.le_of_ble_eq_true rfl) dX6_asks_67 (fun H locs hP hD hS => ?_)
    have hP : va_P (dC, dI) vwCl [(h0, .inr (6, [.ref h1, .int states, .ref h2, .int ln, .ref h3, .int thr, .ref h4, .int rd, .int num, .int due, .long hash])), (h1, .inl (cI, 163, .inl (f_X6_addRequest z_67 p1 p2 (vm_bi s0_67)))), (h2, .inl (cI, 978, .inl hi)), (h3, .inl (cI, 60, .inl tx)), (h4, .inl (cI, 42, .inl pa))] H := hP
    have hD : va_D A [(h0, .inr (6, [.ref h1, .int states, .ref h2, .int ln, .ref h3, .int thr, .ref h4, .int rd, .int num, .int due, .long hash])), (h1, .inl (cI, 163, .inl (f_X6_addRequest z_67 p1 p2 (vm_bi s0_67)))), (h2, .inl (cI, 978, .inl hi)), (h3, .inl (cI, 60, .inl tx)), (h4, .inl (cI, 42, .inl pa))] := hD
    obtain ⟨z_c70, ez_c70⟩ : ∃ zz9, zz9 = (f_X6_addRequest z_67 p1 p2 (vm_bi s0_67)) := ⟨_, rfl⟩
    rw [← ez_c70] at hP hD
    have eF : rr = f_X6_asks_c70 x4_67 z_c70 := eF.trans (by rw [f_X6_asks_j67, ez_c70])
    have eO : o_X6_asks_c70 x4_67 z_c70 := by rw [ez_c70]; exact eO
    rw [o_X6_asks_c70] at eO
    refine lv_iload hx hb dX6_asks_70 (lv_at hl 0 rfl) ?_
    refine lv_if_eq (tgt := 79) hx hb dX6_asks_72 (by decide) (fun c_3 => ?_) (fun c_3 => ?_)
    · rw [if_pos c_3] at eO
      refine lv_iconst (v := 0) hx hb dX6_asks_79 (by decide) ?_
      have e9 : rr = (0, z_c70) := eF.trans (by rw [f_X6_asks_c70, if_pos c_3])
      exact W.iret (v := 0) hx hb hr (fun t ht hW => ⟨⟨_, (), rfl, by rw [e9], (by rw [e9]; show va_P _ _ _ t.heap; rw [ht]; exact hP)⟩, hS.F ht⟩) hS.2.2 dX6_asks_80
    · rw [if_neg c_3] at eO
      refine lv_iconst (v := 1) hx hb dX6_asks_75 (by decide) ?_
      refine lv_goto (tgt := 80) hx hb dX6_asks_76 (by decide) ?_
      have e9 : rr = (1, z_c70) := eF.trans (by rw [f_X6_asks_c70, if_neg c_3])
      exact W.iret (v := 1) hx hb hr (fun t ht hW => ⟨⟨_, (), rfl, by rw [e9], (by rw [e9]; show va_P _ _ _ t.heap; rw [ht]; exact hP)⟩, hS.F ht⟩) hS.2.2 dX6_asks_80
  have hJ50 : ∀ (x4_50 : Bool) (z_50 : Nat → Int32), rr = f_X6_asks_j50 p1 p2 p3 x4_50 z_50 → o_X6_asks_j50 p1 p2 p3 x4_50 z_50 → ∀ (H : Heap) (locs : List Loc), va_P (dC, dI) vwCl [(h0, .inr (6, [.ref h1, .int states, .ref h2, .int ln, .ref h3, .int thr, .ref h4, .int rd, .int num, .int due, .long hash])), (h1, .inl (cI, 163, .inl z_50)), (h2, .inl (cI, 978, .inl hi)), (h3, .inl (cI, 60, .inl tx)), (h4, .inl (cI, 42, .inl pa))] H → va_D A [(h0, .inr (6, [.ref h1, .int states, .ref h2, .int ln, .ref h3, .int thr, .ref h4, .int rd, .int num, .int due, .long hash])), (h1, .inl (cI, 163, .inl z_50)), (h2, .inl (cI, 978, .inl hi)), (h3, .inl (cI, 60, .inl tx)), (h4, .inl (cI, 42, .inl pa))] → va_S A s.heap H locs → ∀ (ls : Array Slot), lv_has ls 5 [(0, .ref h0), (1, .int p1), (2, .int p2), (3, .int p3), (4, .int (vm_bi x4_50))] → W p l e (headSpec wsX6_asks ({ frames := 2, cells := 0, slots := 0, locals := 46 })).room s m ([.ref h0, .int p1, .int p2, .int p3] : List Value).toArray below meth c H locs 0 0 (MQ below (va_Qi (fun (r9 : Int32) (_ : Unit) => r9 = rr.1) (fun _ t => va_P (dC, dI) vwCl [(h0, .inr (6, [.ref h1, .int states, .ref h2, .int ln, .ref h3, .int thr, .ref h4, .int rd, .int num, .int due, .long hash])), (h1, .inl (cI, 163, .inl rr.2)), (h2, .inl (cI, 978, .inl hi)), (h3, .inl (cI, 60, .inl tx)), (h4, .inl (cI, 42, .inl pa))] t.heap) A) ([.ref h0, .int p1, .int p2, .int p3] : List Value).toArray s 0 0 A) (F0 m 50 ls []) := by
    intro x4_50 z_50 eF eO H locs hP hD hS ls hl
    rw [o_X6_asks_j50] at eO
    refine lv_iload hx hb dX6_asks_50 (lv_at hl 4 rfl) ?_
    refine lv_if_eq (tgt := 70) hx hb dX6_asks_52 (by decide) (fun c_4 => ?_) (fun c_4 => ?_)
    · rw [if_pos c_4] at eO
      exact hJ70 x4_50 z_50 (eF.trans (by rw [f_X6_asks_j50, if_pos c_4])) eO _ _ hP hD hS ls (lv_sub hl [4] rfl)
    · rw [if_neg c_4] at eO
      refine lv_aload_n hx hb dX6_asks_55 rfl (lv_at hl 0 rfl) ?_
      refine lv_iload_n hx hb dX6_asks_56 rfl (lv_at hl 1 rfl) ?_
      refine lv_iload_n hx hb dX6_asks_57 rfl (lv_at hl 2 rfl) ?_
      refine lv_iload_n hx hb dX6_asks_58 rfl (lv_at hl 3 rfl) ?_
      refine lv_if_eq (tgt := 66) hx hb dX6_asks_59 (by decide) (fun c_5 => ?_) (fun c_5 => ?_)
      · rw [if_pos c_5] at eO
        refine lv_iconst (v := 0) hx hb dX6_asks_66 (by decide) ?_
        exact hJ67 x4_50 false z_50 (eF.trans (by rw [f_X6_asks_j50, if_neg c_4, if_pos c_5])) eO _ _ hP hD hS ls (lv_sub hl [4] rfl)
      · rw [if_neg c_5] at eO
        refine lv_iconst (v := 1) hx hb dX6_asks_62 (by decide) ?_
        refine lv_goto (tgt := 67) hx hb dX6_asks_63 (by decide) ?_
        exact hJ67 x4_50 true z_50 (eF.trans (by rw [f_X6_asks_j50, if_neg c_4, if_neg c_5])) eO _ _ hP hD hS ls (lv_sub hl [4] rfl)
  have hJ48 : ∀ (x4_48 : Bool) (s0_48 : Bool) (s1_48 : Int32) (z_48 : Nat → Int32), rr = f_X6_asks_j48 p1 p2 p3 x4_48 s0_48 s1_48 z_48 → o_X6_asks_j48 p1 p2 p3 x4_48 s0_48 s1_48 z_48 → ∀ (H : Heap) (locs : List Loc), va_P (dC, dI) vwCl [(h0, .inr (6, [.ref h1, .int states, .ref h2, .int ln, .ref h3, .int thr, .ref h4, .int rd, .int num, .int due, .long hash])), (h1, .inl (cI, 163, .inl z_48)), (h2, .inl (cI, 978, .inl hi)), (h3, .inl (cI, 60, .inl tx)), (h4, .inl (cI, 42, .inl pa))] H → va_D A [(h0, .inr (6, [.ref h1, .int states, .ref h2, .int ln, .ref h3, .int thr, .ref h4, .int rd, .int num, .int due, .long hash])), (h1, .inl (cI, 163, .inl z_48)), (h2, .inl (cI, 978, .inl hi)), (h3, .inl (cI, 60, .inl tx)), (h4, .inl (cI, 42, .inl pa))] → va_S A s.heap H locs → ∀ (ls : Array Slot), lv_has ls 5 [(0, .ref h0), (1, .int p1), (2, .int p2), (3, .int p3), (4, .int (vm_bi x4_48))] → W p l e (headSpec wsX6_asks ({ frames := 2, cells := 0, slots := 0, locals := 46 })).room s m ([.ref h0, .int p1, .int p2, .int p3] : List Value).toArray below meth c H locs 0 0 (MQ below (va_Qi (fun (r9 : Int32) (_ : Unit) => r9 = rr.1) (fun _ t => va_P (dC, dI) vwCl [(h0, .inr (6, [.ref h1, .int states, .ref h2, .int ln, .ref h3, .int thr, .ref h4, .int rd, .int num, .int due, .long hash])), (h1, .inl (cI, 163, .inl rr.2)), (h2, .inl (cI, 978, .inl hi)), (h3, .inl (cI, 60, .inl tx)), (h4, .inl (cI, 42, .inl pa))] t.heap) A) ([.ref h0, .int p1, .int p2, .int p3] : List Value).toArray s 0 0 A) (F0 m 48 ls [.int (vm_bi s0_48), .int s1_48, .int 8, .ref h1]) := by
    intro x4_48 s0_48 s1_48 z_48 eF eO H locs hP hD hS ls hl
    rw [o_X6_asks_j48] at eO
    refine lv_iadd hx hb dX6_asks_48 ?_
    refine va_iast hx hb hK hP hD hS 1 0 rfl rfl (by unfold vp_in; decide) dX6_asks_49 (fun H locs hP hD hS => ?_)
    have hP : va_P (dC, dI) vwCl [(h0, .inr (6, [.ref h1, .int states, .ref h2, .int ln, .ref h3, .int thr, .ref h4, .int rd, .int num, .int due, .long hash])), (h1, .inl (cI, 163, .inl (upd z_48 (Int32.toNatClampNeg 8) (s1_48 + (vm_bi s0_48))))), (h2, .inl (cI, 978, .inl hi)), (h3, .inl (cI, 60, .inl tx)), (h4, .inl (cI, 42, .inl pa))] H := hP
    have hD : va_D A [(h0, .inr (6, [.ref h1, .int states, .ref h2, .int ln, .ref h3, .int thr, .ref h4, .int rd, .int num, .int due, .long hash])), (h1, .inl (cI, 163, .inl (upd z_48 (Int32.toNatClampNeg 8) (s1_48 + (vm_bi s0_48))))), (h2, .inl (cI, 978, .inl hi)), (h3, .inl (cI, 60, .inl tx)), (h4, .inl (cI, 42, .inl pa))] := hD
    exact hJ50 x4_48 (upd z_48 (Int32.toNatClampNeg 8) (s1_48 + (vm_bi s0_48))) (eF.trans (by rw [f_X6_asks_j48])) eO _ _ hP hD hS ls (lv_sub hl [0, 1, 2, 3, 4] rfl)
  have hJ25 : ∀ (x4_25 : Bool), rr = f_X6_asks_j25 z p1 p2 p3 x4_25 → o_X6_asks_j25 z p1 p2 p3 x4_25 → ∀ (H : Heap) (locs : List Loc), va_P (dC, dI) vwCl [(h0, .inr (6, [.ref h1, .int states, .ref h2, .int ln, .ref h3, .int thr, .ref h4, .int rd, .int num, .int due, .long hash])), (h1, .inl (cI, 163, .inl z)), (h2, .inl (cI, 978, .inl hi)), (h3, .inl (cI, 60, .inl tx)), (h4, .inl (cI, 42, .inl pa))] H → va_D A [(h0, .inr (6, [.ref h1, .int states, .ref h2, .int ln, .ref h3, .int thr, .ref h4, .int rd, .int num, .int due, .long hash])), (h1, .inl (cI, 163, .inl z)), (h2, .inl (cI, 978, .inl hi)), (h3, .inl (cI, 60, .inl tx)), (h4, .inl (cI, 42, .inl pa))] → va_S A s.heap H locs → ∀ (ls : Array Slot), lv_has ls 5 [(0, .ref h0), (1, .int p1), (2, .int p2), (3, .int p3), (4, .int (vm_bi x4_25))] → W p l e (headSpec wsX6_asks ({ frames := 2, cells := 0, slots := 0, locals := 46 })).room s m ([.ref h0, .int p1, .int p2, .int p3] : List Value).toArray below meth c H locs 0 0 (MQ below (va_Qi (fun (r9 : Int32) (_ : Unit) => r9 = rr.1) (fun _ t => va_P (dC, dI) vwCl [(h0, .inr (6, [.ref h1, .int states, .ref h2, .int ln, .ref h3, .int thr, .ref h4, .int rd, .int num, .int due, .long hash])), (h1, .inl (cI, 163, .inl rr.2)), (h2, .inl (cI, 978, .inl hi)), (h3, .inl (cI, 60, .inl tx)), (h4, .inl (cI, 42, .inl pa))] t.heap) A) ([.ref h0, .int p1, .int p2, .int p3] : List Value).toArray s 0 0 A) (F0 m 25 ls []) := by
    intro x4_25 eF eO H locs hP hD hS ls hl
    rw [o_X6_asks_j25] at eO
    refine lv_aload_n hx hb dX6_asks_25 rfl (lv_at hl 0 rfl) ?_
    refine lv_iload_n hx hb dX6_asks_26 rfl (lv_at hl 1 rfl) ?_
    refine lv_iload_n hx hb dX6_asks_27 rfl (lv_at hl 2 rfl) ?_
    obtain ⟨hv_6, eO⟩ := eO
    refine vm_rwVv (As := [.int p1, .int p2]) (rest := []) (T := TX6) (N := 11) (wc := [(h0, .inr (6, [.ref h1, .int states, .ref h2, .int ln, .ref h3, .int thr, .ref h4, .int rd, .int num, .int due, .long hash])), (h1, .inl (cI, 163, .inl z)), (h2, .inl (cI, 978, .inl hi)), (h3, .inl (cI, 60, .inl tx)), (h4, .inl (cI, 42, .inl pa))]) (w1 := [(h0, .inr (6, [.ref h1, .int states, .ref h2, .int ln, .ref h3, .int thr, .ref h4, .int rd, .int num, .int due, .long hash])), (h1, .inl (cI, 163, .inl (f_X6_make z p1 p2))), (h2, .inl (cI, 978, .inl hi)), (h3, .inl (cI, 60, .inl tx)), (h4, .inl (cI, 42, .inl pa))]) ⟨hx, hb, hml, hown, hts⟩ hK hN hP hD hS hA hl.1 ⟨Nat.le_of_ble_eq_true rfl, Nat.le_of_ble_eq_true rfl⟩ (c_X6_make l dC dI cI cB h0 h1 h2 h3 h4 _ states ln thr rd num due hash z hi tx pa p1 p2 hv_6) (cwV 2 hts gX6_asks_X6_make rfl rfl rfl yd_X6_make ⟨Nat.le_of_ble_eq_true rfl, Nat.le_of_ble_eq_true rfl⟩) [0, 1, 2, 3, 4] rfl rfl rfl 6 rfl rfl rfl rfl (Nat.le_of_ble_eq_true rfl) dX6_asks_28 (fun H locs hP hD hS => ?_)
    have hP : va_P (dC, dI) vwCl [(h0, .inr (6, [.ref h1, .int states, .ref h2, .int ln, .ref h3, .int thr, .ref h4, .int rd, .int num, .int due, .long hash])), (h1, .inl (cI, 163, .inl (f_X6_make z p1 p2))), (h2, .inl (cI, 978, .inl hi)), (h3, .inl (cI, 60, .inl tx)), (h4, .inl (cI, 42, .inl pa))] H := hP
    have hD : va_D A [(h0, .inr (6, [.ref h1, .int states, .ref h2, .int ln, .ref h3, .int thr, .ref h4, .int rd, .int num, .int due, .long hash])), (h1, .inl (cI, 163, .inl (f_X6_make z p1 p2))), (h2, .inl (cI, 978, .inl hi)), (h3, .inl (cI, 60, .inl tx)), (h4, .inl (cI, 42, .inl pa))] := hD
    obtain ⟨z_c31, ez_c31⟩ : ∃ zz9, zz9 = (f_X6_make z p1 p2) := ⟨_, rfl⟩
    rw [← ez_c31] at hP hD
    have eF : rr = f_X6_asks_c31 p1 p2 p3 x4_25 z_c31 := eF.trans (by rw [f_X6_asks_j25, ez_c31])
    have eO : o_X6_asks_c31 p1 p2 p3 x4_25 z_c31 := by rw [ez_c31]; exact eO
    rw [o_X6_asks_c31] at eO
    refine lv_aload_n hx hb dX6_asks_31 rfl (lv_at hl 0 rfl) ?_
    refine va_get (D := (dC, dI)) (ci := 6) (v := .ref h1) (C := RX6) (T := TX6) (N := 11) hx hb hts iwsX60 hown hK hP 0 rfl rfl 0 (by decide) kw1 (fun _ h9 => h9) rfl dX6_asks_32 ?_
    refine lv_bipush (v := 8) hx hb dX6_asks_35 (by decide) ?_
    refine lv_dup2_11 hx hb dX6_asks_37 rfl rfl ?_
    refine va_iald hx hb hK hP 1 0 rfl rfl (by unfold vp_in; decide) dX6_asks_38 ?_
    refine lv_iload_n hx hb dX6_asks_39 rfl (lv_at hl 3 rfl) ?_
    refine lv_if_eq (tgt := 47) hx hb dX6_asks_40 (by decide) (fun c_7 => ?_) (fun c_7 => ?_)
    · rw [if_pos c_7] at eO
      refine lv_iconst (v := 0) hx hb dX6_asks_47 (by decide) ?_
      exact hJ48 x4_25 false (z_c31 (Int32.toNatClampNeg 8)) z_c31 (eF.trans (by rw [f_X6_asks_c31, if_pos c_7])) eO _ _ hP hD hS ls (lv_sub hl [0, 1, 2, 3, 4] rfl)
    · rw [if_neg c_7] at eO
      refine lv_iconst (v := 1) hx hb dX6_asks_43 (by decide) ?_
      refine lv_goto (tgt := 48) hx hb dX6_asks_44 (by decide) ?_
      exact hJ48 x4_25 true (z_c31 (Int32.toNatClampNeg 8)) z_c31 (eF.trans (by rw [f_X6_asks_c31, if_neg c_7])) eO _ _ hP hD hS ls (lv_sub hl [0, 1, 2, 3, 4] rfl)
  have hJ14 : ∀ (s0_14 : Bool), rr = f_X6_asks_j14 z p1 p2 p3 s0_14 → o_X6_asks_j14 z p1 p2 p3 s0_14 → ∀ (H : Heap) (locs : List Loc), va_P (dC, dI) vwCl [(h0, .inr (6, [.ref h1, .int states, .ref h2, .int ln, .ref h3, .int thr, .ref h4, .int rd, .int num, .int due, .long hash])), (h1, .inl (cI, 163, .inl z)), (h2, .inl (cI, 978, .inl hi)), (h3, .inl (cI, 60, .inl tx)), (h4, .inl (cI, 42, .inl pa))] H → va_D A [(h0, .inr (6, [.ref h1, .int states, .ref h2, .int ln, .ref h3, .int thr, .ref h4, .int rd, .int num, .int due, .long hash])), (h1, .inl (cI, 163, .inl z)), (h2, .inl (cI, 978, .inl hi)), (h3, .inl (cI, 60, .inl tx)), (h4, .inl (cI, 42, .inl pa))] → va_S A s.heap H locs → ∀ (ls : Array Slot), lv_has ls 5 [(0, .ref h0), (1, .int p1), (2, .int p2), (3, .int p3)] → W p l e (headSpec wsX6_asks ({ frames := 2, cells := 0, slots := 0, locals := 46 })).room s m ([.ref h0, .int p1, .int p2, .int p3] : List Value).toArray below meth c H locs 0 0 (MQ below (va_Qi (fun (r9 : Int32) (_ : Unit) => r9 = rr.1) (fun _ t => va_P (dC, dI) vwCl [(h0, .inr (6, [.ref h1, .int states, .ref h2, .int ln, .ref h3, .int thr, .ref h4, .int rd, .int num, .int due, .long hash])), (h1, .inl (cI, 163, .inl rr.2)), (h2, .inl (cI, 978, .inl hi)), (h3, .inl (cI, 60, .inl tx)), (h4, .inl (cI, 42, .inl pa))] t.heap) A) ([.ref h0, .int p1, .int p2, .int p3] : List Value).toArray s 0 0 A) (F0 m 14 ls [.int (vm_bi s0_14)]) := by
    intro s0_14 eF eO H locs hP hD hS ls hl
    rw [o_X6_asks_j14] at eO
    refine lv_istore (lv' := [(4, .int (vm_bi s0_14)), (0, .ref h0), (1, .int p1), (2, .int p2), (3, .int p3)]) hx hb dX6_asks_14 hl (by decide) rfl (fun ls hl => ?_)
    refine lv_iload_n hx hb dX6_asks_16 rfl (lv_at hl 4 rfl) ?_
    refine lv_if_ne (tgt := 25) hx hb dX6_asks_17 (by decide) (fun c_8 => ?_) (fun c_8 => ?_)
    · rw [if_neg c_8] at eO
      exact hJ25 s0_14 (eF.trans (by rw [f_X6_asks_j14, if_neg c_8])) eO _ _ hP hD hS ls (lv_sub hl [1, 2, 3, 4, 0] rfl)
    · rw [if_pos c_8] at eO
      refine lv_iload hx hb dX6_asks_20 (lv_at hl 0 rfl) ?_
      refine lv_if_ne (tgt := 50) hx hb dX6_asks_22 (by decide) (fun c_9 => ?_) (fun c_9 => ?_)
      · rw [if_neg c_9] at eO
        exact hJ50 s0_14 z (eF.trans (by rw [f_X6_asks_j14, if_pos c_8, if_neg c_9])) eO _ _ hP hD hS ls (lv_sub hl [1, 2, 3, 4, 0] rfl)
      · rw [if_pos c_9] at eO
        exact hJ25 s0_14 (eF.trans (by rw [f_X6_asks_j14, if_pos c_8, if_pos c_9])) eO _ _ hP hD hS ls (lv_sub hl [1, 2, 3, 4, 0] rfl)
  rw [o_X6_asks] at eO
  refine lv_aload_n hx hb dX6_asks_0 rfl (lv_at hl 0 rfl) ?_
  refine lv_iload_n hx hb dX6_asks_1 rfl (lv_at hl 1 rfl) ?_
  refine lv_iconst (v := 4) hx hb dX6_asks_2 (by decide) ?_
  obtain ⟨hv_10, eO⟩ := eO
  refine vm_roVx (v := (f_X6_of z p1 4)) (As := [.int p1, .int 4]) (rest := []) (T := TX6) (N := 11) (wc := [(h0, .inr (6, [.ref h1, .int states, .ref h2, .int ln, .ref h3, .int thr, .ref h4, .int rd, .int num, .int due, .long hash])), (h1, .inl (cI, 163, .inl z)), (h2, .inl (cI, 978, .inl hi)), (h3, .inl (cI, 60, .inl tx)), (h4, .inl (cI, 42, .inl pa))]) ⟨hx, hb, hml, hown, hts⟩ hK hN hP hl.1 ⟨Nat.le_of_ble_eq_true rfl, Nat.le_of_ble_eq_true rfl⟩ (c_X6_of l dC dI cI cB h0 h1 h2 h3 h4 states ln thr rd num due hash z hi tx pa p1 4 hv_10) (cwV 2 hts gX6_asks_X6_of rfl rfl rfl yd_X6_of ⟨Nat.le_of_ble_eq_true rfl, Nat.le_of_ble_eq_true rfl⟩) [0, 1, 2, 3, 4] rfl 6 rfl rfl rfl rfl (Nat.le_of_ble_eq_true rfl) dX6_asks_3 ?_
  refine lv_if_le (tgt := 13) hx hb dX6_asks_6 (by decide) (fun c_11 => ?_) (fun c_11 => ?_)
  · rw [if_pos c_11] at eO
    refine lv_iconst (v := 0) hx hb dX6_asks_13 (by decide) ?_
    exact hJ14 false (eF.trans (by rw [f_X6_asks, if_pos c_11])) eO _ _ hP hD hS ls (lv_sub hl [0, 1, 2, 3] rfl)
  · rw [if_neg c_11] at eO
    refine lv_iconst (v := 1) hx hb dX6_asks_9 (by decide) ?_
    refine lv_goto (tgt := 14) hx hb dX6_asks_10 (by decide) ?_
    exact hJ14 true (eF.trans (by rw [f_X6_asks, if_neg c_11])) eO _ _ hP hD hS ls (lv_sub hl [0, 1, 2, 3] rfl)
