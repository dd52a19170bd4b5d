def f_X5_checkRange_n_j10 : Unit :=
  ()
def f_X5_checkRange_n (p1 : Int32) (p2 : Int32) (p3 : Int32) : Unit :=
  if p1 < p2 then
    f_X5_checkRange_n_j10
  else
    if p1 ≤ p3 then
      ()
    else
      f_X5_checkRange_n_j10
def o_X5_checkRange_n_j10 : Prop :=
  False
def o_X5_checkRange_n (p1 : Int32) (p2 : Int32) (p3 : Int32) : Prop :=
  if p1 < p2 then
    o_X5_checkRange_n_j10
  else
    if p1 ≤ p3 then
      True
    else
      o_X5_checkRange_n_j10
set_option maxHeartbeats 4000000 in
set_option maxRecDepth 100000 in
theorem c_X5_checkRange_n (l : Launch) (dC : Nat → ClassId) (dI : Nat → Nat → Nat) (cI cB : ClassId) (p1 : Int32) (p2 : Int32) (p3 : Int32) (eO : o_X5_checkRange_n p1 p2 p3) : Met l yX5_checkRange wsX5_checkRange ({ frames := 0, cells := 0, slots := 0, locals := 0 }) (vm_pre [.int p1, .int p2, .int p3] (dC, dI) [] cI cB) (va_Sv (fun _ => True)) 0 0 (fun _ => False) := by
  refine Met.ofW (cc := cX5_checkRange) (maxL := 3) (ret := none) (by decide) rfl ?_
  intro p e s m args below meth c s₁ B hml hv
  obtain ⟨rfl, hP, hK, hN⟩ := hv
  have hx := B.exec
  have hb := B.bytes
  have hr := B.returns
  have hts := atoms_spec (ws := wsX5_checkRange) B.pre
  have hown : s.vm.findClass RX5 = some m.cls := findClass_of_methodNamed B.named
  have hlocks := B.notSynchronized
  generalize hrr : f_X5_checkRange_n p1 p2 p3 = rr
  have eF := hrr.symm
  have hl := lv_entry ([.int p1, .int p2, .int p3]) (n := 3) (Nat.le_of_ble_eq_true rfl)
  rw [lg_entry_eq]
  generalize (lg_sl ([.int p1, .int p2, .int p3]) ++ List.replicate (3 - (lg_sl ([.int p1, .int p2, .int p3])).length) Slot.unset).toArray = ls at hl ⊢
  have hl : lv_has ls 3 [(0, .int p1), (1, .int p2), (2, .int p3)] := hl
  have hJ10 : rr = f_X5_checkRange_n_j10 → o_X5_checkRange_n_j10 → ∀ (ls : Array Slot), lv_has ls 3 [] → W p l e (headSpec wsX5_checkRange ({ frames := 0, cells := 0, slots := 0, locals := 0 })).room s m ([.int p1, .int p2, .int p3] : List Value).toArray below meth c s.heap [] 0 0 (MQ below (va_Sv (fun _ => True)) ([.int p1, .int p2, .int p3] : List Value).toArray s 0 0 (fun _ => False)) (F0 m 10 ls []) := by
    intro eF eO ls hl
    rw [o_X5_checkRange_n_j10] at eO
    exact False.elim eO
  rw [o_X5_checkRange_n] at eO
  refine lv_iload_n hx hb dX5_checkRange_0 rfl (lv_at hl 0 rfl) ?_
  refine lv_iload_n hx hb dX5_checkRange_1 rfl (lv_at hl 1 rfl) ?_
  refine lv_icmp_lt (tgt := 10) hx hb dX5_checkRange_2 (by decide) (fun c_1 => ?_) (fun c_1 => ?_)
  · rw [if_pos c_1] at eO
    exact hJ10 (eF.trans (by rw [f_X5_checkRange_n, if_pos c_1])) eO ls (lv_sub hl [] rfl)
  · rw [if_neg c_1] at eO
    refine lv_iload_n hx hb dX5_checkRange_5 rfl (lv_at hl 0 rfl) ?_
    refine lv_iload_n hx hb dX5_checkRange_6 rfl (lv_at hl 2 rfl) ?_
    refine lv_icmp_le (tgt := 20) hx hb dX5_checkRange_7 (by decide) (fun c_2 => ?_) (fun c_2 => ?_)
    · rw [if_pos c_2] at eO
      have e9 : rr = () := eF.trans (by rw [f_X5_checkRange_n, if_neg c_1, if_pos c_2])
      exact W.vret hx hb hr (fun t ht hW => ⟨rfl, trivial, ht⟩) (fun _ hq => by cases hq) dX5_checkRange_20
    · rw [if_neg c_2] at eO
      exact hJ10 (eF.trans (by rw [f_X5_checkRange_n, if_neg c_1, if_neg c_2])) eO ls (lv_sub hl [] rfl)

def f_X5_count_n (rm : Int32) (fm : Nat → Int32) (rq : Int32) (day : Int32) (spent : Int32) (spentIn : Int32) (spendings : Int32) (urgentSp : Int32) (dropped : Int32) (lapsedLate : Int32) (kept : Int32) (p1 : Int32) : Int32 :=
  if p1 = 11 then
    kept
  else
    (f_X0_number rm fm rq day spent spentIn spendings urgentSp dropped lapsedLate p1)
def o_X5_count_n (rm : Int32) (fm : Nat → Int32) (rq : Int32) (day : Int32) (spent : Int32) (spentIn : Int32) (spendings : Int32) (urgentSp : Int32) (dropped : Int32) (lapsedLate : Int32) (kept : Int32) (p1 : Int32) : Prop :=
  o_X5_checkRange_n p1 0 11 ∧
  (if p1 = 11 then
    True
  else
    True)
set_option maxHeartbeats 4000000 in
set_option maxRecDepth 100000 in
theorem c_X5_count_n (l : Launch) (dC : Nat → ClassId) (dI : Nat → Nat → Nat) (cI cB : ClassId) (q : Nat → Nat) (rm : Int32) (fm : Nat → Int32) (rq : Int32) (fr : Nat → Int32) (ap : Nat → Int32) (day : Int32) (grace : Int32) (longest : Int32) (spent : Int32) (spentIn : Int32) (spendings : Int32) (urgentSp : Int32) (dropped : Int32) (lapsedLate : Int32) (oldest : Int32) (kept : Int32) (p1 : Int32) (eO : o_X5_count_n rm fm rq day spent spentIn spendings urgentSp dropped lapsedLate kept p1) : Met l yX5_count wsX5_count ({ frames := 4, cells := 0, slots := 0, locals := 87 }) (vm_pre [.ref (q 0), .int p1] (dC, dI) [((q 0), .inr (5, [.ref (q 1), .ref (q 8), .ref (q 10)])), ((q 1), .inr (0, [.ref (q 2), .ref (q 5), .ref (q 7), .int day, .int grace, .int longest, .int spent, .int spentIn, .int spendings, .int urgentSp, .int dropped, .int lapsedLate])), ((q 2), .inr (2, [.ref (q 3)])), ((q 3), .inr (3, [.ref (q 4), .int 12, .int 8, .int rm])), ((q 4), .inl (cI, 96, .inl fm)), ((q 5), .inr (3, [.ref (q 6), .int 6, .int 6, .int rq])), ((q 6), .inl (cI, 36, .inl fr)), ((q 7), .inl (cI, 8, .inl ap)), ((q 8), .inr (1, [.ref (q 9), .int oldest, .int kept]))] cI cB) (vp_Si (fun r9 : Int32 => r9 = (f_X5_count_n rm fm rq day spent spentIn spendings urgentSp dropped lapsedLate kept p1))) 0 0 (fun _ => False) := by
  refine Met.ofW (cc := cX5_count) (maxL := 2) (ret := (some .int)) (by decide) rfl ?_
  intro p e s m args below meth c s₁ B hml hv
  obtain ⟨rfl, hP, hK, hN⟩ := hv
  have hx := B.exec
  have hb := B.bytes
  have hr := B.returns
  have hts := atoms_spec (ws := wsX5_count) B.pre
  have hown : s.vm.findClass RX5 = some m.cls := findClass_of_methodNamed B.named
  have hlocks := B.notSynchronized
  have kw1 := hts (.fieldLink RX5 19 "LapseMandates" "history" "LLapseMandates$History;") (List.mem_of_getElem? (i := 1) rfl)
  have kw2 := hts (.fieldLink RX5 12 "LapseMandates" "book" "LLapseMandates$Book;") (List.mem_of_getElem? (i := 2) rfl)
  have iwsX10 : ∀ w ∈ wsX10, w ∈ wsX5_count := fun w h => List.mem_cons_of_mem _ (List.mem_append_left _ (List.mem_append_left _ (List.mem_append_left _ (List.mem_append_left _ (List.mem_append_right _ h)))))
  have iwsX50 : ∀ w ∈ wsX50, w ∈ wsX5_count := fun w h => List.mem_cons_of_mem _ (List.mem_append_left _ (List.mem_append_left _ (List.mem_append_left _ (List.mem_append_left _ (List.mem_append_left _ (List.mem_append_right _ h))))))
  generalize hrr : f_X5_count_n rm fm rq day spent spentIn spendings urgentSp dropped lapsedLate kept p1 = rr
  have eF := hrr.symm
  have hl := lv_entry ([.ref (q 0), .int p1]) (n := 2) (Nat.le_of_ble_eq_true rfl)
  rw [lg_entry_eq]
  generalize (lg_sl ([.ref (q 0), .int p1]) ++ List.replicate (2 - (lg_sl ([.ref (q 0), .int p1])).length) Slot.unset).toArray = ls at hl ⊢
  have hl : lv_has ls 2 [(0, .ref (q 0)), (1, .int p1)] := hl
  rw [o_X5_count_n] at eO
  refine lv_iload_n hx hb dX5_count_0 rfl (lv_at hl 1 rfl) ?_
  refine lv_iconst (v := 0) hx hb dX5_count_1 (by decide) ?_
  refine lv_bipush (v := 11) hx hb dX5_count_2 (by decide) ?_
  obtain ⟨hv_1, eO⟩ := eO
  refine vm_roSv (As := [.int p1, .int 0, .int 11]) (rest := []) ⟨hx, hb, hml, hown, hts⟩ hK hN hP hl.1 ⟨Nat.le_of_ble_eq_true rfl, Nat.le_of_ble_eq_true rfl⟩ (c_X5_checkRange_n l dC dI cI cB p1 0 11 hv_1) (va_cwS 3 hts gX5_count_X5_checkRange rfl rfl rfl yd_X5_checkRange ⟨Nat.le_of_ble_eq_true rfl, Nat.le_of_ble_eq_true rfl⟩) rfl rfl (Nat.le_of_ble_eq_true rfl) dX5_count_4 ?_
  refine lv_iload_n hx hb dX5_count_7 rfl (lv_at hl 1 rfl) ?_
  refine lv_bipush (v := 11) hx hb dX5_count_8 (by decide) ?_
  refine lv_icmp_ne (tgt := 23) hx hb dX5_count_10 (by decide) (fun c_2 => ?_) (fun c_2 => ?_)
  · rw [if_neg c_2] at eO
    refine lv_aload_n hx hb dX5_count_23 rfl (lv_at hl 0 rfl) ?_
    refine va_get (D := (dC, dI)) (ci := 5) (v := .ref (q 1)) (C := RX5) (T := TX5) (N := 3) hx hb hts iwsX50 hown hK hP 0 rfl rfl 0 (by decide) kw2 (fun _ h9 => h9) rfl dX5_count_24 ?_
    refine lv_iload_n hx hb dX5_count_27 rfl (lv_at hl 1 rfl) ?_
    refine vm_roVx (v := (f_X0_number rm fm rq day spent spentIn spendings urgentSp dropped lapsedLate p1)) (As := [.int p1]) (rest := []) (T := TX0) (N := 12) (wc := [((q 1), .inr (0, [.ref (q 2), .ref (q 5), .ref (q 7), .int day, .int grace, .int longest, .int spent, .int spentIn, .int spendings, .int urgentSp, .int dropped, .int lapsedLate])), ((q 2), .inr (2, [.ref (q 3)])), ((q 3), .inr (3, [.ref (q 4), .int 12, .int 8, .int rm])), ((q 4), .inl (cI, 96, .inl fm)), ((q 5), .inr (3, [.ref (q 6), .int 6, .int 6, .int rq])), ((q 6), .inl (cI, 36, .inl fr)), ((q 7), .inl (cI, 8, .inl ap))]) ⟨hx, hb, hml, hown, hts⟩ hK hN hP hl.1 ⟨Nat.le_of_ble_eq_true rfl, Nat.le_of_ble_eq_true rfl⟩ (c_X0_number l dC dI cI cB (q 1) (q 2) (q 3) (q 4) (q 5) (q 6) (q 7) rm fm rq fr ap day grace longest spent spentIn spendings urgentSp dropped lapsedLate p1) (cwV 1 hts gX5_count_X0_number rfl rfl rfl yd_X0_number ⟨Nat.le_of_ble_eq_true rfl, Nat.le_of_ble_eq_true rfl⟩) [1, 2, 3, 4, 5, 6, 7] rfl 0 rfl rfl rfl rfl (Nat.le_of_ble_eq_true rfl) dX5_count_28 ?_
    have e9 : rr = (f_X0_number rm fm rq day spent spentIn spendings urgentSp dropped lapsedLate p1) := eF.trans (by rw [f_X5_count_n, if_neg c_2])
    exact W.iret (v := (f_X0_number rm fm rq day spent spentIn spendings urgentSp dropped lapsedLate p1)) hx hb hr (fun t ht hW => ⟨_, rfl, e9.symm, ht⟩) (fun _ hq => by cases hq) dX5_count_31
  · rw [if_pos c_2] at eO
    refine lv_aload_n hx hb dX5_count_13 rfl (lv_at hl 0 rfl) ?_
    refine va_get (D := (dC, dI)) (ci := 5) (v := .ref (q 8)) (C := RX5) (T := TX5) (N := 3) hx hb hts iwsX50 hown hK hP 0 rfl rfl 1 (by decide) kw1 (fun _ h9 => h9) rfl dX5_count_14 ?_
    refine va_getN (D := (dC, dI)) (ci := 1) (v := .int kept) (C := RX1) (T := TX1) (N := 3) hx hb hts iwsX10 hown hK hP 8 rfl rfl 2 (by decide) (va_Nw.use rfl hN.2.2.2.2.2.2.2.2.2.2.2.2.2.1) (fun _ h9 => h9) rfl dX5_count_17 ?_
    refine lv_goto (tgt := 31) hx hb dX5_count_20 (by decide) ?_
    have e9 : rr = kept := eF.trans (by rw [f_X5_count_n, if_pos c_2])
    exact W.iret (v := kept) hx hb hr (fun t ht hW => ⟨_, rfl, e9.symm, ht⟩) (fun _ hq => by cases hq) dX5_count_31

def f_X5_mix (p1 : Int64) (p2 : Int64) : Int64 :=
  ((31 * p1) + p2)
theorem yd_X5_mix : yX5_mix.cls ≠ "java/lang/invoke/MethodHandle" ∧ yX5_mix.cls ≠ "java/lang/invoke/VarHandle" ∧ (parseMethodDescriptor yX5_mix.desc).map (fun d => d.parameters.length) = some 2 := by decide +kernel
set_option maxHeartbeats 4000000 in
set_option maxRecDepth 100000 in
theorem c_X5_mix (l : Launch) (dC : Nat → ClassId) (dI : Nat → Nat → Nat) (cI cB : ClassId) (p1 : Int64) (p2 : Int64) : Met l yX5_mix wsX5_mix ({ frames := 0, cells := 0, slots := 0, locals := 0 }) (vm_pre [.long p1, .long p2] (dC, dI) [] cI cB) (vp_Sl (fun r9 : Int64 => r9 = (f_X5_mix p1 p2))) 0 0 (fun _ => False) := by
  refine Met.ofW (cc := cX5_mix) (maxL := 4) (ret := (some .long)) (by decide) rfl ?_
  intro p e s m args below meth c s₁ B hml hv
  obtain ⟨rfl, hP, hK, hN⟩ := hv
  have hx := B.exec
  have hb := B.bytes
  have hr := B.returns
  have hts := atoms_spec (ws := wsX5_mix) B.pre
  have hown : s.vm.findClass RX5 = some m.cls := findClass_of_methodNamed B.named
  have hlocks := B.notSynchronized
  have kw1 := hts (.constantLong RX5 267 (31)) (List.mem_of_getElem? (i := 1) rfl)
  generalize hrr : f_X5_mix p1 p2 = rr
  have eF := hrr.symm
  have hl := lv_entry ([.long p1, .long p2]) (n := 4) (Nat.le_of_ble_eq_true rfl)
  rw [lg_entry_eq]
  generalize (lg_sl ([.long p1, .long p2]) ++ List.replicate (4 - (lg_sl ([.long p1, .long p2])).length) Slot.unset).toArray = ls at hl ⊢
  have hl : lv_has ls 4 [(0, .long p1), (2, .long p2)] := hl
  refine lv_ldc2 (v := 31) hx hb hown kw1 dX5_mix_0 ?_
  refine lv_lload_n hx hb dX5_mix_3 rfl (lv_at hl 0 rfl) ?_
  refine lv_lmul hx hb dX5_mix_4 ?_
  refine lv_lload_n hx hb dX5_mix_5 rfl (lv_at hl 1 rfl) ?_
  refine lv_ladd hx hb dX5_mix_6 ?_
  have e9 : rr = ((31 * p1) + p2) := eF.trans (by rw [f_X5_mix])
  exact W.lret (v := ((31 * p1) + p2)) hx hb hr (fun t ht hW => ⟨_, rfl, e9.symm, ht⟩) (fun _ hq => by cases hq) dX5_mix_7

def f_X5_bitsOf_j77 (x2_77 : UInt64) (x4_77 : Int32) : Int64 :=
  (((Int32.toInt64 (x4_77 + 1023)) <<< (Int32.toInt64 52 &&& 63)) + (FP.d2l (FP.dmul (FP.dsub x2_77 FP.dconst1) 4841369599423283200)))
def f_X5_bitsOf_j49 : Nat → UInt64 → Int32 → Int32 → Int64
  | 0, _, _, _ => 0
  | n49 + 1, x2_49, x4_49, x5_49 => if 64 ≤ x5_49 then
      f_X5_bitsOf_j77 x2_49 x4_49
    else
      if 0 ≤ (Op.cmpValue (FP.dcmp x2_49 FP.dconst1) .g) then
        f_X5_bitsOf_j77 x2_49 x4_49
      else
        f_X5_bitsOf_j49 n49 (FP.dmul x2_49 4611686018427387904) (x4_49 + (-1)) (x5_49 + 1)
def f_X5_bitsOf_j46 (x2_46 : UInt64) (x4_46 : Int32) : Int64 :=
  f_X5_bitsOf_j49 ((((64 : Int32)).toInt - ((0 : Int32)).toInt).toNat + 1) x2_46 x4_46 0
def f_X5_bitsOf_j16 : Nat → UInt64 → Int32 → Int32 → Int64
  | 0, _, _, _ => 0
  | n16 + 1, x2_16, x4_16, x5_16 => if 64 ≤ x5_16 then
      f_X5_bitsOf_j46 x2_16 x4_16
    else
      if (Op.cmpValue (FP.dcmp x2_16 4611686018427387904) .l) < 0 then
        f_X5_bitsOf_j46 x2_16 x4_16
      else
        f_X5_bitsOf_j16 n16 (FP.ddiv x2_16 4611686018427387904) (x4_16 + 1) (x5_16 + 1)
def f_X5_bitsOf (p1 : UInt64) : Int64 :=
  if 0 < (Op.cmpValue (FP.dcmp p1 FP.dconst0) .g) then
    f_X5_bitsOf_j16 ((((64 : Int32)).toInt - ((0 : Int32)).toInt).toNat + 1) p1 0 0
  else
    0
def o_X5_bitsOf_j77 (x2_77 : UInt64) (x4_77 : Int32) : Prop :=
  vf_n64 (FP.dsub x2_77 FP.dconst1) ∧
  (vf_n64 (FP.dmul (FP.dsub x2_77 FP.dconst1) 4841369599423283200) ∧
  (True))
def o_X5_bitsOf_j49 : Nat → UInt64 → Int32 → Int32 → Prop
  | 0, _, _, _ => True
  | n49 + 1, x2_49, x4_49, x5_49 => if 64 ≤ x5_49 then
      o_X5_bitsOf_j77 x2_49 x4_49
    else
      if 0 ≤ (Op.cmpValue (FP.dcmp x2_49 FP.dconst1) .g) then
        o_X5_bitsOf_j77 x2_49 x4_49
      else
        vf_n64 (FP.dmul x2_49 4611686018427387904) ∧
        (o_X5_bitsOf_j49 n49 (FP.dmul x2_49 4611686018427387904) (x4_49 + (-1)) (x5_49 + 1))
def o_X5_bitsOf_j46 (x2_46 : UInt64) (x4_46 : Int32) : Prop :=
  o_X5_bitsOf_j49 ((((64 : Int32)).toInt - ((0 : Int32)).toInt).toNat + 1) x2_46 x4_46 0
def o_X5_bitsOf_j16 : Nat → UInt64 → Int32 → Int32 → Prop
  | 0, _, _, _ => True
  | n16 + 1, x2_16, x4_16, x5_16 => if 64 ≤ x5_16 then
      o_X5_bitsOf_j46 x2_16 x4_16
    else
      if (Op.cmpValue (FP.dcmp x2_16 4611686018427387904) .l) < 0 then
        o_X5_bitsOf_j46 x2_16 x4_16
      else
        vf_n64 (FP.ddiv x2_16 4611686018427387904) ∧
        (o_X5_bitsOf_j16 n16 (FP.ddiv x2_16 4611686018427387904) (x4_16 + 1) (x5_16 + 1))
def o_X5_bitsOf (p1 : UInt64) : Prop :=
  if 0 < (Op.cmpValue (FP.dcmp p1 FP.dconst0) .g) then
    o_X5_bitsOf_j16 ((((64 : Int32)).toInt - ((0 : Int32)).toInt).toNat + 1) p1 0 0
  else
    True
theorem yd_X5_bitsOf : yX5_bitsOf.cls ≠ "java/lang/invoke/MethodHandle" ∧ yX5_bitsOf.cls ≠ "java/lang/invoke/VarHandle" ∧ (parseMethodDescriptor yX5_bitsOf.desc).map (fun d => d.parameters.length) = some 1 := by decide +kernel
set_option maxHeartbeats 4000000 in
set_option maxRecDepth 100000 in
theorem c_X5_bitsOf (l : Launch) (dC : Nat → ClassId) (dI : Nat → Nat → Nat) (cI cB : ClassId) (p1 : UInt64) (eO : o_X5_bitsOf p1) : Met l yX5_bitsOf wsX5_bitsOf ({ frames := 0, cells := 0, slots := 0, locals := 0 }) (vm_pre [.double p1] (dC, dI) [] cI cB) (vp_Sl (fun r9 : Int64 => r9 = (f_X5_bitsOf p1))) 0 0 (fun _ => False) := by
  refine Met.ofW (cc := cX5_bitsOf) (maxL := 7) (ret := (some .long)) (by decide) rfl ?_
  intro p e s m args below meth c s₁ B hml hv
  obtain ⟨rfl, hP, hK, hN⟩ := hv
  have hx := B.exec
  have hb := B.bytes
  have hr := B.returns
  have hts := atoms_spec (ws := wsX5_bitsOf) B.pre
  have hown : s.vm.findClass RX5 = some m.cls := findClass_of_methodNamed B.named
  have hlocks := B.notSynchronized
  have kw1 := hts (.constantDouble RX5 273 (4611686018427387904)) (List.mem_of_getElem? (i := 1) rfl)
  have kw2 := hts (.constantDouble RX5 275 (4841369599423283200)) (List.mem_of_getElem? (i := 2) rfl)
  generalize hrr : f_X5_bitsOf p1 = rr
  have eF := hrr.symm
  have hl := lv_entry ([.double p1]) (n := 7) (Nat.le_of_ble_eq_true rfl)
  rw [lg_entry_eq]
  generalize (lg_sl ([.double p1]) ++ List.replicate (7 - (lg_sl ([.double p1])).length) Slot.unset).toArray = ls at hl ⊢
  have hl : lv_has ls 7 [(0, .double p1)] := hl
  have hJ77 : ∀ (x2_77 : UInt64) (x4_77 : Int32), rr = f_X5_bitsOf_j77 x2_77 x4_77 → o_X5_bitsOf_j77 x2_77 x4_77 → ∀ (ls : Array Slot), lv_has ls 7 [(2, .double x2_77), (4, .int x4_77)] → W p l e (headSpec wsX5_bitsOf ({ frames := 0, cells := 0, slots := 0, locals := 0 })).room s m ([.double p1] : List Value).toArray below meth c s.heap [] 0 0 (MQ below (vp_Sl (fun r9 : Int64 => r9 = rr)) ([.double p1] : List Value).toArray s 0 0 (fun _ => False)) (F0 m 77 ls []) := by
    intro x2_77 x4_77 eF eO ls hl
    rw [o_X5_bitsOf_j77] at eO
    refine lv_dload_n hx hb dX5_bitsOf_77 rfl (lv_at hl 0 rfl) ?_
    refine lv_dconst1 hx hb dX5_bitsOf_78 ?_
    obtain ⟨hv_1, eO⟩ := eO
    refine lv_dsub hx hb dX5_bitsOf_79 hv_1 ?_
    refine lv_ldc2d (v := 4841369599423283200) hx hb hown kw2 dX5_bitsOf_80 ?_
    obtain ⟨hv_2, eO⟩ := eO
    refine lv_dmul hx hb dX5_bitsOf_83 hv_2 ?_
    refine lv_d2l hx hb dX5_bitsOf_84 ?_
    refine lv_lstore (lv' := [(5, .long (FP.d2l (FP.dmul (FP.dsub x2_77 FP.dconst1) 4841369599423283200))), (2, .double x2_77), (4, .int x4_77)]) hx hb dX5_bitsOf_85 hl (by decide) rfl (fun ls hl => ?_)
    refine lv_iload hx hb dX5_bitsOf_87 (lv_at hl 2 rfl) ?_
    refine lv_sipush (v := 1023) hx hb dX5_bitsOf_89 (by decide) ?_
    refine lv_iadd hx hb dX5_bitsOf_92 ?_
    refine lv_i2l (v := (Int32.toInt64 (x4_77 + 1023))) hx hb dX5_bitsOf_93 rfl ?_
    refine lv_bipush (v := 52) hx hb dX5_bitsOf_94 (by decide) ?_
    refine lv_lshl (v := ((Int32.toInt64 (x4_77 + 1023)) <<< (Int32.toInt64 52 &&& 63))) hx hb dX5_bitsOf_96 rfl ?_
    refine lv_lload hx hb dX5_bitsOf_97 (lv_at hl 0 rfl) ?_
    refine lv_ladd hx hb dX5_bitsOf_99 ?_
    have e9 : rr = (((Int32.toInt64 (x4_77 + 1023)) <<< (Int32.toInt64 52 &&& 63)) + (FP.d2l (FP.dmul (FP.dsub x2_77 FP.dconst1) 4841369599423283200))) := eF.trans (by rw [f_X5_bitsOf_j77])
    exact W.lret (v := (((Int32.toInt64 (x4_77 + 1023)) <<< (Int32.toInt64 52 &&& 63)) + (FP.d2l (FP.dmul (FP.dsub x2_77 FP.dconst1) 4841369599423283200)))) hx hb hr (fun t ht hW => ⟨_, rfl, e9.symm, ht⟩) (fun _ hq => by cases hq) dX5_bitsOf_100
  have hJ49 : ∀ (n49 : Nat) (x2_49 : UInt64) (x4_49 : Int32) (x5_49 : Int32), (((64 : Int32)).toInt - (x5_49).toInt).toNat < n49 → 0 ≤ x5_49 → rr = f_X5_bitsOf_j49 n49 x2_49 x4_49 x5_49 → o_X5_bitsOf_j49 n49 x2_49 x4_49 x5_49 → ∀ (ls : Array Slot), lv_has ls 7 [(2, .double x2_49), (4, .int x4_49), (5, .int x5_49)] → W p l e (headSpec wsX5_bitsOf ({ frames := 0, cells := 0, slots := 0, locals := 0 })).room s m ([.double p1] : List Value).toArray below meth c s.heap [] 0 0 (MQ below (vp_Sl (fun r9 : Int64 => r9 = rr)) ([.double p1] : List Value).toArray s 0 0 (fun _ => False)) (F0 m 49 ls []) := by
    intro n49
    induction n49 with
    | zero =>
      intro x2_49 x4_49 x5_49 hm49
      exact absurd hm49 (Nat.not_lt_zero _)
    | succ n49 ih49 =>
      intro x2_49 x4_49 x5_49 hm49 hi49 eF eO ls hl
      rw [o_X5_bitsOf_j49] at eO
      refine lv_iload hx hb dX5_bitsOf_49 (lv_at hl 2 rfl) ?_
      refine lv_bipush (v := 64) hx hb dX5_bitsOf_51 (by decide) ?_
      refine lv_icmp_ge (tgt := 77) hx hb dX5_bitsOf_53 (by decide) (fun cL49 => ?_) (fun cL49 => ?_)
      · rw [if_pos cL49] at eO
        exact hJ77 x2_49 x4_49 (eF.trans (by rw [f_X5_bitsOf_j49, if_pos cL49])) eO ls (lv_sub hl [0, 1] rfl)
      · rw [if_neg cL49] at eO
        refine lv_dload_n hx hb dX5_bitsOf_56 rfl (lv_at hl 0 rfl) ?_
        refine lv_dconst1 hx hb dX5_bitsOf_57 ?_
        refine lv_dcmp hx hb dX5_bitsOf_58 ?_
        refine lv_if_ge (tgt := 77) hx hb dX5_bitsOf_59 (by decide) (fun c_4 => ?_) (fun c_4 => ?_)
        · rw [if_pos c_4] at eO
          exact hJ77 x2_49 x4_49 (eF.trans (by rw [f_X5_bitsOf_j49, if_neg cL49, if_pos c_4])) eO ls (lv_sub hl [0, 1] rfl)
        · rw [if_neg c_4] at eO
          refine lv_dload_n hx hb dX5_bitsOf_62 rfl (lv_at hl 0 rfl) ?_
          refine lv_ldc2d (v := 4611686018427387904) hx hb hown kw1 dX5_bitsOf_63 ?_
          obtain ⟨hv_5, eO⟩ := eO
          refine lv_dmul hx hb dX5_bitsOf_66 hv_5 ?_
          refine lv_dstore_n (lv' := [(2, .double (FP.dmul x2_49 4611686018427387904)), (4, .int x4_49), (5, .int x5_49)]) hx hb dX5_bitsOf_67 rfl hl (by decide) rfl (fun ls hl => ?_)
          refine lv_iinc (v := (x4_49 + (-1))) (lv' := [(4, .int (x4_49 + (-1))), (2, .double (FP.dmul x2_49 4611686018427387904)), (5, .int x5_49)]) hx hb dX5_bitsOf_68 hl (k := 1) rfl rfl (by decide) rfl (fun ls hl => ?_)
          refine lv_iinc (v := (x5_49 + 1)) (lv' := [(5, .int (x5_49 + 1)), (4, .int (x4_49 + (-1))), (2, .double (FP.dmul x2_49 4611686018427387904))]) hx hb dX5_bitsOf_71 hl (k := 2) rfl rfl (by decide) rfl (fun ls hl => ?_)
          refine lv_goto (tgt := 49) hx hb dX5_bitsOf_74 (by decide) ?_
          exact ih49 (FP.dmul x2_49 4611686018427387904) (x4_49 + (-1)) (x5_49 + 1) (vm_up (vm_nle cL49) hm49) (vm_nn hi49 (vm_nle cL49)) (eF.trans (by rw [f_X5_bitsOf_j49, if_neg cL49, if_neg c_4])) eO ls (lv_sub hl [2, 1, 0] rfl)
  have hJ46 : ∀ (x2_46 : UInt64) (x4_46 : Int32), rr = f_X5_bitsOf_j46 x2_46 x4_46 → o_X5_bitsOf_j46 x2_46 x4_46 → ∀ (ls : Array Slot), lv_has ls 7 [(2, .double x2_46), (4, .int x4_46)] → W p l e (headSpec wsX5_bitsOf ({ frames := 0, cells := 0, slots := 0, locals := 0 })).room s m ([.double p1] : List Value).toArray below meth c s.heap [] 0 0 (MQ below (vp_Sl (fun r9 : Int64 => r9 = rr)) ([.double p1] : List Value).toArray s 0 0 (fun _ => False)) (F0 m 46 ls []) := by
    intro x2_46 x4_46 eF eO ls hl
    rw [o_X5_bitsOf_j46] at eO
    refine lv_iconst (v := 0) hx hb dX5_bitsOf_46 (by decide) ?_
    refine lv_istore (lv' := [(5, .int 0), (2, .double x2_46), (4, .int x4_46)]) hx hb dX5_bitsOf_47 hl (by decide) rfl (fun ls hl => ?_)
    exact hJ49 ((((64 : Int32)).toInt - ((0 : Int32)).toInt).toNat + 1) x2_46 x4_46 0 (Nat.lt_succ_self _) (by decide) (eF.trans (by rw [f_X5_bitsOf_j46])) eO ls (lv_sub hl [1, 2, 0] rfl)
  have hJ16 : ∀ (n16 : Nat) (x2_16 : UInt64) (x4_16 : Int32) (x5_16 : Int32), (((64 : Int32)).toInt - (x5_16).toInt).toNat < n16 → 0 ≤ x5_16 → rr = f_X5_bitsOf_j16 n16 x2_16 x4_16 x5_16 → o_X5_bitsOf_j16 n16 x2_16 x4_16 x5_16 → ∀ (ls : Array Slot), lv_has ls 7 [(2, .double x2_16), (4, .int x4_16), (5, .int x5_16)] → W p l e (headSpec wsX5_bitsOf ({ frames := 0, cells := 0, slots := 0, locals := 0 })).room s m ([.double p1] : List Value).toArray below meth c s.heap [] 0 0 (MQ below (vp_Sl (fun r9 : Int64 => r9 = rr)) ([.double p1] : List Value).toArray s 0 0 (fun _ => False)) (F0 m 16 ls []) := by
    intro n16
    induction n16 with
    | zero =>
      intro x2_16 x4_16 x5_16 hm16
      exact absurd hm16 (Nat.not_lt_zero _)
    | succ n16 ih16 =>
      intro x2_16 x4_16 x5_16 hm16 hi16 eF eO ls hl
      rw [o_X5_bitsOf_j16] at eO
      refine lv_iload hx hb dX5_bitsOf_16 (lv_at hl 2 rfl) ?_
      refine lv_bipush (v := 64) hx hb dX5_bitsOf_18 (by decide) ?_
      refine lv_icmp_ge (tgt := 46) hx hb dX5_bitsOf_20 (by decide) (fun cL16 => ?_) (fun cL16 => ?_)
      · rw [if_pos cL16] at eO
        exact hJ46 x2_16 x4_16 (eF.trans (by rw [f_X5_bitsOf_j16, if_pos cL16])) eO ls (lv_sub hl [0, 1] rfl)
      · rw [if_neg cL16] at eO
        refine lv_dload_n hx hb dX5_bitsOf_23 rfl (lv_at hl 0 rfl) ?_
        refine lv_ldc2d (v := 4611686018427387904) hx hb hown kw1 dX5_bitsOf_24 ?_
        refine lv_dcmp hx hb dX5_bitsOf_27 ?_
        refine lv_if_lt (tgt := 46) hx hb dX5_bitsOf_28 (by decide) (fun c_7 => ?_) (fun c_7 => ?_)
        · rw [if_pos c_7] at eO
          exact hJ46 x2_16 x4_16 (eF.trans (by rw [f_X5_bitsOf_j16, if_neg cL16, if_pos c_7])) eO ls (lv_sub hl [0, 1] rfl)
        · rw [if_neg c_7] at eO
          refine lv_dload_n hx hb dX5_bitsOf_31 rfl (lv_at hl 0 rfl) ?_
          refine lv_ldc2d (v := 4611686018427387904) hx hb hown kw1 dX5_bitsOf_32 ?_
          obtain ⟨hv_8, eO⟩ := eO
          refine lv_ddiv hx hb dX5_bitsOf_35 hv_8 ?_
          refine lv_dstore_n (lv' := [(2, .double (FP.ddiv x2_16 4611686018427387904)), (4, .int x4_16), (5, .int x5_16)]) hx hb dX5_bitsOf_36 rfl hl (by decide) rfl (fun ls hl => ?_)
          refine lv_iinc (v := (x4_16 + 1)) (lv' := [(4, .int (x4_16 + 1)), (2, .double (FP.ddiv x2_16 4611686018427387904)), (5, .int x5_16)]) hx hb dX5_bitsOf_37 hl (k := 1) rfl rfl (by decide) rfl (fun ls hl => ?_)
          refine lv_iinc (v := (x5_16 + 1)) (lv' := [(5, .int (x5_16 + 1)), (4, .int (x4_16 + 1)), (2, .double (FP.ddiv x2_16 4611686018427387904))]) hx hb dX5_bitsOf_40 hl (k := 2) rfl rfl (by decide) rfl (fun ls hl => ?_)
          refine lv_goto (tgt := 16) hx hb dX5_bitsOf_43 (by decide) ?_
          exact ih16 (FP.ddiv x2_16 4611686018427387904) (x4_16 + 1) (x5_16 + 1) (vm_up (vm_nle cL16) hm16) (vm_nn hi16 (vm_nle cL16)) (eF.trans (by rw [f_X5_bitsOf_j16, if_neg cL16, if_neg c_7])) eO ls (lv_sub hl [2, 1, 0] rfl)
  rw [o_X5_bitsOf] at eO
  refine lv_dload_n hx hb dX5_bitsOf_0 rfl (lv_at hl 0 rfl) ?_
  refine lv_dconst0 hx hb dX5_bitsOf_1 ?_
  refine lv_dcmp hx hb dX5_bitsOf_2 ?_
  refine lv_if_gt (tgt := 8) hx hb dX5_bitsOf_3 (by decide) (fun c_9 => ?_) (fun c_9 => ?_)
  · rw [if_pos c_9] at eO
    refine lv_dload_n hx hb dX5_bitsOf_8 rfl (lv_at hl 0 rfl) ?_
    refine lv_dstore_n (lv' := [(2, .double p1), (0, .double p1)]) hx hb dX5_bitsOf_9 rfl hl (by decide) rfl (fun ls hl => ?_)
    refine lv_iconst (v := 0) hx hb dX5_bitsOf_10 (by decide) ?_
    refine lv_istore (lv' := [(4, .int 0), (2, .double p1), (0, .double p1)]) hx hb dX5_bitsOf_11 hl (by decide) rfl (fun ls hl => ?_)
    refine lv_iconst (v := 0) hx hb dX5_bitsOf_13 (by decide) ?_
    refine lv_istore (lv' := [(5, .int 0), (4, .int 0), (2, .double p1), (0, .double p1)]) hx hb dX5_bitsOf_14 hl (by decide) rfl (fun ls hl => ?_)
    exact hJ16 ((((64 : Int32)).toInt - ((0 : Int32)).toInt).toNat + 1) p1 0 0 (Nat.lt_succ_self _) (by decide) (eF.trans (by rw [f_X5_bitsOf, if_pos c_9])) eO ls (lv_sub hl [2, 1, 0] rfl)
  · rw [if_neg c_9] at eO
    refine lv_lconst (v := 0) hx hb dX5_bitsOf_6 (by decide) ?_
    have e9 : rr = 0 := eF.trans (by rw [f_X5_bitsOf, if_neg c_9])
    exact W.lret (v := 0) hx hb hr (fun t ht hW => ⟨_, rfl, e9.symm, ht⟩) (fun _ hq => by cases hq) dX5_bitsOf_7

def f_X5_mixMandate_j6 (rm : Int32) (fm : Nat → Int32) (rq : Int32) (fr : Nat → Int32) (day : Int32) (grace : Int32) (p2 : Int32) : Nat → Int64 → Int32 → Int64
  | 0, _, _ => 0
  | n6 + 1, x4_6, x6_6 => if 12 ≤ x6_6 then
      (f_X5_mix (f_X5_mix (f_X5_mix (f_X5_mix (f_X5_mix (f_X5_mix (f_X5_mix x4_6 (Int32.toInt64 (f_X2_refusal rm fm p2 100))) (Int32.toInt64 (f_X2_greatestAmount rm fm p2 0))) (Int32.toInt64 (f_X2_greatestAmount rm fm p2 1))) (Int32.toInt64 (f_X2_wouldLapse rm fm p2))) (Int32.toInt64 (f_X2_narrowestOfChain rm fm p2))) (Int32.toInt64 (f_X0_daysUntilLapse rm fm rq fr day grace p2))) (f_X5_bitsOf (f_X2_shareUsed rm fm p2)))
    else
      f_X5_mixMandate_j6 rm fm rq fr day grace p2 n6 (f_X5_mix x4_6 (Int32.toInt64 (f_X0_mandateProperty rm fm rq fr p2 x6_6))) (x6_6 + 1)
def f_X5_mixMandate (rm : Int32) (fm : Nat → Int32) (rq : Int32) (fr : Nat → Int32) (day : Int32) (grace : Int32) (p1 : Int64) (p2 : Int32) : Int64 :=
  f_X5_mixMandate_j6 rm fm rq fr day grace p2 ((((12 : Int32)).toInt - ((0 : Int32)).toInt).toNat + 1) p1 0
def o_X5_mixMandate_j6 (rm : Int32) (fm : Nat → Int32) (rq : Int32) (fr : Nat → Int32) (day : Int32) (grace : Int32) (p2 : Int32) : Nat → Int64 → Int32 → Prop
  | 0, _, _ => True
  | n6 + 1, x4_6, x6_6 => if 12 ≤ x6_6 then
      o_X2_shareUsed rm fm p2 ∧
      (o_X5_bitsOf (f_X2_shareUsed rm fm p2) ∧
      (True))
    else
      o_X5_mixMandate_j6 rm fm rq fr day grace p2 n6 (f_X5_mix x4_6 (Int32.toInt64 (f_X0_mandateProperty rm fm rq fr p2 x6_6))) (x6_6 + 1)
def o_X5_mixMandate (rm : Int32) (fm : Nat → Int32) (rq : Int32) (fr : Nat → Int32) (day : Int32) (grace : Int32) (p1 : Int64) (p2 : Int32) : Prop :=
  o_X5_mixMandate_j6 rm fm rq fr day grace p2 ((((12 : Int32)).toInt - ((0 : Int32)).toInt).toNat + 1) p1 0
theorem yd_X5_mixMandate : yX5_mixMandate.cls = RX5 ∧ yX5_mixMandate.cls ≠ "java/lang/invoke/MethodHandle" ∧ yX5_mixMandate.cls ≠ "java/lang/invoke/VarHandle" ∧ (parseMethodDescriptor yX5_mixMandate.desc).map (fun d => d.parameters.length) = some 2 := by decide +kernel
set_option maxHeartbeats 4000000 in
set_option maxRecDepth 100000 in
theorem c_X5_mixMandate (l : Launch) (dC : Nat → ClassId) (dI : Nat → Nat → Nat) (cI cB : ClassId) (q : Nat → Nat) (rm : Int32) (fm : Nat → Int32) (rq : Int32) (fr : Nat → Int32) (ap : Nat → Int32) (day : Int32) (grace : Int32) (longest : Int32) (spent : Int32) (spentIn : Int32) (spendings : Int32) (urgentSp : Int32) (dropped : Int32) (lapsedLate : Int32) (p1 : Int64) (p2 : Int32) (eO : o_X5_mixMandate rm fm rq fr day grace p1 p2) : Met l yX5_mixMandate wsX5_mixMandate ({ frames := 5, cells := 0, slots := 0, locals := 110 }) (vm_pre [.ref (q 0), .long p1, .int p2] (dC, dI) [((q 0), .inr (5, [.ref (q 1), .ref (q 8), .ref (q 10)])), ((q 1), .inr (0, [.ref (q 2), .ref (q 5), .ref (q 7), .int day, .int grace, .int longest, .int spent, .int spentIn, .int spendings, .int urgentSp, .int dropped, .int lapsedLate])), ((q 2), .inr (2, [.ref (q 3)])), ((q 3), .inr (3, [.ref (q 4), .int 12, .int 8, .int rm])), ((q 4), .inl (cI, 96, .inl fm)), ((q 5), .inr (3, [.ref (q 6), .int 6, .int 6, .int rq])), ((q 6), .inl (cI, 36, .inl fr)), ((q 7), .inl (cI, 8, .inl ap))] cI cB) (vp_Sl (fun r9 : Int64 => r9 = (f_X5_mixMandate rm fm rq fr day grace p1 p2))) 0 0 (fun _ => False) := by
  refine Met.ofW (cc := cX5_mixMandate) (maxL := 7) (ret := (some .long)) (by decide) rfl ?_
  intro p e s m args below meth c s₁ B hml hv
  obtain ⟨rfl, hP, hK, hN⟩ := hv
  have hx := B.exec
  have hb := B.bytes
  have hr := B.returns
  have hts := atoms_spec (ws := wsX5_mixMandate) B.pre
  have hown : s.vm.findClass RX5 = some m.cls := findClass_of_methodNamed B.named
  have hlocks := B.notSynchronized
  have kw1 := hts (.fieldLink RX5 12 "LapseMandates" "book" "LLapseMandates$Book;") (List.mem_of_getElem? (i := 1) rfl)
  have iwsX00 : ∀ w ∈ wsX00, w ∈ wsX5_mixMandate := fun w h => List.mem_cons_of_mem _ (List.mem_append_left _ (List.mem_append_left _ (List.mem_append_right _ h)))
  have iwsX50 : ∀ w ∈ wsX50, w ∈ wsX5_mixMandate := fun w h => List.mem_cons_of_mem _ (List.mem_append_left _ (List.mem_append_left _ (List.mem_append_left _ (List.mem_append_right _ h))))
  generalize hrr : f_X5_mixMandate rm fm rq fr day grace p1 p2 = rr
  have eF := hrr.symm
  have hl := lv_entry ([.ref (q 0), .long p1, .int p2]) (n := 7) (Nat.le_of_ble_eq_true rfl)
  rw [lg_entry_eq]
  generalize (lg_sl ([.ref (q 0), .long p1, .int p2]) ++ List.replicate (7 - (lg_sl ([.ref (q 0), .long p1, .int p2])).length) Slot.unset).toArray = ls at hl ⊢
  have hl : lv_has ls 7 [(0, .ref (q 0)), (1, .long p1), (3, .int p2)] := hl
  have hJ6 : ∀ (n6 : Nat) (x4_6 : Int64) (x6_6 : Int32), (((12 : Int32)).toInt - (x6_6).toInt).toNat < n6 → 0 ≤ x6_6 → rr = f_X5_mixMandate_j6 rm fm rq fr day grace p2 n6 x4_6 x6_6 → o_X5_mixMandate_j6 rm fm rq fr day grace p2 n6 x4_6 x6_6 → ∀ (ls : Array Slot), lv_has ls 7 [(0, .ref (q 0)), (3, .int p2), (4, .long x4_6), (6, .int x6_6)] → W p l e (headSpec wsX5_mixMandate ({ frames := 5, cells := 0, slots := 0, locals := 110 })).room s m ([.ref (q 0), .long p1, .int p2] : List Value).toArray below meth c s.heap [] 0 0 (MQ below (vp_Sl (fun r9 : Int64 => r9 = rr)) ([.ref (q 0), .long p1, .int p2] : List Value).toArray s 0 0 (fun _ => False)) (F0 m 6 ls []) := by
    intro n6
    induction n6 with
    | zero =>
      intro x4_6 x6_6 hm6
      exact absurd hm6 (Nat.not_lt_zero _)
    | succ n6 ih6 =>
      intro x4_6 x6_6 hm6 hi6 eF eO ls hl
      rw [o_X5_mixMandate_j6] at eO
      refine lv_iload hx hb dX5_mixMandate_6 (lv_at hl 3 rfl) ?_
      refine lv_bipush (v := 12) hx hb dX5_mixMandate_8 (by decide) ?_
      refine lv_icmp_ge (tgt := 37) hx hb dX5_mixMandate_10 (by decide) (fun cL6 => ?_) (fun cL6 => ?_)
      · rw [if_pos cL6] at eO
        refine lv_lload hx hb dX5_mixMandate_37 (lv_at hl 2 rfl) ?_
        refine lv_aload_n hx hb dX5_mixMandate_39 rfl (lv_at hl 0 rfl) ?_
        refine va_get (D := (dC, dI)) (ci := 5) (v := .ref (q 1)) (C := RX5) (T := TX5) (N := 3) hx hb hts iwsX50 hown hK hP 0 rfl rfl 0 (by decide) kw1 (fun _ h9 => h9) rfl dX5_mixMandate_40 ?_
        refine va_getN (D := (dC, dI)) (ci := 0) (v := .ref (q 2)) (C := RX0) (T := TX0) (N := 12) hx hb hts iwsX00 hown hK hP 1 rfl rfl 0 (by decide) (va_Nw.use rfl hN.2.2.2.2.2.2.2.2.1) (fun _ h9 => h9) rfl dX5_mixMandate_43 ?_
        refine lv_iload_n hx hb dX5_mixMandate_46 rfl (lv_at hl 1 rfl) ?_
        refine lv_bipush (v := 100) hx hb dX5_mixMandate_47 (by decide) ?_
        refine vm_roVx (v := (f_X2_refusal rm fm p2 100)) (As := [.int p2, .int 100]) (rest := [.long x4_6]) (T := TX2) (N := 1) (wc := [((q 2), .inr (2, [.ref (q 3)])), ((q 3), .inr (3, [.ref (q 4), .int 12, .int 8, .int rm])), ((q 4), .inl (cI, 96, .inl fm))]) ⟨hx, hb, hml, hown, hts⟩ hK hN hP hl.1 ⟨Nat.le_of_ble_eq_true rfl, Nat.le_of_ble_eq_true rfl⟩ (c_X2_refusal l dC dI cI cB (q 2) (q 3) (q 4) rm fm p2 100) (cwV 2 hts gX5_mixMandate_X2_refusal rfl rfl rfl yd_X2_refusal ⟨Nat.le_of_ble_eq_true rfl, Nat.le_of_ble_eq_true rfl⟩) [2, 3, 4] rfl 2 rfl rfl rfl rfl (Nat.le_of_ble_eq_true rfl) dX5_mixMandate_49 ?_
        refine lv_i2l (v := (Int32.toInt64 (f_X2_refusal rm fm p2 100))) hx hb dX5_mixMandate_52 rfl ?_
        refine vm_roSlx (v := (f_X5_mix x4_6 (Int32.toInt64 (f_X2_refusal rm fm p2 100)))) (As := [.long x4_6, .long (Int32.toInt64 (f_X2_refusal rm fm p2 100))]) (rest := []) ⟨hx, hb, hml, hown, hts⟩ hK hN hP hl.1 ⟨Nat.le_of_ble_eq_true rfl, Nat.le_of_ble_eq_true rfl⟩ (c_X5_mix l dC dI cI cB x4_6 (Int32.toInt64 (f_X2_refusal rm fm p2 100))) (va_cwS 2 hts gX5_mixMandate_X5_mix rfl rfl rfl yd_X5_mix ⟨Nat.le_of_ble_eq_true rfl, Nat.le_of_ble_eq_true rfl⟩) rfl rfl (Nat.le_of_ble_eq_true rfl) dX5_mixMandate_53 ?_
        refine lv_lstore (lv' := [(4, .long (f_X5_mix x4_6 (Int32.toInt64 (f_X2_refusal rm fm p2 100)))), (0, .ref (q 0)), (3, .int p2), (6, .int x6_6)]) hx hb dX5_mixMandate_56 hl (by decide) rfl (fun ls hl => ?_)
        refine lv_lload hx hb dX5_mixMandate_58 (lv_at hl 0 rfl) ?_
        refine lv_aload_n hx hb dX5_mixMandate_60 rfl (lv_at hl 1 rfl) ?_
        refine va_get (D := (dC, dI)) (ci := 5) (v := .ref (q 1)) (C := RX5) (T := TX5) (N := 3) hx hb hts iwsX50 hown hK hP 0 rfl rfl 0 (by decide) kw1 (fun _ h9 => h9) rfl dX5_mixMandate_61 ?_
        refine va_getN (D := (dC, dI)) (ci := 0) (v := .ref (q 2)) (C := RX0) (T := TX0) (N := 12) hx hb hts iwsX00 hown hK hP 1 rfl rfl 0 (by decide) (va_Nw.use rfl hN.2.2.2.2.2.2.2.2.1) (fun _ h9 => h9) rfl dX5_mixMandate_64 ?_
        refine lv_iload_n hx hb dX5_mixMandate_67 rfl (lv_at hl 2 rfl) ?_
        refine lv_iconst (v := 0) hx hb dX5_mixMandate_68 (by decide) ?_
        refine vm_roVx (v := (f_X2_greatestAmount rm fm p2 0)) (As := [.int p2, .int 0]) (rest := [.long (f_X5_mix x4_6 (Int32.toInt64 (f_X2_refusal rm fm p2 100)))]) (T := TX2) (N := 1) (wc := [((q 2), .inr (2, [.ref (q 3)])), ((q 3), .inr (3, [.ref (q 4), .int 12, .int 8, .int rm])), ((q 4), .inl (cI, 96, .inl fm))]) ⟨hx, hb, hml, hown, hts⟩ hK hN hP hl.1 ⟨Nat.le_of_ble_eq_true rfl, Nat.le_of_ble_eq_true rfl⟩ (c_X2_greatestAmount l dC dI cI cB (q 2) (q 3) (q 4) rm fm p2 0) (cwV 2 hts gX5_mixMandate_X2_greatestAmount rfl rfl rfl yd_X2_greatestAmount ⟨Nat.le_of_ble_eq_true rfl, Nat.le_of_ble_eq_true rfl⟩) [2, 3, 4] rfl 2 rfl rfl rfl rfl (Nat.le_of_ble_eq_true rfl) dX5_mixMandate_69 ?_
        refine lv_i2l (v := (Int32.toInt64 (f_X2_greatestAmount rm fm p2 0))) hx hb dX5_mixMandate_72 rfl ?_
        refine vm_roSlx (v := (f_X5_mix (f_X5_mix x4_6 (Int32.toInt64 (f_X2_refusal rm fm p2 100))) (Int32.toInt64 (f_X2_greatestAmount rm fm p2 0)))) (As := [.long (f_X5_mix x4_6 (Int32.toInt64 (f_X2_refusal rm fm p2 100))), .long (Int32.toInt64 (f_X2_greatestAmount rm fm p2 0))]) (rest := []) ⟨hx, hb, hml, hown, hts⟩ hK hN hP hl.1 ⟨Nat.le_of_ble_eq_true rfl, Nat.le_of_ble_eq_true rfl⟩ (c_X5_mix l dC dI cI cB (f_X5_mix x4_6 (Int32.toInt64 (f_X2_refusal rm fm p2 100))) (Int32.toInt64 (f_X2_greatestAmount rm fm p2 0))) (va_cwS 2 hts gX5_mixMandate_X5_mix rfl rfl rfl yd_X5_mix ⟨Nat.le_of_ble_eq_true rfl, Nat.le_of_ble_eq_true rfl⟩) rfl rfl (Nat.le_of_ble_eq_true rfl) dX5_mixMandate_73 ?_
        refine lv_lstore (lv' := [(4, .long (f_X5_mix (f_X5_mix x4_6 (Int32.toInt64 (f_X2_refusal rm fm p2 100))) (Int32.toInt64 (f_X2_greatestAmount rm fm p2 0)))), (0, .ref (q 0)), (3, .int p2), (6, .int x6_6)]) hx hb dX5_mixMandate_76 hl (by decide) rfl (fun ls hl => ?_)
        refine lv_lload hx hb dX5_mixMandate_78 (lv_at hl 0 rfl) ?_
        refine lv_aload_n hx hb dX5_mixMandate_80 rfl (lv_at hl 1 rfl) ?_
        refine va_get (D := (dC, dI)) (ci := 5) (v := .ref (q 1)) (C := RX5) (T := TX5) (N := 3) hx hb hts iwsX50 hown hK hP 0 rfl rfl 0 (by decide) kw1 (fun _ h9 => h9) rfl dX5_mixMandate_81 ?_
        refine va_getN (D := (dC, dI)) (ci := 0) (v := .ref (q 2)) (C := RX0) (T := TX0) (N := 12) hx hb hts iwsX00 hown hK hP 1 rfl rfl 0 (by decide) (va_Nw.use rfl hN.2.2.2.2.2.2.2.2.1) (fun _ h9 => h9) rfl dX5_mixMandate_84 ?_
        refine lv_iload_n hx hb dX5_mixMandate_87 rfl (lv_at hl 2 rfl) ?_
        refine lv_iconst (v := 1) hx hb dX5_mixMandate_88 (by decide) ?_
        refine vm_roVx (v := (f_X2_greatestAmount rm fm p2 1)) (As := [.int p2, .int 1]) (rest := [.long (f_X5_mix (f_X5_mix x4_6 (Int32.toInt64 (f_X2_refusal rm fm p2 100))) (Int32.toInt64 (f_X2_greatestAmount rm fm p2 0)))]) (T := TX2) (N := 1) (wc := [((q 2), .inr (2, [.ref (q 3)])), ((q 3), .inr (3, [.ref (q 4), .int 12, .int 8, .int rm])), ((q 4), .inl (cI, 96, .inl fm))]) ⟨hx, hb, hml, hown, hts⟩ hK hN hP hl.1 ⟨Nat.le_of_ble_eq_true rfl, Nat.le_of_ble_eq_true rfl⟩ (c_X2_greatestAmount l dC dI cI cB (q 2) (q 3) (q 4) rm fm p2 1) (cwV 2 hts gX5_mixMandate_X2_greatestAmount rfl rfl rfl yd_X2_greatestAmount ⟨Nat.le_of_ble_eq_true rfl, Nat.le_of_ble_eq_true rfl⟩) [2, 3, 4] rfl 2 rfl rfl rfl rfl (Nat.le_of_ble_eq_true rfl) dX5_mixMandate_89 ?_
        refine lv_i2l (v := (Int32.toInt64 (f_X2_greatestAmount rm fm p2 1))) hx hb dX5_mixMandate_92 rfl ?_
        refine vm_roSlx (v := (f_X5_mix (f_X5_mix (f_X5_mix x4_6 (Int32.toInt64 (f_X2_refusal rm fm p2 100))) (Int32.toInt64 (f_X2_greatestAmount rm fm p2 0))) (Int32.toInt64 (f_X2_greatestAmount rm fm p2 1)))) (As := [.long (f_X5_mix (f_X5_mix x4_6 (Int32.toInt64 (f_X2_refusal rm fm p2 100))) (Int32.toInt64 (f_X2_greatestAmount rm fm p2 0))), .long (Int32.toInt64 (f_X2_greatestAmount rm fm p2 1))]) (rest := []) ⟨hx, hb, hml, hown, hts⟩ hK hN hP hl.1 ⟨Nat.le_of_ble_eq_true rfl, Nat.le_of_ble_eq_true rfl⟩ (c_X5_mix l dC dI cI cB (f_X5_mix (f_X5_mix x4_6 (Int32.toInt64 (f_X2_refusal rm fm p2 100))) (Int32.toInt64 (f_X2_greatestAmount rm fm p2 0))) (Int32.toInt64 (f_X2_greatestAmount rm fm p2 1))) (va_cwS 2 hts gX5_mixMandate_X5_mix rfl rfl rfl yd_X5_mix ⟨Nat.le_of_ble_eq_true rfl, Nat.le_of_ble_eq_true rfl⟩) rfl rfl (Nat.le_of_ble_eq_true rfl) dX5_mixMandate_93 ?_
        refine lv_lstore (lv' := [(4, .long (f_X5_mix (f_X5_mix (f_X5_mix x4_6 (Int32.toInt64 (f_X2_refusal rm fm p2 100))) (Int32.toInt64 (f_X2_greatestAmount rm fm p2 0))) (Int32.toInt64 (f_X2_greatestAmount rm fm p2 1)))), (0, .ref (q 0)), (3, .int p2), (6, .int x6_6)]) hx hb dX5_mixMandate_96 hl (by decide) rfl (fun ls hl => ?_)
        refine lv_lload hx hb dX5_mixMandate_98 (lv_at hl 0 rfl) ?_
        refine lv_aload_n hx hb dX5_mixMandate_100 rfl (lv_at hl 1 rfl) ?_
        refine va_get (D := (dC, dI)) (ci := 5) (v := .ref (q 1)) (C := RX5) (T := TX5) (N := 3) hx hb hts iwsX50 hown hK hP 0 rfl rfl 0 (by decide) kw1 (fun _ h9 => h9) rfl dX5_mixMandate_101 ?_
        refine va_getN (D := (dC, dI)) (ci := 0) (v := .ref (q 2)) (C := RX0) (T := TX0) (N := 12) hx hb hts iwsX00 hown hK hP 1 rfl rfl 0 (by decide) (va_Nw.use rfl hN.2.2.2.2.2.2.2.2.1) (fun _ h9 => h9) rfl dX5_mixMandate_104 ?_
        refine lv_iload_n hx hb dX5_mixMandate_107 rfl (lv_at hl 2 rfl) ?_
        refine vm_roVx (v := (f_X2_wouldLapse rm fm p2)) (As := [.int p2]) (rest := [.long (f_X5_mix (f_X5_mix (f_X5_mix x4_6 (Int32.toInt64 (f_X2_refusal rm fm p2 100))) (Int32.toInt64 (f_X2_greatestAmount rm fm p2 0))) (Int32.toInt64 (f_X2_greatestAmount rm fm p2 1)))]) (T := TX2) (N := 1) (wc := [((q 2), .inr (2, [.ref (q 3)])), ((q 3), .inr (3, [.ref (q 4), .int 12, .int 8, .int rm])), ((q 4), .inl (cI, 96, .inl fm))]) ⟨hx, hb, hml, hown, hts⟩ hK hN hP hl.1 ⟨Nat.le_of_ble_eq_true rfl, Nat.le_of_ble_eq_true rfl⟩ (c_X2_wouldLapse l dC dI cI cB (q 2) (q 3) (q 4) rm fm p2) (cwV 1 hts gX5_mixMandate_X2_wouldLapse rfl rfl rfl yd_X2_wouldLapse ⟨Nat.le_of_ble_eq_true rfl, Nat.le_of_ble_eq_true rfl⟩) [2, 3, 4] rfl 2 rfl rfl rfl rfl (Nat.le_of_ble_eq_true rfl) dX5_mixMandate_108 ?_
        refine lv_i2l (v := (Int32.toInt64 (f_X2_wouldLapse rm fm p2))) hx hb dX5_mixMandate_111 rfl ?_
        refine vm_roSlx (v := (f_X5_mix (f_X5_mix (f_X5_mix (f_X5_mix x4_6 (Int32.toInt64 (f_X2_refusal rm fm p2 100))) (Int32.toInt64 (f_X2_greatestAmount rm fm p2 0))) (Int32.toInt64 (f_X2_greatestAmount rm fm p2 1))) (Int32.toInt64 (f_X2_wouldLapse rm fm p2)))) (As := [.long (f_X5_mix (f_X5_mix (f_X5_mix x4_6 (Int32.toInt64 (f_X2_refusal rm fm p2 100))) (Int32.toInt64 (f_X2_greatestAmount rm fm p2 0))) (Int32.toInt64 (f_X2_greatestAmount rm fm p2 1))), .long (Int32.toInt64 (f_X2_wouldLapse rm fm p2))]) (rest := []) ⟨hx, hb, hml, hown, hts⟩ hK hN hP hl.1 ⟨Nat.le_of_ble_eq_true rfl, Nat.le_of_ble_eq_true rfl⟩ (c_X5_mix l dC dI cI cB (f_X5_mix (f_X5_mix (f_X5_mix x4_6 (Int32.toInt64 (f_X2_refusal rm fm p2 100))) (Int32.toInt64 (f_X2_greatestAmount rm fm p2 0))) (Int32.toInt64 (f_X2_greatestAmount rm fm p2 1))) (Int32.toInt64 (f_X2_wouldLapse rm fm p2))) (va_cwS 2 hts gX5_mixMandate_X5_mix rfl rfl rfl yd_X5_mix ⟨Nat.le_of_ble_eq_true rfl, Nat.le_of_ble_eq_true rfl⟩) rfl rfl (Nat.le_of_ble_eq_true rfl) dX5_mixMandate_112 ?_
        refine lv_lstore (lv' := [(4, .long (f_X5_mix (f_X5_mix (f_X5_mix (f_X5_mix x4_6 (Int32.toInt64 (f_X2_refusal rm fm p2 100))) (Int32.toInt64 (f_X2_greatestAmount rm fm p2 0))) (Int32.toInt64 (f_X2_greatestAmount rm fm p2 1))) (Int32.toInt64 (f_X2_wouldLapse rm fm p2)))), (0, .ref (q 0)), (3, .int p2), (6, .int x6_6)]) hx hb dX5_mixMandate_115 hl (by decide) rfl (fun ls hl => ?_)
        refine lv_lload hx hb dX5_mixMandate_117 (lv_at hl 0 rfl) ?_
        refine lv_aload_n hx hb dX5_mixMandate_119 rfl (lv_at hl 1 rfl) ?_
        refine va_get (D := (dC, dI)) (ci := 5) (v := .ref (q 1)) (C := RX5) (T := TX5) (N := 3) hx hb hts iwsX50 hown hK hP 0 rfl rfl 0 (by decide) kw1 (fun _ h9 => h9) rfl dX5_mixMandate_120 ?_
        refine va_getN (D := (dC, dI)) (ci := 0) (v := .ref (q 2)) (C := RX0) (T := TX0) (N := 12) hx hb hts iwsX00 hown hK hP 1 rfl rfl 0 (by decide) (va_Nw.use rfl hN.2.2.2.2.2.2.2.2.1) (fun _ h9 => h9) rfl dX5_mixMandate_123 ?_
        refine lv_iload_n hx hb dX5_mixMandate_126 rfl (lv_at hl 2 rfl) ?_
        refine vm_roVx (v := (f_X2_narrowestOfChain rm fm p2)) (As := [.int p2]) (rest := [.long (f_X5_mix (f_X5_mix (f_X5_mix (f_X5_mix x4_6 (Int32.toInt64 (f_X2_refusal rm fm p2 100))) (Int32.toInt64 (f_X2_greatestAmount rm fm p2 0))) (Int32.toInt64 (f_X2_greatestAmount rm fm p2 1))) (Int32.toInt64 (f_X2_wouldLapse rm fm p2)))]) (T := TX2) (N := 1) (wc := [((q 2), .inr (2, [.ref (q 3)])), ((q 3), .inr (3, [.ref (q 4), .int 12, .int 8, .int rm])), ((q 4), .inl (cI, 96, .inl fm))]) ⟨hx, hb, hml, hown, hts⟩ hK hN hP hl.1 ⟨Nat.le_of_ble_eq_true rfl, Nat.le_of_ble_eq_true rfl⟩ (c_X2_narrowestOfChain l dC dI cI cB (q 2) (q 3) (q 4) rm fm p2) (cwV 1 hts gX5_mixMandate_X2_narrowestOfChain rfl rfl rfl yd_X2_narrowestOfChain ⟨Nat.le_of_ble_eq_true rfl, Nat.le_of_ble_eq_true rfl⟩) [2, 3, 4] rfl 2 rfl rfl rfl rfl (Nat.le_of_ble_eq_true rfl) dX5_mixMandate_127 ?_
        refine lv_i2l (v := (Int32.toInt64 (f_X2_narrowestOfChain rm fm p2))) hx hb dX5_mixMandate_130 rfl ?_
        refine vm_roSlx (v := (f_X5_mix (f_X5_mix (f_X5_mix (f_X5_mix (f_X5_mix x4_6 (Int32.toInt64 (f_X2_refusal rm fm p2 100))) (Int32.toInt64 (f_X2_greatestAmount rm fm p2 0))) (Int32.toInt64 (f_X2_greatestAmount rm fm p2 1))) (Int32.toInt64 (f_X2_wouldLapse rm fm p2))) (Int32.toInt64 (f_X2_narrowestOfChain rm fm p2)))) (As := [.long (f_X5_mix (f_X5_mix (f_X5_mix (f_X5_mix x4_6 (Int32.toInt64 (f_X2_refusal rm fm p2 100))) (Int32.toInt64 (f_X2_greatestAmount rm fm p2 0))) (Int32.toInt64 (f_X2_greatestAmount rm fm p2 1))) (Int32.toInt64 (f_X2_wouldLapse rm fm p2))), .long (Int32.toInt64 (f_X2_narrowestOfChain rm fm p2))]) (rest := []) ⟨hx, hb, hml, hown, hts⟩ hK hN hP hl.1 ⟨Nat.le_of_ble_eq_true rfl, Nat.le_of_ble_eq_true rfl⟩ (c_X5_mix l dC dI cI cB (f_X5_mix (f_X5_mix (f_X5_mix (f_X5_mix x4_6 (Int32.toInt64 (f_X2_refusal rm fm p2 100))) (Int32.toInt64 (f_X2_greatestAmount rm fm p2 0))) (Int32.toInt64 (f_X2_greatestAmount rm fm p2 1))) (Int32.toInt64 (f_X2_wouldLapse rm fm p2))) (Int32.toInt64 (f_X2_narrowestOfChain rm fm p2))) (va_cwS 2 hts gX5_mixMandate_X5_mix rfl rfl rfl yd_X5_mix ⟨Nat.le_of_ble_eq_true rfl, Nat.le_of_ble_eq_true rfl⟩) rfl rfl (Nat.le_of_ble_eq_true rfl) dX5_mixMandate_131 ?_
        refine lv_lstore (lv' := [(4, .long (f_X5_mix (f_X5_mix (f_X5_mix (f_X5_mix (f_X5_mix x4_6 (Int32.toInt64 (f_X2_refusal rm fm p2 100))) (Int32.toInt64 (f_X2_greatestAmount rm fm p2 0))) (Int32.toInt64 (f_X2_greatestAmount rm fm p2 1))) (Int32.toInt64 (f_X2_wouldLapse rm fm p2))) (Int32.toInt64 (f_X2_narrowestOfChain rm fm p2)))), (0, .ref (q 0)), (3, .int p2), (6, .int x6_6)]) hx hb dX5_mixMandate_134 hl (by decide) rfl (fun ls hl => ?_)
        refine lv_lload hx hb dX5_mixMandate_136 (lv_at hl 0 rfl) ?_
        refine lv_aload_n hx hb dX5_mixMandate_138 rfl (lv_at hl 1 rfl) ?_
        refine va_get (D := (dC, dI)) (ci := 5) (v := .ref (q 1)) (C := RX5) (T := TX5) (N := 3) hx hb hts iwsX50 hown hK hP 0 rfl rfl 0 (by decide) kw1 (fun _ h9 => h9) rfl dX5_mixMandate_139 ?_
        refine lv_iload_n hx hb dX5_mixMandate_142 rfl (lv_at hl 2 rfl) ?_
        refine vm_roVx (v := (f_X0_daysUntilLapse rm fm rq fr day grace p2)) (As := [.int p2]) (rest := [.long (f_X5_mix (f_X5_mix (f_X5_mix (f_X5_mix (f_X5_mix x4_6 (Int32.toInt64 (f_X2_refusal rm fm p2 100))) (Int32.toInt64 (f_X2_greatestAmount rm fm p2 0))) (Int32.toInt64 (f_X2_greatestAmount rm fm p2 1))) (Int32.toInt64 (f_X2_wouldLapse rm fm p2))) (Int32.toInt64 (f_X2_narrowestOfChain rm fm p2)))]) (T := TX0) (N := 12) (wc := [((q 1), .inr (0, [.ref (q 2), .ref (q 5), .ref (q 7), .int day, .int grace, .int longest, .int spent, .int spentIn, .int spendings, .int urgentSp, .int dropped, .int lapsedLate])), ((q 2), .inr (2, [.ref (q 3)])), ((q 3), .inr (3, [.ref (q 4), .int 12, .int 8, .int rm])), ((q 4), .inl (cI, 96, .inl fm)), ((q 5), .inr (3, [.ref (q 6), .int 6, .int 6, .int rq])), ((q 6), .inl (cI, 36, .inl fr)), ((q 7), .inl (cI, 8, .inl ap))]) ⟨hx, hb, hml, hown, hts⟩ hK hN hP hl.1 ⟨Nat.le_of_ble_eq_true rfl, Nat.le_of_ble_eq_true rfl⟩ (c_X0_daysUntilLapse l dC dI cI cB (q 1) (q 2) (q 3) (q 4) (q 5) (q 6) (q 7) rm fm rq fr ap day grace longest spent spentIn spendings urgentSp dropped lapsedLate p2) (cwV 1 hts gX5_mixMandate_X0_daysUntilLapse rfl rfl rfl yd_X0_daysUntilLapse ⟨Nat.le_of_ble_eq_true rfl, Nat.le_of_ble_eq_true rfl⟩) [1, 2, 3, 4, 5, 6, 7] rfl 0 rfl rfl rfl rfl (Nat.le_of_ble_eq_true rfl) dX5_mixMandate_143 ?_
        refine lv_i2l (v := (Int32.toInt64 (f_X0_daysUntilLapse rm fm rq fr day grace p2))) hx hb dX5_mixMandate_146 rfl ?_
        refine vm_roSlx (v := (f_X5_mix (f_X5_mix (f_X5_mix (f_X5_mix (f_X5_mix (f_X5_mix x4_6 (Int32.toInt64 (f_X2_refusal rm fm p2 100))) (Int32.toInt64 (f_X2_greatestAmount rm fm p2 0))) (Int32.toInt64 (f_X2_greatestAmount rm fm p2 1))) (Int32.toInt64 (f_X2_wouldLapse rm fm p2))) (Int32.toInt64 (f_X2_narrowestOfChain rm fm p2))) (Int32.toInt64 (f_X0_daysUntilLapse rm fm rq fr day grace p2)))) (As := [.long (f_X5_mix (f_X5_mix (f_X5_mix (f_X5_mix (f_X5_mix x4_6 (Int32.toInt64 (f_X2_refusal rm fm p2 100))) (Int32.toInt64 (f_X2_greatestAmount rm fm p2 0))) (Int32.toInt64 (f_X2_greatestAmount rm fm p2 1))) (Int32.toInt64 (f_X2_wouldLapse rm fm p2))) (Int32.toInt64 (f_X2_narrowestOfChain rm fm p2))), .long (Int32.toInt64 (f_X0_daysUntilLapse rm fm rq fr day grace p2))]) (rest := []) ⟨hx, hb, hml, hown, hts⟩ hK hN hP hl.1 ⟨Nat.le_of_ble_eq_true rfl, Nat.le_of_ble_eq_true rfl⟩ (c_X5_mix l dC dI cI cB (f_X5_mix (f_X5_mix (f_X5_mix (f_X5_mix (f_X5_mix x4_6 (Int32.toInt64 (f_X2_refusal rm fm p2 100))) (Int32.toInt64 (f_X2_greatestAmount rm fm p2 0))) (Int32.toInt64 (f_X2_greatestAmount rm fm p2 1))) (Int32.toInt64 (f_X2_wouldLapse rm fm p2))) (Int32.toInt64 (f_X2_narrowestOfChain rm fm p2))) (Int32.toInt64 (f_X0_daysUntilLapse rm fm rq fr day grace p2))) (va_cwS 2 hts gX5_mixMandate_X5_mix rfl rfl rfl yd_X5_mix ⟨Nat.le_of_ble_eq_true rfl, Nat.le_of_ble_eq_true rfl⟩) rfl rfl (Nat.le_of_ble_eq_true rfl) dX5_mixMandate_147 ?_
        refine lv_lstore (lv' := [(4, .long (f_X5_mix (f_X5_mix (f_X5_mix (f_X5_mix (f_X5_mix (f_X5_mix x4_6 (Int32.toInt64 (f_X2_refusal rm fm p2 100))) (Int32.toInt64 (f_X2_greatestAmount rm fm p2 0))) (Int32.toInt64 (f_X2_greatestAmount rm fm p2 1))) (Int32.toInt64 (f_X2_wouldLapse rm fm p2))) (Int32.toInt64 (f_X2_narrowestOfChain rm fm p2))) (Int32.toInt64 (f_X0_daysUntilLapse rm fm rq fr day grace p2)))), (0, .ref (q 0)), (3, .int p2), (6, .int x6_6)]) hx hb dX5_mixMandate_150 hl (by decide) rfl (fun ls hl => ?_)
        refine lv_lload hx hb dX5_mixMandate_152 (lv_at hl 0 rfl) ?_
        refine lv_aload_n hx hb dX5_mixMandate_154 rfl (lv_at hl 1 rfl) ?_
        refine va_get (D := (dC, dI)) (ci := 5) (v := .ref (q 1)) (C := RX5) (T := TX5) (N := 3) hx hb hts iwsX50 hown hK hP 0 rfl rfl 0 (by decide) kw1 (fun _ h9 => h9) rfl dX5_mixMandate_155 ?_
        refine va_getN (D := (dC, dI)) (ci := 0) (v := .ref (q 2)) (C := RX0) (T := TX0) (N := 12) hx hb hts iwsX00 hown hK hP 1 rfl rfl 0 (by decide) (va_Nw.use rfl hN.2.2.2.2.2.2.2.2.1) (fun _ h9 => h9) rfl dX5_mixMandate_158 ?_
        refine lv_iload_n hx hb dX5_mixMandate_161 rfl (lv_at hl 2 rfl) ?_
        obtain ⟨hv_2, eO⟩ := eO
        refine vm_roVdx (v := (f_X2_shareUsed rm fm p2)) (As := [.int p2]) (rest := [.long (f_X5_mix (f_X5_mix (f_X5_mix (f_X5_mix (f_X5_mix (f_X5_mix x4_6 (Int32.toInt64 (f_X2_refusal rm fm p2 100))) (Int32.toInt64 (f_X2_greatestAmount rm fm p2 0))) (Int32.toInt64 (f_X2_greatestAmount rm fm p2 1))) (Int32.toInt64 (f_X2_wouldLapse rm fm p2))) (Int32.toInt64 (f_X2_narrowestOfChain rm fm p2))) (Int32.toInt64 (f_X0_daysUntilLapse rm fm rq fr day grace p2)))]) (T := TX2) (N := 1) (wc := [((q 2), .inr (2, [.ref (q 3)])), ((q 3), .inr (3, [.ref (q 4), .int 12, .int 8, .int rm])), ((q 4), .inl (cI, 96, .inl fm))]) ⟨hx, hb, hml, hown, hts⟩ hK hN hP hl.1 ⟨Nat.le_of_ble_eq_true rfl, Nat.le_of_ble_eq_true rfl⟩ (c_X2_shareUsed l dC dI cI cB (q 2) (q 3) (q 4) rm fm p2 hv_2) (cwV 1 hts gX5_mixMandate_X2_shareUsed rfl rfl rfl yd_X2_shareUsed ⟨Nat.le_of_ble_eq_true rfl, Nat.le_of_ble_eq_true rfl⟩) [2, 3, 4] rfl 2 rfl rfl rfl rfl (Nat.le_of_ble_eq_true rfl) dX5_mixMandate_162 ?_
        obtain ⟨hv_3, eO⟩ := eO
        refine vm_roSlx (v := (f_X5_bitsOf (f_X2_shareUsed rm fm p2))) (As := [.double (f_X2_shareUsed rm fm p2)]) (rest := [.long (f_X5_mix (f_X5_mix (f_X5_mix (f_X5_mix (f_X5_mix (f_X5_mix x4_6 (Int32.toInt64 (f_X2_refusal rm fm p2 100))) (Int32.toInt64 (f_X2_greatestAmount rm fm p2 0))) (Int32.toInt64 (f_X2_greatestAmount rm fm p2 1))) (Int32.toInt64 (f_X2_wouldLapse rm fm p2))) (Int32.toInt64 (f_X2_narrowestOfChain rm fm p2))) (Int32.toInt64 (f_X0_daysUntilLapse rm fm rq fr day grace p2)))]) ⟨hx, hb, hml, hown, hts⟩ hK hN hP hl.1 ⟨Nat.le_of_ble_eq_true rfl, Nat.le_of_ble_eq_true rfl⟩ (c_X5_bitsOf l dC dI cI cB (f_X2_shareUsed rm fm p2) hv_3) (va_cwS 1 hts gX5_mixMandate_X5_bitsOf rfl rfl rfl yd_X5_bitsOf ⟨Nat.le_of_ble_eq_true rfl, Nat.le_of_ble_eq_true rfl⟩) rfl rfl (Nat.le_of_ble_eq_true rfl) dX5_mixMandate_165 ?_
        refine vm_roSlx (v := (f_X5_mix (f_X5_mix (f_X5_mix (f_X5_mix (f_X5_mix (f_X5_mix (f_X5_mix x4_6 (Int32.toInt64 (f_X2_refusal rm fm p2 100))) (Int32.toInt64 (f_X2_greatestAmount rm fm p2 0))) (Int32.toInt64 (f_X2_greatestAmount rm fm p2 1))) (Int32.toInt64 (f_X2_wouldLapse rm fm p2))) (Int32.toInt64 (f_X2_narrowestOfChain rm fm p2))) (Int32.toInt64 (f_X0_daysUntilLapse rm fm rq fr day grace p2))) (f_X5_bitsOf (f_X2_shareUsed rm fm p2)))) (As := [.long (f_X5_mix (f_X5_mix (f_X5_mix (f_X5_mix (f_X5_mix (f_X5_mix x4_6 (Int32.toInt64 (f_X2_refusal rm fm p2 100))) (Int32.toInt64 (f_X2_greatestAmount rm fm p2 0))) (Int32.toInt64 (f_X2_greatestAmount rm fm p2 1))) (Int32.toInt64 (f_X2_wouldLapse rm fm p2))) (Int32.toInt64 (f_X2_narrowestOfChain rm fm p2))) (Int32.toInt64 (f_X0_daysUntilLapse rm fm rq fr day grace p2))), .long (f_X5_bitsOf (f_X2_shareUsed rm fm p2))]) (rest := []) ⟨hx, hb, hml, hown, hts⟩ hK hN hP hl.1 ⟨Nat.le_of_ble_eq_true rfl, Nat.le_of_ble_eq_true rfl⟩ (c_X5_mix l dC dI cI cB (f_X5_mix (f_X5_mix (f_X5_mix (f_X5_mix (f_X5_mix (f_X5_mix x4_6 (Int32.toInt64 (f_X2_refusal rm fm p2 100))) (Int32.toInt64 (f_X2_greatestAmount rm fm p2 0))) (Int32.toInt64 (f_X2_greatestAmount rm fm p2 1))) (Int32.toInt64 (f_X2_wouldLapse rm fm p2))) (Int32.toInt64 (f_X2_narrowestOfChain rm fm p2))) (Int32.toInt64 (f_X0_daysUntilLapse rm fm rq fr day grace p2))) (f_X5_bitsOf (f_X2_shareUsed rm fm p2))) (va_cwS 2 hts gX5_mixMandate_X5_mix rfl rfl rfl yd_X5_mix ⟨Nat.le_of_ble_eq_true rfl, Nat.le_of_ble_eq_true rfl⟩) rfl rfl (Nat.le_of_ble_eq_true rfl) dX5_mixMandate_168 ?_
        have e9 : rr = (f_X5_mix (f_X5_mix (f_X5_mix (f_X5_mix (f_X5_mix (f_X5_mix (f_X5_mix x4_6 (Int32.toInt64 (f_X2_refusal rm fm p2 100))) (Int32.toInt64 (f_X2_greatestAmount rm fm p2 0))) (Int32.toInt64 (f_X2_greatestAmount rm fm p2 1))) (Int32.toInt64 (f_X2_wouldLapse rm fm p2))) (Int32.toInt64 (f_X2_narrowestOfChain rm fm p2))) (Int32.toInt64 (f_X0_daysUntilLapse rm fm rq fr day grace p2))) (f_X5_bitsOf (f_X2_shareUsed rm fm p2))) := eF.trans (by rw [f_X5_mixMandate_j6, if_pos cL6])
        exact W.lret (v := (f_X5_mix (f_X5_mix (f_X5_mix (f_X5_mix (f_X5_mix (f_X5_mix (f_X5_mix x4_6 (Int32.toInt64 (f_X2_refusal rm fm p2 100))) (Int32.toInt64 (f_X2_greatestAmount rm fm p2 0))) (Int32.toInt64 (f_X2_greatestAmount rm fm p2 1))) (Int32.toInt64 (f_X2_wouldLapse rm fm p2))) (Int32.toInt64 (f_X2_narrowestOfChain rm fm p2))) (Int32.toInt64 (f_X0_daysUntilLapse rm fm rq fr day grace p2))) (f_X5_bitsOf (f_X2_shareUsed rm fm p2)))) hx hb hr (fun t ht hW => ⟨_, rfl, e9.symm, ht⟩) (fun _ hq => by cases hq) dX5_mixMandate_171
      · rw [if_neg cL6] at eO
        refine lv_lload hx hb dX5_mixMandate_13 (lv_at hl 2 rfl) ?_
        refine lv_aload_n hx hb dX5_mixMandate_15 rfl (lv_at hl 0 rfl) ?_
        refine va_get (D := (dC, dI)) (ci := 5) (v := .ref (q 1)) (C := RX5) (T := TX5) (N := 3) hx hb hts iwsX50 hown hK hP 0 rfl rfl 0 (by decide) kw1 (fun _ h9 => h9) rfl dX5_mixMandate_16 ?_
        refine lv_iload_n hx hb dX5_mixMandate_19 rfl (lv_at hl 1 rfl) ?_
        refine lv_iload hx hb dX5_mixMandate_20 (lv_at hl 3 rfl) ?_
        refine vm_roVx (v := (f_X0_mandateProperty rm fm rq fr p2 x6_6)) (As := [.int p2, .int x6_6]) (rest := [.long x4_6]) (T := TX0) (N := 12) (wc := [((q 1), .inr (0, [.ref (q 2), .ref (q 5), .ref (q 7), .int day, .int grace, .int longest, .int spent, .int spentIn, .int spendings, .int urgentSp, .int dropped, .int lapsedLate])), ((q 2), .inr (2, [.ref (q 3)])), ((q 3), .inr (3, [.ref (q 4), .int 12, .int 8, .int rm])), ((q 4), .inl (cI, 96, .inl fm)), ((q 5), .inr (3, [.ref (q 6), .int 6, .int 6, .int rq])), ((q 6), .inl (cI, 36, .inl fr)), ((q 7), .inl (cI, 8, .inl ap))]) ⟨hx, hb, hml, hown, hts⟩ hK hN hP hl.1 ⟨Nat.le_of_ble_eq_true rfl, Nat.le_of_ble_eq_true rfl⟩ (c_X0_mandateProperty l dC dI cI cB (q 1) (q 2) (q 3) (q 4) (q 5) (q 6) (q 7) rm fm rq fr ap day grace longest spent spentIn spendings urgentSp dropped lapsedLate p2 x6_6) (cwV 2 hts gX5_mixMandate_X0_mandateProperty rfl rfl rfl yd_X0_mandateProperty ⟨Nat.le_of_ble_eq_true rfl, Nat.le_of_ble_eq_true rfl⟩) [1, 2, 3, 4, 5, 6, 7] rfl 0 rfl rfl rfl rfl (Nat.le_of_ble_eq_true rfl) dX5_mixMandate_22 ?_
        refine lv_i2l (v := (Int32.toInt64 (f_X0_mandateProperty rm fm rq fr p2 x6_6))) hx hb dX5_mixMandate_25 rfl ?_
        refine vm_roSlx (v := (f_X5_mix x4_6 (Int32.toInt64 (f_X0_mandateProperty rm fm rq fr p2 x6_6)))) (As := [.long x4_6, .long (Int32.toInt64 (f_X0_mandateProperty rm fm rq fr p2 x6_6))]) (rest := []) ⟨hx, hb, hml, hown, hts⟩ hK hN hP hl.1 ⟨Nat.le_of_ble_eq_true rfl, Nat.le_of_ble_eq_true rfl⟩ (c_X5_mix l dC dI cI cB x4_6 (Int32.toInt64 (f_X0_mandateProperty rm fm rq fr p2 x6_6))) (va_cwS 2 hts gX5_mixMandate_X5_mix rfl rfl rfl yd_X5_mix ⟨Nat.le_of_ble_eq_true rfl, Nat.le_of_ble_eq_true rfl⟩) rfl rfl (Nat.le_of_ble_eq_true rfl) dX5_mixMandate_26 ?_
        refine lv_lstore (lv' := [(4, .long (f_X5_mix x4_6 (Int32.toInt64 (f_X0_mandateProperty rm fm rq fr p2 x6_6)))), (0, .ref (q 0)), (3, .int p2), (6, .int x6_6)]) hx hb dX5_mixMandate_29 hl (by decide) rfl (fun ls hl => ?_)
        refine lv_iinc (v := (x6_6 + 1)) (lv' := [(6, .int (x6_6 + 1)), (4, .long (f_X5_mix x4_6 (Int32.toInt64 (f_X0_mandateProperty rm fm rq fr p2 x6_6)))), (0, .ref (q 0)), (3, .int p2)]) hx hb dX5_mixMandate_31 hl (k := 3) rfl rfl (by decide) rfl (fun ls hl => ?_)
        refine lv_goto (tgt := 6) hx hb dX5_mixMandate_34 (by decide) ?_
        exact ih6 (f_X5_mix x4_6 (Int32.toInt64 (f_X0_mandateProperty rm fm rq fr p2 x6_6))) (x6_6 + 1) (vm_up (vm_nle cL6) hm6) (vm_nn hi6 (vm_nle cL6)) (eF.trans (by rw [f_X5_mixMandate_j6, if_neg cL6])) eO ls (lv_sub hl [2, 3, 1, 0] rfl)
  rw [o_X5_mixMandate] at eO
  refine lv_lload_n hx hb dX5_mixMandate_0 rfl (lv_at hl 1 rfl) ?_
  refine lv_lstore (lv' := [(4, .long p1), (0, .ref (q 0)), (1, .long p1), (3, .int p2)]) hx hb dX5_mixMandate_1 hl (by decide) rfl (fun ls hl => ?_)
  refine lv_iconst (v := 0) hx hb dX5_mixMandate_3 (by decide) ?_
  refine lv_istore (lv' := [(6, .int 0), (4, .long p1), (0, .ref (q 0)), (1, .long p1), (3, .int p2)]) hx hb dX5_mixMandate_4 hl (by decide) rfl (fun ls hl => ?_)
  exact hJ6 ((((12 : Int32)).toInt - ((0 : Int32)).toInt).toNat + 1) p1 0 (Nat.lt_succ_self _) (by decide) (eF.trans (by rw [f_X5_mixMandate])) eO ls (lv_sub hl [2, 4, 1, 0] rfl)

def f_X5_digest_n_j103 (rm : Int32) (fm : Nat → Int32) (rq : Int32) (fr : Nat → Int32) (x3_86 : Int32) (kj86 : Int64 → Int32 → Int64) : Nat → Int64 → Int32 → Int64
  | 0, _, _ => 0
  | n103 + 1, x1_103, x4_103 => if 7 ≤ x4_103 then
      kj86 x1_103 (x3_86 + 1)
    else
      f_X5_digest_n_j103 rm fm rq fr x3_86 kj86 n103 (f_X5_mix x1_103 (Int32.toInt64 (f_X0_requestProperty rm fm rq fr x3_86 x4_103))) (x4_103 + 1)
def f_X5_digest_n_j149 (rm : Int32) (fm : Nat → Int32) (rq : Int32) (fr : Nat → Int32) (ap : Nat → Int32) (x3_140 : Int32) (kj140 : Int64 → Int32 → Int64) : Nat → Int64 → Int32 → Int64
  | 0, _, _ => 0
  | n149 + 1, x1_149, x4_149 => if 4 ≤ x4_149 then
      kj140 x1_149 (x3_140 + 1)
    else
      f_X5_digest_n_j149 rm fm rq fr ap x3_140 kj140 n149 (f_X5_mix x1_149 (Int32.toInt64 (f_X0_personNumber rm fm rq fr ap x3_140 x4_149))) (x4_149 + 1)
def f_X5_digest_n_j198 (ln : Int32) (tx : Nat → Int32) : Nat → Int64 → Int32 → Int64
  | 0, _, _ => 0
  | n198 + 1, x1_198, x3_198 => if ln ≤ x3_198 then
      x1_198
    else
      f_X5_digest_n_j198 ln tx n198 (f_X5_mix x1_198 (Int32.toInt64 (f_X4_codeAt ln tx x3_198))) (x3_198 + 1)
def f_X5_digest_n_j140 (rm : Int32) (fm : Nat → Int32) (rq : Int32) (fr : Nat → Int32) (ap : Nat → Int32) (ln : Int32) (tx : Nat → Int32) : Nat → Int64 → Int32 → Int64
  | 0, _, _ => 0
  | n140 + 1, x1_140, x3_140 => if 8 ≤ x3_140 then
      f_X5_digest_n_j198 ln tx (((ln).toInt - ((0 : Int32)).toInt).toNat + 1) (f_X5_mix x1_140 (Int32.toInt64 ln)) 0
    else
      f_X5_digest_n_j149 rm fm rq fr ap x3_140 (f_X5_digest_n_j140 rm fm rq fr ap ln tx n140) ((((4 : Int32)).toInt - ((0 : Int32)).toInt).toNat + 1) x1_140 0
def f_X5_digest_n_j86 (rm : Int32) (fm : Nat → Int32) (rq : Int32) (fr : Nat → Int32) (ap : Nat → Int32) (ln : Int32) (tx : Nat → Int32) : Nat → Int64 → Int32 → Int64
  | 0, _, _ => 0
  | n86 + 1, x1_86, x3_86 => if rq ≤ x3_86 then
      f_X5_digest_n_j140 rm fm rq fr ap ln tx ((((8 : Int32)).toInt - ((0 : Int32)).toInt).toNat + 1) x1_86 0
    else
      f_X5_digest_n_j103 rm fm rq fr x3_86 (f_X5_digest_n_j86 rm fm rq fr ap ln tx n86) ((((7 : Int32)).toInt - ((0 : Int32)).toInt).toNat + 1) x1_86 0
def f_X5_digest_n_j57 (rm : Int32) (fm : Nat → Int32) (rq : Int32) (fr : Nat → Int32) (ap : Nat → Int32) (day : Int32) (grace : Int32) (ln : Int32) (tx : Nat → Int32) : Nat → Int64 → Int32 → Int64
  | 0, _, _ => 0
  | n57 + 1, x1_57, x3_57 => if (f_X2_total rm) ≤ x3_57 then
      f_X5_digest_n_j86 rm fm rq fr ap ln tx (((rq).toInt - ((0 : Int32)).toInt).toNat + 1) x1_57 0
    else
      f_X5_digest_n_j57 rm fm rq fr ap day grace ln tx n57 (f_X5_mixMandate rm fm rq fr day grace x1_57 x3_57) (x3_57 + 1)
def f_X5_digest_n_j6 (rm : Int32) (fm : Nat → Int32) (rq : Int32) (fr : Nat → Int32) (ap : Nat → Int32) (day : Int32) (grace : Int32) (longest : Int32) (spent : Int32) (spentIn : Int32) (spendings : Int32) (urgentSp : Int32) (dropped : Int32) (lapsedLate : Int32) (kept : Int32) (ln : Int32) (tx : Nat → Int32) : Nat → Int64 → Int32 → Int64
  | 0, _, _ => 0
  | n6 + 1, x1_6, x3_6 => if 12 ≤ x3_6 then
      f_X5_digest_n_j57 rm fm rq fr ap day grace ln tx ((((f_X2_total rm)).toInt - ((0 : Int32)).toInt).toNat + 1) (f_X5_mix (f_X5_mix x1_6 (Int32.toInt64 grace)) (Int32.toInt64 longest)) 0
    else
      f_X5_digest_n_j6 rm fm rq fr ap day grace longest spent spentIn spendings urgentSp dropped lapsedLate kept ln tx n6 (f_X5_mix x1_6 (Int32.toInt64 (f_X5_count_n rm fm rq day spent spentIn spendings urgentSp dropped lapsedLate kept x3_6))) (x3_6 + 1)
def f_X5_digest_n (rm : Int32) (fm : Nat → Int32) (rq : Int32) (fr : Nat → Int32) (ap : Nat → Int32) (day : Int32) (grace : Int32) (longest : Int32) (spent : Int32) (spentIn : Int32) (spendings : Int32) (urgentSp : Int32) (dropped : Int32) (lapsedLate : Int32) (kept : Int32) (ln : Int32) (tx : Nat → Int32) : Int64 :=
  f_X5_digest_n_j6 rm fm rq fr ap day grace longest spent spentIn spendings urgentSp dropped lapsedLate kept ln tx ((((12 : Int32)).toInt - ((0 : Int32)).toInt).toNat + 1) 2543 0
def o_X5_digest_n_j103 (rm : Int32) (fm : Nat → Int32) (rq : Int32) (fr : Nat → Int32) (x3_86 : Int32) (koj86 : Int64 → Int32 → Prop) : Nat → Int64 → Int32 → Prop
  | 0, _, _ => True
  | n103 + 1, x1_103, x4_103 => if 7 ≤ x4_103 then
      koj86 x1_103 (x3_86 + 1)
    else
      o_X5_digest_n_j103 rm fm rq fr x3_86 koj86 n103 (f_X5_mix x1_103 (Int32.toInt64 (f_X0_requestProperty rm fm rq fr x3_86 x4_103))) (x4_103 + 1)
def o_X5_digest_n_j149 (rm : Int32) (fm : Nat → Int32) (rq : Int32) (fr : Nat → Int32) (ap : Nat → Int32) (x3_140 : Int32) (koj140 : Int64 → Int32 → Prop) : Nat → Int64 → Int32 → Prop
  | 0, _, _ => True
  | n149 + 1, x1_149, x4_149 => if 4 ≤ x4_149 then
      koj140 x1_149 (x3_140 + 1)
    else
      o_X5_digest_n_j149 rm fm rq fr ap x3_140 koj140 n149 (f_X5_mix x1_149 (Int32.toInt64 (f_X0_personNumber rm fm rq fr ap x3_140 x4_149))) (x4_149 + 1)
def o_X5_digest_n_j198 (ln : Int32) (tx : Nat → Int32) : Nat → Int64 → Int32 → Prop
  | 0, _, _ => True
  | n198 + 1, x1_198, x3_198 => if ln ≤ x3_198 then
      True
    else
      o_X5_digest_n_j198 ln tx n198 (f_X5_mix x1_198 (Int32.toInt64 (f_X4_codeAt ln tx x3_198))) (x3_198 + 1)
def o_X5_digest_n_j140 (rm : Int32) (fm : Nat → Int32) (rq : Int32) (fr : Nat → Int32) (ap : Nat → Int32) (ln : Int32) (tx : Nat → Int32) : Nat → Int64 → Int32 → Prop
  | 0, _, _ => True
  | n140 + 1, x1_140, x3_140 => if 8 ≤ x3_140 then
      o_X5_digest_n_j198 ln tx (((ln).toInt - ((0 : Int32)).toInt).toNat + 1) (f_X5_mix x1_140 (Int32.toInt64 ln)) 0
    else
      o_X5_digest_n_j149 rm fm rq fr ap x3_140 (o_X5_digest_n_j140 rm fm rq fr ap ln tx n140) ((((4 : Int32)).toInt - ((0 : Int32)).toInt).toNat + 1) x1_140 0
def o_X5_digest_n_j86 (rm : Int32) (fm : Nat → Int32) (rq : Int32) (fr : Nat → Int32) (ap : Nat → Int32) (ln : Int32) (tx : Nat → Int32) : Nat → Int64 → Int32 → Prop
  | 0, _, _ => True
  | n86 + 1, x1_86, x3_86 => if rq ≤ x3_86 then
      o_X5_digest_n_j140 rm fm rq fr ap ln tx ((((8 : Int32)).toInt - ((0 : Int32)).toInt).toNat + 1) x1_86 0
    else
      o_X5_digest_n_j103 rm fm rq fr x3_86 (o_X5_digest_n_j86 rm fm rq fr ap ln tx n86) ((((7 : Int32)).toInt - ((0 : Int32)).toInt).toNat + 1) x1_86 0
def o_X5_digest_n_j57 (rm : Int32) (fm : Nat → Int32) (rq : Int32) (fr : Nat → Int32) (ap : Nat → Int32) (day : Int32) (grace : Int32) (ln : Int32) (tx : Nat → Int32) : Nat → Int64 → Int32 → Prop
  | 0, _, _ => True
  | n57 + 1, x1_57, x3_57 => if (f_X2_total rm) ≤ x3_57 then
      o_X5_digest_n_j86 rm fm rq fr ap ln tx (((rq).toInt - ((0 : Int32)).toInt).toNat + 1) x1_57 0
    else
      o_X5_mixMandate rm fm rq fr day grace x1_57 x3_57 ∧
      (o_X5_digest_n_j57 rm fm rq fr ap day grace ln tx n57 (f_X5_mixMandate rm fm rq fr day grace x1_57 x3_57) (x3_57 + 1))
def o_X5_digest_n_j6 (rm : Int32) (fm : Nat → Int32) (rq : Int32) (fr : Nat → Int32) (ap : Nat → Int32) (day : Int32) (grace : Int32) (longest : Int32) (spent : Int32) (spentIn : Int32) (spendings : Int32) (urgentSp : Int32) (dropped : Int32) (lapsedLate : Int32) (kept : Int32) (ln : Int32) (tx : Nat → Int32) : Nat → Int64 → Int32 → Prop
  | 0, _, _ => True
  | n6 + 1, x1_6, x3_6 => if 12 ≤ x3_6 then
      o_X5_digest_n_j57 rm fm rq fr ap day grace ln tx ((((f_X2_total rm)).toInt - ((0 : Int32)).toInt).toNat + 1) (f_X5_mix (f_X5_mix x1_6 (Int32.toInt64 grace)) (Int32.toInt64 longest)) 0
    else
      o_X5_count_n rm fm rq day spent spentIn spendings urgentSp dropped lapsedLate kept x3_6 ∧
      (o_X5_digest_n_j6 rm fm rq fr ap day grace longest spent spentIn spendings urgentSp dropped lapsedLate kept ln tx n6 (f_X5_mix x1_6 (Int32.toInt64 (f_X5_count_n rm fm rq day spent spentIn spendings urgentSp dropped lapsedLate kept x3_6))) (x3_6 + 1))
def o_X5_digest_n (rm : Int32) (fm : Nat → Int32) (rq : Int32) (fr : Nat → Int32) (ap : Nat → Int32) (day : Int32) (grace : Int32) (longest : Int32) (spent : Int32) (spentIn : Int32) (spendings : Int32) (urgentSp : Int32) (dropped : Int32) (lapsedLate : Int32) (kept : Int32) (ln : Int32) (tx : Nat → Int32) : Prop :=
  o_X5_digest_n_j6 rm fm rq fr ap day grace longest spent spentIn spendings urgentSp dropped lapsedLate kept ln tx ((((12 : Int32)).toInt - ((0 : Int32)).toInt).toNat + 1) 2543 0
theorem yd_X5_digest : yX5_digest.cls = RX5 ∧ yX5_digest.cls ≠ "java/lang/invoke/MethodHandle" ∧ yX5_digest.cls ≠ "java/lang/invoke/VarHandle" ∧ (parseMethodDescriptor yX5_digest.desc).map (fun d => d.parameters.length) = some 0 := by decide +kernel
set_option maxHeartbeats 4000000 in
set_option maxRecDepth 100000 in
theorem c_X5_digest_n (l : Launch) (dC : Nat → ClassId) (dI : Nat → Nat → Nat) (cI cB : ClassId) (q : Nat → Nat) (rm : Int32) (fm : Nat → Int32) (rq : Int32) (fr : Nat → Int32) (ap : Nat → Int32) (day : Int32) (grace : Int32) (longest : Int32) (spent : Int32) (spentIn : Int32) (spendings : Int32) (urgentSp : Int32) (dropped : Int32) (lapsedLate : Int32) (oldest : Int32) (kept : Int32) (ln : Int32) (tx : Nat → Int32) (eO : o_X5_digest_n rm fm rq fr ap day grace longest spent spentIn spendings urgentSp dropped lapsedLate kept ln tx) : Met l yX5_digest wsX5_digest ({ frames := 6, cells := 0, slots := 0, locals := 136 }) (vm_pre [.ref (q 0)] (dC, dI) [((q 0), .inr (5, [.ref (q 1), .ref (q 8), .ref (q 10)])), ((q 1), .inr (0, [.ref (q 2), .ref (q 5), .ref (q 7), .int day, .int grace, .int longest, .int spent, .int spentIn, .int spendings, .int urgentSp, .int dropped, .int lapsedLate])), ((q 2), .inr (2, [.ref (q 3)])), ((q 3), .inr (3, [.ref (q 4), .int 12, .int 8, .int rm])), ((q 4), .inl (cI, 96, .inl fm)), ((q 5), .inr (3, [.ref (q 6), .int 6, .int 6, .int rq])), ((q 6), .inl (cI, 36, .inl fr)), ((q 7), .inl (cI, 8, .inl ap)), ((q 8), .inr (1, [.ref (q 9), .int oldest, .int kept])), ((q 10), .inr (4, [.ref (q 11), .int ln])), ((q 11), .inl (cI, 60, .inl tx))] cI cB) (vp_Sl (fun r9 : Int64 => r9 = (f_X5_digest_n rm fm rq fr ap day grace longest spent spentIn spendings urgentSp dropped lapsedLate kept ln tx))) 0 0 (fun _ => False) := by
  refine Met.ofW (cc := cX5_digest) (maxL := 5) (ret := (some .long)) (by decide) rfl ?_
  intro p e s m args below meth c s₁ B hml hv
  obtain ⟨rfl, hP, hK, hN⟩ := hv
  have hx := B.exec
  have hb := B.bytes
  have hr := B.returns
  have hts := atoms_spec (ws := wsX5_digest) B.pre
  have hown : s.vm.findClass RX5 = some m.cls := findClass_of_methodNamed B.named
  have hlocks := B.notSynchronized
  have kw1 := hts (.constantLong RX5 197 (2543)) (List.mem_of_getElem? (i := 1) rfl)
  have kw2 := hts (.fieldLink RX5 12 "LapseMandates" "book" "LLapseMandates$Book;") (List.mem_of_getElem? (i := 2) rfl)
  have kw3 := hts (.fieldLink RX5 26 "LapseMandates" "text" "LLapseMandates$Text;") (List.mem_of_getElem? (i := 3) rfl)
  have iwsX00 : ∀ w ∈ wsX00, w ∈ wsX5_digest := fun w h => List.mem_cons_of_mem _ (List.mem_append_left _ (List.mem_append_left _ (List.mem_append_left _ (List.mem_append_left _ (List.mem_append_left _ (List.mem_append_right _ h))))))
  have iwsX30 : ∀ w ∈ wsX30, w ∈ wsX5_digest := fun w h => List.mem_cons_of_mem _ (List.mem_append_left _ (List.mem_append_left _ (List.mem_append_left _ (List.mem_append_left _ (List.mem_append_right _ h)))))
  have iwsX40 : ∀ w ∈ wsX40, w ∈ wsX5_digest := fun w h => List.mem_cons_of_mem _ (List.mem_append_left _ (List.mem_append_left _ (List.mem_append_left _ (List.mem_append_right _ h))))
  have iwsX50 : ∀ w ∈ wsX50, w ∈ wsX5_digest := fun w h => List.mem_cons_of_mem _ (List.mem_append_left _ (List.mem_append_left _ (List.mem_append_left _ (List.mem_append_left _ (List.mem_append_left _ (List.mem_append_left _ (List.mem_append_right _ h)))))))
  generalize hrr : f_X5_digest_n rm fm rq fr ap day grace longest spent spentIn spendings urgentSp dropped lapsedLate kept ln tx = rr
  have eF := hrr.symm
  have hl := lv_entry ([.ref (q 0)]) (n := 5) (Nat.le_of_ble_eq_true rfl)
  rw [lg_entry_eq]
  generalize (lg_sl ([.ref (q 0)]) ++ List.replicate (5 - (lg_sl ([.ref (q 0)])).length) Slot.unset).toArray = ls at hl ⊢
  have hl : lv_has ls 5 [(0, .ref (q 0))] := hl
  have hJ198 : ∀ (n198 : Nat) (x1_198 : Int64) (x3_198 : Int32), ((ln).toInt - (x3_198).toInt).toNat < n198 → 0 ≤ x3_198 → rr = f_X5_digest_n_j198 ln tx n198 x1_198 x3_198 → o_X5_digest_n_j198 ln tx n198 x1_198 x3_198 → ∀ (ls : Array Slot), lv_has ls 5 [(0, .ref (q 0)), (1, .long x1_198), (3, .int x3_198)] → W p l e (headSpec wsX5_digest ({ frames := 6, cells := 0, slots := 0, locals := 136 })).room s m ([.ref (q 0)] : List Value).toArray below meth c s.heap [] 0 0 (MQ below (vp_Sl (fun r9 : Int64 => r9 = rr)) ([.ref (q 0)] : List Value).toArray s 0 0 (fun _ => False)) (F0 m 198 ls []) := by
    intro n198
    induction n198 with
    | zero =>
      intro x1_198 x3_198 hm198
      exact absurd hm198 (Nat.not_lt_zero _)
    | succ n198 ih198 =>
      intro x1_198 x3_198 hm198 hi198 eF eO ls hl
      rw [o_X5_digest_n_j198] at eO
      refine lv_iload_n hx hb dX5_digest_198 rfl (lv_at hl 2 rfl) ?_
      refine lv_aload_n hx hb dX5_digest_199 rfl (lv_at hl 0 rfl) ?_
      refine va_get (D := (dC, dI)) (ci := 5) (v := .ref (q 10)) (C := RX5) (T := TX5) (N := 3) hx hb hts iwsX50 hown hK hP 0 rfl rfl 2 (by decide) kw3 (fun _ h9 => h9) rfl dX5_digest_200 ?_
      refine va_getN (D := (dC, dI)) (ci := 4) (v := .int ln) (C := RX4) (T := TX4) (N := 2) hx hb hts iwsX40 hown hK hP 9 rfl rfl 1 (by decide) (va_Nw.use rfl hN.2.2.2.2.2.2.2.2.2.2.2.2.2.2) (fun _ h9 => h9) rfl dX5_digest_203 ?_
      refine lv_icmp_ge (tgt := 229) hx hb dX5_digest_206 (by decide) (fun cL198 => ?_) (fun cL198 => ?_)
      · rw [if_pos cL198] at eO
        refine lv_lload_n hx hb dX5_digest_229 rfl (lv_at hl 1 rfl) ?_
        have e9 : rr = x1_198 := eF.trans (by rw [f_X5_digest_n_j198, if_pos cL198])
        exact W.lret (v := x1_198) hx hb hr (fun t ht hW => ⟨_, rfl, e9.symm, ht⟩) (fun _ hq => by cases hq) dX5_digest_230
      · rw [if_neg cL198] at eO
        refine lv_lload_n hx hb dX5_digest_209 rfl (lv_at hl 1 rfl) ?_
        refine lv_aload_n hx hb dX5_digest_210 rfl (lv_at hl 0 rfl) ?_
        refine va_get (D := (dC, dI)) (ci := 5) (v := .ref (q 10)) (C := RX5) (T := TX5) (N := 3) hx hb hts iwsX50 hown hK hP 0 rfl rfl 2 (by decide) kw3 (fun _ h9 => h9) rfl dX5_digest_211 ?_
        refine lv_iload_n hx hb dX5_digest_214 rfl (lv_at hl 2 rfl) ?_
        refine vm_roVx (v := (f_X4_codeAt ln tx x3_198)) (As := [.int x3_198]) (rest := [.long x1_198]) (T := TX4) (N := 2) (wc := [((q 10), .inr (4, [.ref (q 11), .int ln])), ((q 11), .inl (cI, 60, .inl tx))]) ⟨hx, hb, hml, hown, hts⟩ hK hN hP hl.1 ⟨Nat.le_of_ble_eq_true rfl, Nat.le_of_ble_eq_true rfl⟩ (c_X4_codeAt l dC dI cI cB (q 10) (q 11) ln tx x3_198) (cwV 1 hts gX5_digest_X4_codeAt rfl rfl rfl yd_X4_codeAt ⟨Nat.le_of_ble_eq_true rfl, Nat.le_of_ble_eq_true rfl⟩) [9, 10] rfl 4 rfl rfl rfl rfl (Nat.le_of_ble_eq_true rfl) dX5_digest_215 ?_
        refine lv_i2l (v := (Int32.toInt64 (f_X4_codeAt ln tx x3_198))) hx hb dX5_digest_218 rfl ?_
        refine vm_roSlx (v := (f_X5_mix x1_198 (Int32.toInt64 (f_X4_codeAt ln tx x3_198)))) (As := [.long x1_198, .long (Int32.toInt64 (f_X4_codeAt ln tx x3_198))]) (rest := []) ⟨hx, hb, hml, hown, hts⟩ hK hN hP hl.1 ⟨Nat.le_of_ble_eq_true rfl, Nat.le_of_ble_eq_true rfl⟩ (c_X5_mix l dC dI cI cB x1_198 (Int32.toInt64 (f_X4_codeAt ln tx x3_198))) (va_cwS 2 hts gX5_digest_X5_mix rfl rfl rfl yd_X5_mix ⟨Nat.le_of_ble_eq_true rfl, Nat.le_of_ble_eq_true rfl⟩) rfl rfl (Nat.le_of_ble_eq_true rfl) dX5_digest_219 ?_
        refine lv_lstore_n (lv' := [(1, .long (f_X5_mix x1_198 (Int32.toInt64 (f_X4_codeAt ln tx x3_198)))), (0, .ref (q 0)), (3, .int x3_198)]) hx hb dX5_digest_222 rfl hl (by decide) rfl (fun ls hl => ?_)
        refine lv_iinc (v := (x3_198 + 1)) (lv' := [(3, .int (x3_198 + 1)), (1, .long (f_X5_mix x1_198 (Int32.toInt64 (f_X4_codeAt ln tx x3_198)))), (0, .ref (q 0))]) hx hb dX5_digest_223 hl (k := 2) rfl rfl (by decide) rfl (fun ls hl => ?_)
        refine lv_goto (tgt := 198) hx hb dX5_digest_226 (by decide) ?_
        exact ih198 (f_X5_mix x1_198 (Int32.toInt64 (f_X4_codeAt ln tx x3_198))) (x3_198 + 1) (vm_up (vm_nle cL198) hm198) (vm_nn hi198 (vm_nle cL198)) (eF.trans (by rw [f_X5_digest_n_j198, if_neg cL198])) eO ls (lv_sub hl [2, 1, 0] rfl)
  have hJ140 : ∀ (n140 : Nat) (x1_140 : Int64) (x3_140 : Int32), (((8 : Int32)).toInt - (x3_140).toInt).toNat < n140 → 0 ≤ x3_140 → rr = f_X5_digest_n_j140 rm fm rq fr ap ln tx n140 x1_140 x3_140 → o_X5_digest_n_j140 rm fm rq fr ap ln tx n140 x1_140 x3_140 → ∀ (ls : Array Slot), lv_has ls 5 [(0, .ref (q 0)), (1, .long x1_140), (3, .int x3_140)] → W p l e (headSpec wsX5_digest ({ frames := 6, cells := 0, slots := 0, locals := 136 })).room s m ([.ref (q 0)] : List Value).toArray below meth c s.heap [] 0 0 (MQ below (vp_Sl (fun r9 : Int64 => r9 = rr)) ([.ref (q 0)] : List Value).toArray s 0 0 (fun _ => False)) (F0 m 140 ls []) := by
    intro n140
    induction n140 with
    | zero =>
      intro x1_140 x3_140 hm140
      exact absurd hm140 (Nat.not_lt_zero _)
    | succ n140 ih140 =>
      intro x1_140 x3_140 hm140 hi140 eF eO ls hl
      rw [o_X5_digest_n_j140] at eO
      have hJ149 : ∀ (n149 : Nat) (x1_149 : Int64) (x4_149 : Int32), (((4 : Int32)).toInt - (x4_149).toInt).toNat < n149 → 0 ≤ x4_149 → ¬ 8 ≤ x3_140 → rr = f_X5_digest_n_j149 rm fm rq fr ap x3_140 (f_X5_digest_n_j140 rm fm rq fr ap ln tx n140) n149 x1_149 x4_149 → o_X5_digest_n_j149 rm fm rq fr ap x3_140 (o_X5_digest_n_j140 rm fm rq fr ap ln tx n140) n149 x1_149 x4_149 → ∀ (ls : Array Slot), lv_has ls 5 [(0, .ref (q 0)), (1, .long x1_149), (3, .int x3_140), (4, .int x4_149)] → W p l e (headSpec wsX5_digest ({ frames := 6, cells := 0, slots := 0, locals := 136 })).room s m ([.ref (q 0)] : List Value).toArray below meth c s.heap [] 0 0 (MQ below (vp_Sl (fun r9 : Int64 => r9 = rr)) ([.ref (q 0)] : List Value).toArray s 0 0 (fun _ => False)) (F0 m 149 ls []) := by
        intro n149
        induction n149 with
        | zero =>
          intro x1_149 x4_149 hm149
          exact absurd hm149 (Nat.not_lt_zero _)
        | succ n149 ih149 =>
          intro x1_149 x4_149 hm149 hi149 cL140 eF eO ls hl
          rw [o_X5_digest_n_j149] at eO
          refine lv_iload hx hb dX5_digest_149 (lv_at hl 3 rfl) ?_
          refine lv_iconst (v := 4) hx hb dX5_digest_151 (by decide) ?_
          refine lv_icmp_ge (tgt := 177) hx hb dX5_digest_152 (by decide) (fun cL149 => ?_) (fun cL149 => ?_)
          · rw [if_pos cL149] at eO
            refine lv_iinc (v := (x3_140 + 1)) (lv' := [(3, .int (x3_140 + 1)), (0, .ref (q 0)), (1, .long x1_149), (4, .int x4_149)]) hx hb dX5_digest_177 hl (k := 2) rfl rfl (by decide) rfl (fun ls hl => ?_)
            refine lv_goto (tgt := 140) hx hb dX5_digest_180 (by decide) ?_
            exact ih140 x1_149 (x3_140 + 1) (vm_up (vm_nle cL140) hm140) (vm_nn hi140 (vm_nle cL140)) (eF.trans (by rw [f_X5_digest_n_j149, if_pos cL149])) eO ls (lv_sub hl [1, 2, 0] rfl)
          · rw [if_neg cL149] at eO
            refine lv_lload_n hx hb dX5_digest_155 rfl (lv_at hl 1 rfl) ?_
            refine lv_aload_n hx hb dX5_digest_156 rfl (lv_at hl 0 rfl) ?_
            refine va_get (D := (dC, dI)) (ci := 5) (v := .ref (q 1)) (C := RX5) (T := TX5) (N := 3) hx hb hts iwsX50 hown hK hP 0 rfl rfl 0 (by decide) kw2 (fun _ h9 => h9) rfl dX5_digest_157 ?_
            refine lv_iload_n hx hb dX5_digest_160 rfl (lv_at hl 2 rfl) ?_
            refine lv_iload hx hb dX5_digest_161 (lv_at hl 3 rfl) ?_
            refine vm_roVx (v := (f_X0_personNumber rm fm rq fr ap x3_140 x4_149)) (As := [.int x3_140, .int x4_149]) (rest := [.long x1_149]) (T := TX0) (N := 12) (wc := [((q 1), .inr (0, [.ref (q 2), .ref (q 5), .ref (q 7), .int day, .int grace, .int longest, .int spent, .int spentIn, .int spendings, .int urgentSp, .int dropped, .int lapsedLate])), ((q 2), .inr (2, [.ref (q 3)])), ((q 3), .inr (3, [.ref (q 4), .int 12, .int 8, .int rm])), ((q 4), .inl (cI, 96, .inl fm)), ((q 5), .inr (3, [.ref (q 6), .int 6, .int 6, .int rq])), ((q 6), .inl (cI, 36, .inl fr)), ((q 7), .inl (cI, 8, .inl ap))]) ⟨hx, hb, hml, hown, hts⟩ hK hN hP hl.1 ⟨Nat.le_of_ble_eq_true rfl, Nat.le_of_ble_eq_true rfl⟩ (c_X0_personNumber l dC dI cI cB (q 1) (q 2) (q 3) (q 4) (q 5) (q 6) (q 7) rm fm rq fr ap day grace longest spent spentIn spendings urgentSp dropped lapsedLate x3_140 x4_149) (cwV 2 hts gX5_digest_X0_personNumber rfl rfl rfl yd_X0_personNumber ⟨Nat.le_of_ble_eq_true rfl, Nat.le_of_ble_eq_true rfl⟩) [1, 2, 3, 4, 5, 6, 7] rfl 0 rfl rfl rfl rfl (Nat.le_of_ble_eq_true rfl) dX5_digest_163 ?_
            refine lv_i2l (v := (Int32.toInt64 (f_X0_personNumber rm fm rq fr ap x3_140 x4_149))) hx hb dX5_digest_166 rfl ?_
            refine vm_roSlx (v := (f_X5_mix x1_149 (Int32.toInt64 (f_X0_personNumber rm fm rq fr ap x3_140 x4_149)))) (As := [.long x1_149, .long (Int32.toInt64 (f_X0_personNumber rm fm rq fr ap x3_140 x4_149))]) (rest := []) ⟨hx, hb, hml, hown, hts⟩ hK hN hP hl.1 ⟨Nat.le_of_ble_eq_true rfl, Nat.le_of_ble_eq_true rfl⟩ (c_X5_mix l dC dI cI cB x1_149 (Int32.toInt64 (f_X0_personNumber rm fm rq fr ap x3_140 x4_149))) (va_cwS 2 hts gX5_digest_X5_mix rfl rfl rfl yd_X5_mix ⟨Nat.le_of_ble_eq_true rfl, Nat.le_of_ble_eq_true rfl⟩) rfl rfl (Nat.le_of_ble_eq_true rfl) dX5_digest_167 ?_
            refine lv_lstore_n (lv' := [(1, .long (f_X5_mix x1_149 (Int32.toInt64 (f_X0_personNumber rm fm rq fr ap x3_140 x4_149)))), (0, .ref (q 0)), (3, .int x3_140), (4, .int x4_149)]) hx hb dX5_digest_170 rfl hl (by decide) rfl (fun ls hl => ?_)
            refine lv_iinc (v := (x4_149 + 1)) (lv' := [(4, .int (x4_149 + 1)), (1, .long (f_X5_mix x1_149 (Int32.toInt64 (f_X0_personNumber rm fm rq fr ap x3_140 x4_149)))), (0, .ref (q 0)), (3, .int x3_140)]) hx hb dX5_digest_171 hl (k := 3) rfl rfl (by decide) rfl (fun ls hl => ?_)
            refine lv_goto (tgt := 149) hx hb dX5_digest_174 (by decide) ?_
            exact ih149 (f_X5_mix x1_149 (Int32.toInt64 (f_X0_personNumber rm fm rq fr ap x3_140 x4_149))) (x4_149 + 1) (vm_up (vm_nle cL149) hm149) (vm_nn hi149 (vm_nle cL149)) cL140 (eF.trans (by rw [f_X5_digest_n_j149, if_neg cL149])) eO ls (lv_sub hl [2, 1, 3, 0] rfl)
      refine lv_iload_n hx hb dX5_digest_140 rfl (lv_at hl 2 rfl) ?_
      refine lv_bipush (v := 8) hx hb dX5_digest_141 (by decide) ?_
      refine lv_icmp_ge (tgt := 183) hx hb dX5_digest_143 (by decide) (fun cL140 => ?_) (fun cL140 => ?_)
      · rw [if_pos cL140] at eO
        refine lv_lload_n hx hb dX5_digest_183 rfl (lv_at hl 1 rfl) ?_
        refine lv_aload_n hx hb dX5_digest_184 rfl (lv_at hl 0 rfl) ?_
        refine va_get (D := (dC, dI)) (ci := 5) (v := .ref (q 10)) (C := RX5) (T := TX5) (N := 3) hx hb hts iwsX50 hown hK hP 0 rfl rfl 2 (by decide) kw3 (fun _ h9 => h9) rfl dX5_digest_185 ?_
        refine va_getN (D := (dC, dI)) (ci := 4) (v := .int ln) (C := RX4) (T := TX4) (N := 2) hx hb hts iwsX40 hown hK hP 9 rfl rfl 1 (by decide) (va_Nw.use rfl hN.2.2.2.2.2.2.2.2.2.2.2.2.2.2) (fun _ h9 => h9) rfl dX5_digest_188 ?_
        refine lv_i2l (v := (Int32.toInt64 ln)) hx hb dX5_digest_191 rfl ?_
        refine vm_roSlx (v := (f_X5_mix x1_140 (Int32.toInt64 ln))) (As := [.long x1_140, .long (Int32.toInt64 ln)]) (rest := []) ⟨hx, hb, hml, hown, hts⟩ hK hN hP hl.1 ⟨Nat.le_of_ble_eq_true rfl, Nat.le_of_ble_eq_true rfl⟩ (c_X5_mix l dC dI cI cB x1_140 (Int32.toInt64 ln)) (va_cwS 2 hts gX5_digest_X5_mix rfl rfl rfl yd_X5_mix ⟨Nat.le_of_ble_eq_true rfl, Nat.le_of_ble_eq_true rfl⟩) rfl rfl (Nat.le_of_ble_eq_true rfl) dX5_digest_192 ?_
        refine lv_lstore_n (lv' := [(1, .long (f_X5_mix x1_140 (Int32.toInt64 ln))), (0, .ref (q 0)), (3, .int x3_140)]) hx hb dX5_digest_195 rfl hl (by decide) rfl (fun ls hl => ?_)
        refine lv_iconst (v := 0) hx hb dX5_digest_196 (by decide) ?_
        refine lv_istore_n (lv' := [(3, .int 0), (1, .long (f_X5_mix x1_140 (Int32.toInt64 ln))), (0, .ref (q 0))]) hx hb dX5_digest_197 rfl hl (by decide) rfl (fun ls hl => ?_)
        exact hJ198 (((ln).toInt - ((0 : Int32)).toInt).toNat + 1) (f_X5_mix x1_140 (Int32.toInt64 ln)) 0 (Nat.lt_succ_self _) (by decide) (eF.trans (by rw [f_X5_digest_n_j140, if_pos cL140])) eO ls (lv_sub hl [2, 1, 0] rfl)
      · rw [if_neg cL140] at eO
        refine lv_iconst (v := 0) hx hb dX5_digest_146 (by decide) ?_
        refine lv_istore (lv' := [(4, .int 0), (0, .ref (q 0)), (1, .long x1_140), (3, .int x3_140)]) hx hb dX5_digest_147 hl (by decide) rfl (fun ls hl => ?_)
        exact hJ149 ((((4 : Int32)).toInt - ((0 : Int32)).toInt).toNat + 1) x1_140 0 (Nat.lt_succ_self _) (by decide) cL140 (eF.trans (by rw [f_X5_digest_n_j140, if_neg cL140])) eO ls (lv_sub hl [1, 2, 3, 0] rfl)
  have hJ86 : ∀ (n86 : Nat) (x1_86 : Int64) (x3_86 : Int32), ((rq).toInt - (x3_86).toInt).toNat < n86 → 0 ≤ x3_86 → rr = f_X5_digest_n_j86 rm fm rq fr ap ln tx n86 x1_86 x3_86 → o_X5_digest_n_j86 rm fm rq fr ap ln tx n86 x1_86 x3_86 → ∀ (ls : Array Slot), lv_has ls 5 [(0, .ref (q 0)), (1, .long x1_86), (3, .int x3_86)] → W p l e (headSpec wsX5_digest ({ frames := 6, cells := 0, slots := 0, locals := 136 })).room s m ([.ref (q 0)] : List Value).toArray below meth c s.heap [] 0 0 (MQ below (vp_Sl (fun r9 : Int64 => r9 = rr)) ([.ref (q 0)] : List Value).toArray s 0 0 (fun _ => False)) (F0 m 86 ls []) := by
    intro n86
    induction n86 with
    | zero =>
      intro x1_86 x3_86 hm86
      exact absurd hm86 (Nat.not_lt_zero _)
    | succ n86 ih86 =>
      intro x1_86 x3_86 hm86 hi86 eF eO ls hl
      rw [o_X5_digest_n_j86] at eO
      have hJ103 : ∀ (n103 : Nat) (x1_103 : Int64) (x4_103 : Int32), (((7 : Int32)).toInt - (x4_103).toInt).toNat < n103 → 0 ≤ x4_103 → ¬ rq ≤ x3_86 → rr = f_X5_digest_n_j103 rm fm rq fr x3_86 (f_X5_digest_n_j86 rm fm rq fr ap ln tx n86) n103 x1_103 x4_103 → o_X5_digest_n_j103 rm fm rq fr x3_86 (o_X5_digest_n_j86 rm fm rq fr ap ln tx n86) n103 x1_103 x4_103 → ∀ (ls : Array Slot), lv_has ls 5 [(0, .ref (q 0)), (1, .long x1_103), (3, .int x3_86), (4, .int x4_103)] → W p l e (headSpec wsX5_digest ({ frames := 6, cells := 0, slots := 0, locals := 136 })).room s m ([.ref (q 0)] : List Value).toArray below meth c s.heap [] 0 0 (MQ below (vp_Sl (fun r9 : Int64 => r9 = rr)) ([.ref (q 0)] : List Value).toArray s 0 0 (fun _ => False)) (F0 m 103 ls []) := by
        intro n103
        induction n103 with
        | zero =>
          intro x1_103 x4_103 hm103
          exact absurd hm103 (Nat.not_lt_zero _)
        | succ n103 ih103 =>
          intro x1_103 x4_103 hm103 hi103 cL86 eF eO ls hl
          rw [o_X5_digest_n_j103] at eO
          refine lv_iload hx hb dX5_digest_103 (lv_at hl 3 rfl) ?_
          refine lv_bipush (v := 7) hx hb dX5_digest_105 (by decide) ?_
          refine lv_icmp_ge (tgt := 132) hx hb dX5_digest_107 (by decide) (fun cL103 => ?_) (fun cL103 => ?_)
          · rw [if_pos cL103] at eO
            refine lv_iinc (v := (x3_86 + 1)) (lv' := [(3, .int (x3_86 + 1)), (0, .ref (q 0)), (1, .long x1_103), (4, .int x4_103)]) hx hb dX5_digest_132 hl (k := 2) rfl rfl (by decide) rfl (fun ls hl => ?_)
            refine lv_goto (tgt := 86) hx hb dX5_digest_135 (by decide) ?_
            exact ih86 x1_103 (x3_86 + 1) (vm_up (vm_nle cL86) hm86) (vm_nn hi86 (vm_nle cL86)) (eF.trans (by rw [f_X5_digest_n_j103, if_pos cL103])) eO ls (lv_sub hl [1, 2, 0] rfl)
          · rw [if_neg cL103] at eO
            refine lv_lload_n hx hb dX5_digest_110 rfl (lv_at hl 1 rfl) ?_
            refine lv_aload_n hx hb dX5_digest_111 rfl (lv_at hl 0 rfl) ?_
            refine va_get (D := (dC, dI)) (ci := 5) (v := .ref (q 1)) (C := RX5) (T := TX5) (N := 3) hx hb hts iwsX50 hown hK hP 0 rfl rfl 0 (by decide) kw2 (fun _ h9 => h9) rfl dX5_digest_112 ?_
            refine lv_iload_n hx hb dX5_digest_115 rfl (lv_at hl 2 rfl) ?_
            refine lv_iload hx hb dX5_digest_116 (lv_at hl 3 rfl) ?_
            refine vm_roVx (v := (f_X0_requestProperty rm fm rq fr x3_86 x4_103)) (As := [.int x3_86, .int x4_103]) (rest := [.long x1_103]) (T := TX0) (N := 12) (wc := [((q 1), .inr (0, [.ref (q 2), .ref (q 5), .ref (q 7), .int day, .int grace, .int longest, .int spent, .int spentIn, .int spendings, .int urgentSp, .int dropped, .int lapsedLate])), ((q 2), .inr (2, [.ref (q 3)])), ((q 3), .inr (3, [.ref (q 4), .int 12, .int 8, .int rm])), ((q 4), .inl (cI, 96, .inl fm)), ((q 5), .inr (3, [.ref (q 6), .int 6, .int 6, .int rq])), ((q 6), .inl (cI, 36, .inl fr)), ((q 7), .inl (cI, 8, .inl ap))]) ⟨hx, hb, hml, hown, hts⟩ hK hN hP hl.1 ⟨Nat.le_of_ble_eq_true rfl, Nat.le_of_ble_eq_true rfl⟩ (c_X0_requestProperty l dC dI cI cB (q 1) (q 2) (q 3) (q 4) (q 5) (q 6) (q 7) rm fm rq fr ap day grace longest spent spentIn spendings urgentSp dropped lapsedLate x3_86 x4_103) (cwV 2 hts gX5_digest_X0_requestProperty rfl rfl rfl yd_X0_requestProperty ⟨Nat.le_of_ble_eq_true rfl, Nat.le_of_ble_eq_true rfl⟩) [1, 2, 3, 4, 5, 6, 7] rfl 0 rfl rfl rfl rfl (Nat.le_of_ble_eq_true rfl) dX5_digest_118 ?_
            refine lv_i2l (v := (Int32.toInt64 (f_X0_requestProperty rm fm rq fr x3_86 x4_103))) hx hb dX5_digest_121 rfl ?_
            refine vm_roSlx (v := (f_X5_mix x1_103 (Int32.toInt64 (f_X0_requestProperty rm fm rq fr x3_86 x4_103)))) (As := [.long x1_103, .long (Int32.toInt64 (f_X0_requestProperty rm fm rq fr x3_86 x4_103))]) (rest := []) ⟨hx, hb, hml, hown, hts⟩ hK hN hP hl.1 ⟨Nat.le_of_ble_eq_true rfl, Nat.le_of_ble_eq_true rfl⟩ (c_X5_mix l dC dI cI cB x1_103 (Int32.toInt64 (f_X0_requestProperty rm fm rq fr x3_86 x4_103))) (va_cwS 2 hts gX5_digest_X5_mix rfl rfl rfl yd_X5_mix ⟨Nat.le_of_ble_eq_true rfl, Nat.le_of_ble_eq_true rfl⟩) rfl rfl (Nat.le_of_ble_eq_true rfl) dX5_digest_122 ?_
            refine lv_lstore_n (lv' := [(1, .long (f_X5_mix x1_103 (Int32.toInt64 (f_X0_requestProperty rm fm rq fr x3_86 x4_103)))), (0, .ref (q 0)), (3, .int x3_86), (4, .int x4_103)]) hx hb dX5_digest_125 rfl hl (by decide) rfl (fun ls hl => ?_)
            refine lv_iinc (v := (x4_103 + 1)) (lv' := [(4, .int (x4_103 + 1)), (1, .long (f_X5_mix x1_103 (Int32.toInt64 (f_X0_requestProperty rm fm rq fr x3_86 x4_103)))), (0, .ref (q 0)), (3, .int x3_86)]) hx hb dX5_digest_126 hl (k := 3) rfl rfl (by decide) rfl (fun ls hl => ?_)
            refine lv_goto (tgt := 103) hx hb dX5_digest_129 (by decide) ?_
            exact ih103 (f_X5_mix x1_103 (Int32.toInt64 (f_X0_requestProperty rm fm rq fr x3_86 x4_103))) (x4_103 + 1) (vm_up (vm_nle cL103) hm103) (vm_nn hi103 (vm_nle cL103)) cL86 (eF.trans (by rw [f_X5_digest_n_j103, if_neg cL103])) eO ls (lv_sub hl [2, 1, 3, 0] rfl)
      refine lv_iload_n hx hb dX5_digest_86 rfl (lv_at hl 2 rfl) ?_
      refine lv_aload_n hx hb dX5_digest_87 rfl (lv_at hl 0 rfl) ?_
      refine va_get (D := (dC, dI)) (ci := 5) (v := .ref (q 1)) (C := RX5) (T := TX5) (N := 3) hx hb hts iwsX50 hown hK hP 0 rfl rfl 0 (by decide) kw2 (fun _ h9 => h9) rfl dX5_digest_88 ?_
      refine va_getN (D := (dC, dI)) (ci := 0) (v := .ref (q 5)) (C := RX0) (T := TX0) (N := 12) hx hb hts iwsX00 hown hK hP 1 rfl rfl 1 (by decide) (va_Nw.use rfl hN.2.2.2.2.2.2.2.2.2.1) (fun _ h9 => h9) rfl dX5_digest_91 ?_
      refine va_getN (D := (dC, dI)) (ci := 3) (v := .int rq) (C := RX3) (T := TX3) (N := 4) hx hb hts iwsX30 hown hK hP 5 rfl rfl 3 (by decide) (va_Nw.use rfl hN.2.2.2.2.2.2.1) (fun _ h9 => h9) rfl dX5_digest_94 ?_
      refine lv_icmp_ge (tgt := 138) hx hb dX5_digest_97 (by decide) (fun cL86 => ?_) (fun cL86 => ?_)
      · rw [if_pos cL86] at eO
        refine lv_iconst (v := 0) hx hb dX5_digest_138 (by decide) ?_
        refine lv_istore_n (lv' := [(3, .int 0), (0, .ref (q 0)), (1, .long x1_86)]) hx hb dX5_digest_139 rfl hl (by decide) rfl (fun ls hl => ?_)
        exact hJ140 ((((8 : Int32)).toInt - ((0 : Int32)).toInt).toNat + 1) x1_86 0 (Nat.lt_succ_self _) (by decide) (eF.trans (by rw [f_X5_digest_n_j86, if_pos cL86])) eO ls (lv_sub hl [1, 2, 0] rfl)
      · rw [if_neg cL86] at eO
        refine lv_iconst (v := 0) hx hb dX5_digest_100 (by decide) ?_
        refine lv_istore (lv' := [(4, .int 0), (0, .ref (q 0)), (1, .long x1_86), (3, .int x3_86)]) hx hb dX5_digest_101 hl (by decide) rfl (fun ls hl => ?_)
        exact hJ103 ((((7 : Int32)).toInt - ((0 : Int32)).toInt).toNat + 1) x1_86 0 (Nat.lt_succ_self _) (by decide) cL86 (eF.trans (by rw [f_X5_digest_n_j86, if_neg cL86])) eO ls (lv_sub hl [1, 2, 3, 0] rfl)
  have hJ57 : ∀ (n57 : Nat) (x1_57 : Int64) (x3_57 : Int32), (((f_X2_total rm)).toInt - (x3_57).toInt).toNat < n57 → 0 ≤ x3_57 → rr = f_X5_digest_n_j57 rm fm rq fr ap day grace ln tx n57 x1_57 x3_57 → o_X5_digest_n_j57 rm fm rq fr ap day grace ln tx n57 x1_57 x3_57 → ∀ (ls : Array Slot), lv_has ls 5 [(0, .ref (q 0)), (1, .long x1_57), (3, .int x3_57)] → W p l e (headSpec wsX5_digest ({ frames := 6, cells := 0, slots := 0, locals := 136 })).room s m ([.ref (q 0)] : List Value).toArray below meth c s.heap [] 0 0 (MQ below (vp_Sl (fun r9 : Int64 => r9 = rr)) ([.ref (q 0)] : List Value).toArray s 0 0 (fun _ => False)) (F0 m 57 ls []) := by
    intro n57
    induction n57 with
    | zero =>
      intro x1_57 x3_57 hm57
      exact absurd hm57 (Nat.not_lt_zero _)
    | succ n57 ih57 =>
      intro x1_57 x3_57 hm57 hi57 eF eO ls hl
      rw [o_X5_digest_n_j57] at eO
      refine lv_iload_n hx hb dX5_digest_57 rfl (lv_at hl 2 rfl) ?_
      refine lv_aload_n hx hb dX5_digest_58 rfl (lv_at hl 0 rfl) ?_
      refine va_get (D := (dC, dI)) (ci := 5) (v := .ref (q 1)) (C := RX5) (T := TX5) (N := 3) hx hb hts iwsX50 hown hK hP 0 rfl rfl 0 (by decide) kw2 (fun _ h9 => h9) rfl dX5_digest_59 ?_
      refine va_getN (D := (dC, dI)) (ci := 0) (v := .ref (q 2)) (C := RX0) (T := TX0) (N := 12) hx hb hts iwsX00 hown hK hP 1 rfl rfl 0 (by decide) (va_Nw.use rfl hN.2.2.2.2.2.2.2.2.1) (fun _ h9 => h9) rfl dX5_digest_62 ?_
      refine vm_roVx (v := (f_X2_total rm)) (As := []) (rest := [.int x3_57]) (T := TX2) (N := 1) (wc := [((q 2), .inr (2, [.ref (q 3)])), ((q 3), .inr (3, [.ref (q 4), .int 12, .int 8, .int rm])), ((q 4), .inl (cI, 96, .inl fm))]) ⟨hx, hb, hml, hown, hts⟩ hK hN hP hl.1 ⟨Nat.le_of_ble_eq_true rfl, Nat.le_of_ble_eq_true rfl⟩ (c_X2_total l dC dI cI cB (q 2) (q 3) (q 4) rm fm) (cwV 0 hts gX5_digest_X2_total rfl rfl rfl yd_X2_total ⟨Nat.le_of_ble_eq_true rfl, Nat.le_of_ble_eq_true rfl⟩) [2, 3, 4] rfl 2 rfl rfl rfl rfl (Nat.le_of_ble_eq_true rfl) dX5_digest_65 ?_
      refine lv_icmp_ge (tgt := 84) hx hb dX5_digest_68 (by decide) (fun cL57 => ?_) (fun cL57 => ?_)
      · rw [if_pos cL57] at eO
        refine lv_iconst (v := 0) hx hb dX5_digest_84 (by decide) ?_
        refine lv_istore_n (lv' := [(3, .int 0), (0, .ref (q 0)), (1, .long x1_57)]) hx hb dX5_digest_85 rfl hl (by decide) rfl (fun ls hl => ?_)
        exact hJ86 (((rq).toInt - ((0 : Int32)).toInt).toNat + 1) x1_57 0 (Nat.lt_succ_self _) (by decide) (eF.trans (by rw [f_X5_digest_n_j57, if_pos cL57])) eO ls (lv_sub hl [1, 2, 0] rfl)
      · rw [if_neg cL57] at eO
        refine lv_aload_n hx hb dX5_digest_71 rfl (lv_at hl 0 rfl) ?_
        refine lv_lload_n hx hb dX5_digest_72 rfl (lv_at hl 1 rfl) ?_
        refine lv_iload_n hx hb dX5_digest_73 rfl (lv_at hl 2 rfl) ?_
        obtain ⟨hv_7, eO⟩ := eO
        refine vm_roVlx (v := (f_X5_mixMandate rm fm rq fr day grace x1_57 x3_57)) (As := [.long x1_57, .int x3_57]) (rest := []) (T := TX5) (N := 3) (wc := [((q 0), .inr (5, [.ref (q 1), .ref (q 8), .ref (q 10)])), ((q 1), .inr (0, [.ref (q 2), .ref (q 5), .ref (q 7), .int day, .int grace, .int longest, .int spent, .int spentIn, .int spendings, .int urgentSp, .int dropped, .int lapsedLate])), ((q 2), .inr (2, [.ref (q 3)])), ((q 3), .inr (3, [.ref (q 4), .int 12, .int 8, .int rm])), ((q 4), .inl (cI, 96, .inl fm)), ((q 5), .inr (3, [.ref (q 6), .int 6, .int 6, .int rq])), ((q 6), .inl (cI, 36, .inl fr)), ((q 7), .inl (cI, 8, .inl ap))]) ⟨hx, hb, hml, hown, hts⟩ hK hN hP hl.1 ⟨Nat.le_of_ble_eq_true rfl, Nat.le_of_ble_eq_true rfl⟩ (c_X5_mixMandate l dC dI cI cB q rm fm rq fr ap day grace longest spent spentIn spendings urgentSp dropped lapsedLate x1_57 x3_57 hv_7) (cwV 2 hts gX5_digest_X5_mixMandate rfl rfl rfl yd_X5_mixMandate ⟨Nat.le_of_ble_eq_true rfl, Nat.le_of_ble_eq_true rfl⟩) [0, 1, 2, 3, 4, 5, 6, 7] rfl 5 rfl rfl rfl rfl (Nat.le_of_ble_eq_true rfl) dX5_digest_74 ?_
        refine lv_lstore_n (lv' := [(1, .long (f_X5_mixMandate rm fm rq fr day grace x1_57 x3_57)), (0, .ref (q 0)), (3, .int x3_57)]) hx hb dX5_digest_77 rfl hl (by decide) rfl (fun ls hl => ?_)
        refine lv_iinc (v := (x3_57 + 1)) (lv' := [(3, .int (x3_57 + 1)), (1, .long (f_X5_mixMandate rm fm rq fr day grace x1_57 x3_57)), (0, .ref (q 0))]) hx hb dX5_digest_78 hl (k := 2) rfl rfl (by decide) rfl (fun ls hl => ?_)
        refine lv_goto (tgt := 57) hx hb dX5_digest_81 (by decide) ?_
        exact ih57 (f_X5_mixMandate rm fm rq fr day grace x1_57 x3_57) (x3_57 + 1) (vm_up (vm_nle cL57) hm57) (vm_nn hi57 (vm_nle cL57)) (eF.trans (by rw [f_X5_digest_n_j57, if_neg cL57])) eO ls (lv_sub hl [2, 1, 0] rfl)
  have hJ6 : ∀ (n6 : Nat) (x1_6 : Int64) (x3_6 : Int32), (((12 : Int32)).toInt - (x3_6).toInt).toNat < n6 → 0 ≤ x3_6 → rr = f_X5_digest_n_j6 rm fm rq fr ap day grace longest spent spentIn spendings urgentSp dropped lapsedLate kept ln tx n6 x1_6 x3_6 → o_X5_digest_n_j6 rm fm rq fr ap day grace longest spent spentIn spendings urgentSp dropped lapsedLate kept ln tx n6 x1_6 x3_6 → ∀ (ls : Array Slot), lv_has ls 5 [(0, .ref (q 0)), (1, .long x1_6), (3, .int x3_6)] → W p l e (headSpec wsX5_digest ({ frames := 6, cells := 0, slots := 0, locals := 136 })).room s m ([.ref (q 0)] : List Value).toArray below meth c s.heap [] 0 0 (MQ below (vp_Sl (fun r9 : Int64 => r9 = rr)) ([.ref (q 0)] : List Value).toArray s 0 0 (fun _ => False)) (F0 m 6 ls []) := by
    intro n6
    induction n6 with
    | zero =>
      intro x1_6 x3_6 hm6
      exact absurd hm6 (Nat.not_lt_zero _)
    | succ n6 ih6 =>
      intro x1_6 x3_6 hm6 hi6 eF eO ls hl
      rw [o_X5_digest_n_j6] at eO
      refine lv_iload_n hx hb dX5_digest_6 rfl (lv_at hl 2 rfl) ?_
      refine lv_bipush (v := 12) hx hb dX5_digest_7 (by decide) ?_
      refine lv_icmp_ge (tgt := 29) hx hb dX5_digest_9 (by decide) (fun cL6 => ?_) (fun cL6 => ?_)
      · rw [if_pos cL6] at eO
        refine lv_lload_n hx hb dX5_digest_29 rfl (lv_at hl 1 rfl) ?_
        refine lv_aload_n hx hb dX5_digest_30 rfl (lv_at hl 0 rfl) ?_
        refine va_get (D := (dC, dI)) (ci := 5) (v := .ref (q 1)) (C := RX5) (T := TX5) (N := 3) hx hb hts iwsX50 hown hK hP 0 rfl rfl 0 (by decide) kw2 (fun _ h9 => h9) rfl dX5_digest_31 ?_
        refine va_getN (D := (dC, dI)) (ci := 0) (v := .int grace) (C := RX0) (T := TX0) (N := 12) hx hb hts iwsX00 hown hK hP 1 rfl rfl 4 (by decide) (va_Nw.use rfl hN.2.2.2.2.2.2.2.2.2.2.2.1) (fun _ h9 => h9) rfl dX5_digest_34 ?_
        refine lv_i2l (v := (Int32.toInt64 grace)) hx hb dX5_digest_37 rfl ?_
        refine vm_roSlx (v := (f_X5_mix x1_6 (Int32.toInt64 grace))) (As := [.long x1_6, .long (Int32.toInt64 grace)]) (rest := []) ⟨hx, hb, hml, hown, hts⟩ hK hN hP hl.1 ⟨Nat.le_of_ble_eq_true rfl, Nat.le_of_ble_eq_true rfl⟩ (c_X5_mix l dC dI cI cB x1_6 (Int32.toInt64 grace)) (va_cwS 2 hts gX5_digest_X5_mix rfl rfl rfl yd_X5_mix ⟨Nat.le_of_ble_eq_true rfl, Nat.le_of_ble_eq_true rfl⟩) rfl rfl (Nat.le_of_ble_eq_true rfl) dX5_digest_38 ?_
        refine lv_lstore_n (lv' := [(1, .long (f_X5_mix x1_6 (Int32.toInt64 grace))), (0, .ref (q 0)), (3, .int x3_6)]) hx hb dX5_digest_41 rfl hl (by decide) rfl (fun ls hl => ?_)
        refine lv_lload_n hx hb dX5_digest_42 rfl (lv_at hl 0 rfl) ?_
        refine lv_aload_n hx hb dX5_digest_43 rfl (lv_at hl 1 rfl) ?_
        refine va_get (D := (dC, dI)) (ci := 5) (v := .ref (q 1)) (C := RX5) (T := TX5) (N := 3) hx hb hts iwsX50 hown hK hP 0 rfl rfl 0 (by decide) kw2 (fun _ h9 => h9) rfl dX5_digest_44 ?_
        refine va_getN (D := (dC, dI)) (ci := 0) (v := .int longest) (C := RX0) (T := TX0) (N := 12) hx hb hts iwsX00 hown hK hP 1 rfl rfl 5 (by decide) (va_Nw.use rfl hN.2.2.2.2.2.2.2.2.2.2.2.2.1) (fun _ h9 => h9) rfl dX5_digest_47 ?_
        refine lv_i2l (v := (Int32.toInt64 longest)) hx hb dX5_digest_50 rfl ?_
        refine vm_roSlx (v := (f_X5_mix (f_X5_mix x1_6 (Int32.toInt64 grace)) (Int32.toInt64 longest))) (As := [.long (f_X5_mix x1_6 (Int32.toInt64 grace)), .long (Int32.toInt64 longest)]) (rest := []) ⟨hx, hb, hml, hown, hts⟩ hK hN hP hl.1 ⟨Nat.le_of_ble_eq_true rfl, Nat.le_of_ble_eq_true rfl⟩ (c_X5_mix l dC dI cI cB (f_X5_mix x1_6 (Int32.toInt64 grace)) (Int32.toInt64 longest)) (va_cwS 2 hts gX5_digest_X5_mix rfl rfl rfl yd_X5_mix ⟨Nat.le_of_ble_eq_true rfl, Nat.le_of_ble_eq_true rfl⟩) rfl rfl (Nat.le_of_ble_eq_true rfl) dX5_digest_51 ?_
        refine lv_lstore_n (lv' := [(1, .long (f_X5_mix (f_X5_mix x1_6 (Int32.toInt64 grace)) (Int32.toInt64 longest))), (0, .ref (q 0)), (3, .int x3_6)]) hx hb dX5_digest_54 rfl hl (by decide) rfl (fun ls hl => ?_)
        refine lv_iconst (v := 0) hx hb dX5_digest_55 (by decide) ?_
        refine lv_istore_n (lv' := [(3, .int 0), (1, .long (f_X5_mix (f_X5_mix x1_6 (Int32.toInt64 grace)) (Int32.toInt64 longest))), (0, .ref (q 0))]) hx hb dX5_digest_56 rfl hl (by decide) rfl (fun ls hl => ?_)
        exact hJ57 ((((f_X2_total rm)).toInt - ((0 : Int32)).toInt).toNat + 1) (f_X5_mix (f_X5_mix x1_6 (Int32.toInt64 grace)) (Int32.toInt64 longest)) 0 (Nat.lt_succ_self _) (by decide) (eF.trans (by rw [f_X5_digest_n_j6, if_pos cL6])) eO ls (lv_sub hl [2, 1, 0] rfl)
      · rw [if_neg cL6] at eO
        refine lv_lload_n hx hb dX5_digest_12 rfl (lv_at hl 1 rfl) ?_
        refine lv_aload_n hx hb dX5_digest_13 rfl (lv_at hl 0 rfl) ?_
        refine lv_iload_n hx hb dX5_digest_14 rfl (lv_at hl 2 rfl) ?_
        obtain ⟨hv_9, eO⟩ := eO
        refine vm_roVx (v := (f_X5_count_n rm fm rq day spent spentIn spendings urgentSp dropped lapsedLate kept x3_6)) (As := [.int x3_6]) (rest := [.long x1_6]) (T := TX5) (N := 3) (wc := [((q 0), .inr (5, [.ref (q 1), .ref (q 8), .ref (q 10)])), ((q 1), .inr (0, [.ref (q 2), .ref (q 5), .ref (q 7), .int day, .int grace, .int longest, .int spent, .int spentIn, .int spendings, .int urgentSp, .int dropped, .int lapsedLate])), ((q 2), .inr (2, [.ref (q 3)])), ((q 3), .inr (3, [.ref (q 4), .int 12, .int 8, .int rm])), ((q 4), .inl (cI, 96, .inl fm)), ((q 5), .inr (3, [.ref (q 6), .int 6, .int 6, .int rq])), ((q 6), .inl (cI, 36, .inl fr)), ((q 7), .inl (cI, 8, .inl ap)), ((q 8), .inr (1, [.ref (q 9), .int oldest, .int kept]))]) ⟨hx, hb, hml, hown, hts⟩ hK hN hP hl.1 ⟨Nat.le_of_ble_eq_true rfl, Nat.le_of_ble_eq_true rfl⟩ (c_X5_count_n l dC dI cI cB q rm fm rq fr ap day grace longest spent spentIn spendings urgentSp dropped lapsedLate oldest kept x3_6 hv_9) (cwV 1 hts gX5_digest_X5_count rfl rfl rfl yd_X5_count ⟨Nat.le_of_ble_eq_true rfl, Nat.le_of_ble_eq_true rfl⟩) [0, 1, 2, 3, 4, 5, 6, 7, 8] rfl 5 rfl rfl rfl rfl (Nat.le_of_ble_eq_true rfl) dX5_digest_15 ?_
        refine lv_i2l (v := (Int32.toInt64 (f_X5_count_n rm fm rq day spent spentIn spendings urgentSp dropped lapsedLate kept x3_6))) hx hb dX5_digest_18 rfl ?_
        refine vm_roSlx (v := (f_X5_mix x1_6 (Int32.toInt64 (f_X5_count_n rm fm rq day spent spentIn spendings urgentSp dropped lapsedLate kept x3_6)))) (As := [.long x1_6, .long (Int32.toInt64 (f_X5_count_n rm fm rq day spent spentIn spendings urgentSp dropped lapsedLate kept x3_6))]) (rest := []) ⟨hx, hb, hml, hown, hts⟩ hK hN hP hl.1 ⟨Nat.le_of_ble_eq_true rfl, Nat.le_of_ble_eq_true rfl⟩ (c_X5_mix l dC dI cI cB x1_6 (Int32.toInt64 (f_X5_count_n rm fm rq day spent spentIn spendings urgentSp dropped lapsedLate kept x3_6))) (va_cwS 2 hts gX5_digest_X5_mix rfl rfl rfl yd_X5_mix ⟨Nat.le_of_ble_eq_true rfl, Nat.le_of_ble_eq_true rfl⟩) rfl rfl (Nat.le_of_ble_eq_true rfl) dX5_digest_19 ?_
        refine lv_lstore_n (lv' := [(1, .long (f_X5_mix x1_6 (Int32.toInt64 (f_X5_count_n rm fm rq day spent spentIn spendings urgentSp dropped lapsedLate kept x3_6)))), (0, .ref (q 0)), (3, .int x3_6)]) hx hb dX5_digest_22 rfl hl (by decide) rfl (fun ls hl => ?_)
        refine lv_iinc (v := (x3_6 + 1)) (lv' := [(3, .int (x3_6 + 1)), (1, .long (f_X5_mix x1_6 (Int32.toInt64 (f_X5_count_n rm fm rq day spent spentIn spendings urgentSp dropped lapsedLate kept x3_6)))), (0, .ref (q 0))]) hx hb dX5_digest_23 hl (k := 2) rfl rfl (by decide) rfl (fun ls hl => ?_)
        refine lv_goto (tgt := 6) hx hb dX5_digest_26 (by decide) ?_
        exact ih6 (f_X5_mix x1_6 (Int32.toInt64 (f_X5_count_n rm fm rq day spent spentIn spendings urgentSp dropped lapsedLate kept x3_6))) (x3_6 + 1) (vm_up (vm_nle cL6) hm6) (vm_nn hi6 (vm_nle cL6)) (eF.trans (by rw [f_X5_digest_n_j6, if_neg cL6])) eO ls (lv_sub hl [2, 1, 0] rfl)
  rw [o_X5_digest_n] at eO
  refine lv_ldc2 (v := 2543) hx hb hown kw1 dX5_digest_0 ?_
  refine lv_lstore_n (lv' := [(1, .long 2543), (0, .ref (q 0))]) hx hb dX5_digest_3 rfl hl (by decide) rfl (fun ls hl => ?_)
  refine lv_iconst (v := 0) hx hb dX5_digest_4 (by decide) ?_
  refine lv_istore_n (lv' := [(3, .int 0), (1, .long 2543), (0, .ref (q 0))]) hx hb dX5_digest_5 rfl hl (by decide) rfl (fun ls hl => ?_)
  exact hJ6 ((((12 : Int32)).toInt - ((0 : Int32)).toInt).toNat + 1) 2543 0 (Nat.lt_succ_self _) (by decide) (eF.trans (by rw [f_X5_digest_n])) eO ls (lv_sub hl [2, 1, 0] rfl)
