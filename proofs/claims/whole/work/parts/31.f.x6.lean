def f_X6_digest_c30 (x1_14 : Int32) (kj14 : Int32 → Int64 → (Int64 × Int64 × Int32)) (hash_c30 : Int64) : Int64 × Int64 × Int32 :=
  kj14 (x1_14 + 1) hash_c30
def f_X6_digest_c75 (x1_60 : Int32) (kj60 : Int32 → Int64 → (Int64 × Int64 × Int32)) (hash_c75 : Int64) : Int64 × Int64 × Int32 :=
  kj60 (x1_60 + 1) hash_c75
def f_X6_digest_c113 (x1_83 : Int32) (kj83 : Int32 → Int64 → (Int64 × Int64 × Int32)) (hash_c113 : Int64) : Int64 × Int64 × Int32 :=
  kj83 (x1_83 + 1) hash_c113
def f_X6_digest_c142 (x1_121 : Int32) (kj121 : Int32 → Int64 → (Int64 × Int64 × Int32)) (hash_c142 : Int64) : Int64 × Int64 × Int32 :=
  kj121 (x1_121 + 1) hash_c142
def f_X6_digest_c178 (x1_159 : Int32) (kj159 : Int32 → Int64 → (Int64 × Int64 × Int32)) (hash_c178 : Int64) : Int64 × Int64 × Int32 :=
  kj159 (x1_159 + 1) hash_c178
def f_X6_digest_j159 (ln : Int32) (tx : Nat → Int32) : Nat → Int32 → Int64 → Int64 × Int64 × Int32
  | 0, _, _ => (0, 0, 0)
  | n159 + 1, x1_159, hash_159 => if ln ≤ x1_159 then
      (hash_159, hash_159, 0)
    else
      f_X6_digest_c178 x1_159 (f_X6_digest_j159 ln tx n159) (f_X6_mix hash_159 (Int32.toInt64 (tx (Int32.toNatClampNeg x1_159))))
def f_X6_digest_c157 (ln : Int32) (tx : Nat → Int32) (hash_c157 : Int64) : Int64 × Int64 × Int32 :=
  f_X6_digest_j159 ln tx (((ln).toInt - ((0 : Int32)).toInt).toNat + 1) 0 hash_c157
def f_X6_digest_j121 (ln : Int32) (z : Nat → Int32) (tx : Nat → Int32) : Nat → Int32 → Int64 → Int64 × Int64 × Int32
  | 0, _, _ => (0, 0, 0)
  | n121 + 1, x1_121, hash_121 => if 32 ≤ x1_121 then
      f_X6_digest_c157 ln tx (f_X6_mix hash_121 (Int32.toInt64 ln))
    else
      f_X6_digest_c142 x1_121 (f_X6_digest_j121 ln z tx n121) (f_X6_mix hash_121 (Int32.toInt64 (f_X6_personNow z (x1_121 / 4) (x1_121 - x1_121 / 4 * 4))))
def f_X6_digest_j83 (ln : Int32) (z : Nat → Int32) (tx : Nat → Int32) : Nat → Int32 → Int64 → Int64 × Int64 × Int32
  | 0, _, _ => (0, 0, 0)
  | n83 + 1, x1_83, hash_83 => if (7 * (z (Int32.toNatClampNeg 4))) ≤ x1_83 then
      f_X6_digest_j121 ln z tx ((((32 : Int32)).toInt - ((0 : Int32)).toInt).toNat + 1) 0 hash_83
    else
      f_X6_digest_c113 x1_83 (f_X6_digest_j83 ln z tx n83) (f_X6_mix hash_83 (Int32.toInt64 (f_X6_requestNow z (x1_83 / 7) (x1_83 - x1_83 / 7 * 7))))
def f_X6_digest_j60 (ln : Int32) (z : Nat → Int32) (tx : Nat → Int32) : Nat → Int32 → Int64 → Int64 × Int64 × Int32
  | 0, _, _ => (0, 0, 0)
  | n60 + 1, x1_60, hash_60 => if (z (Int32.toNatClampNeg 3)) ≤ x1_60 then
      f_X6_digest_j83 ln z tx ((((7 * (z (Int32.toNatClampNeg 4)))).toInt - ((0 : Int32)).toInt).toNat + 1) 0 hash_60
    else
      f_X6_digest_c75 x1_60 (f_X6_digest_j60 ln z tx n60) (f_X6_mixMandate hash_60 z x1_60)
def f_X6_digest_c58 (ln : Int32) (z : Nat → Int32) (tx : Nat → Int32) (hash_c58 : Int64) : Int64 × Int64 × Int32 :=
  f_X6_digest_j60 ln z tx ((((z (Int32.toNatClampNeg 3))).toInt - ((0 : Int32)).toInt).toNat + 1) 0 hash_c58
def f_X6_digest_c47 (ln : Int32) (z : Nat → Int32) (tx : Nat → Int32) (hash_c47 : Int64) : Int64 × Int64 × Int32 :=
  f_X6_digest_c58 ln z tx (f_X6_mix hash_c47 (Int32.toInt64 (z (Int32.toNatClampNeg 1))))
def f_X6_digest_j14 (states : Int32) (ln : Int32) (z : Nat → Int32) (tx : Nat → Int32) : Nat → Int32 → Int64 → Int64 × Int64 × Int32
  | 0, _, _ => (0, 0, 0)
  | n14 + 1, x1_14, hash_14 => if 12 ≤ x1_14 then
      f_X6_digest_c47 ln z tx (f_X6_mix hash_14 (Int32.toInt64 (z (Int32.toNatClampNeg 0))))
    else
      f_X6_digest_c30 x1_14 (f_X6_digest_j14 states ln z tx n14) (f_X6_mix hash_14 (Int32.toInt64 (f_X6_counted states z x1_14)))
def f_X6_digest (states : Int32) (ln : Int32) (z : Nat → Int32) (tx : Nat → Int32) : Int64 × Int64 × Int32 :=
  f_X6_digest_j14 states ln z tx ((((12 : Int32)).toInt - ((0 : Int32)).toInt).toNat + 1) 0 2543
def o_X6_digest_c30 (x1_14 : Int32) (koj14 : Int32 → Int64 → Prop) (hash_c30 : Int64) : Prop :=
  koj14 (x1_14 + 1) hash_c30
def o_X6_digest_c75 (x1_60 : Int32) (koj60 : Int32 → Int64 → Prop) (hash_c75 : Int64) : Prop :=
  koj60 (x1_60 + 1) hash_c75
def o_X6_digest_c113 (x1_83 : Int32) (koj83 : Int32 → Int64 → Prop) (hash_c113 : Int64) : Prop :=
  koj83 (x1_83 + 1) hash_c113
def o_X6_digest_c142 (x1_121 : Int32) (koj121 : Int32 → Int64 → Prop) (hash_c142 : Int64) : Prop :=
  koj121 (x1_121 + 1) hash_c142
def o_X6_digest_c178 (x1_159 : Int32) (koj159 : Int32 → Int64 → Prop) (hash_c178 : Int64) : Prop :=
  koj159 (x1_159 + 1) hash_c178
def o_X6_digest_j159 (ln : Int32) (tx : Nat → Int32) : Nat → Int32 → Int64 → Prop
  | 0, _, _ => True
  | n159 + 1, x1_159, hash_159 => if ln ≤ x1_159 then
      True
    else
      vp_in x1_159 60 ∧
      (o_X6_digest_c178 x1_159 (o_X6_digest_j159 ln tx n159) (f_X6_mix hash_159 (Int32.toInt64 (tx (Int32.toNatClampNeg x1_159)))))
def o_X6_digest_c157 (ln : Int32) (tx : Nat → Int32) (hash_c157 : Int64) : Prop :=
  o_X6_digest_j159 ln tx (((ln).toInt - ((0 : Int32)).toInt).toNat + 1) 0 hash_c157
def o_X6_digest_j121 (ln : Int32) (z : Nat → Int32) (tx : Nat → Int32) : Nat → Int32 → Int64 → Prop
  | 0, _, _ => True
  | n121 + 1, x1_121, hash_121 => if 32 ≤ x1_121 then
      o_X6_digest_c157 ln tx (f_X6_mix hash_121 (Int32.toInt64 ln))
    else
      o_X6_personNow z (x1_121 / 4) (x1_121 - x1_121 / 4 * 4) ∧
      (o_X6_digest_c142 x1_121 (o_X6_digest_j121 ln z tx n121) (f_X6_mix hash_121 (Int32.toInt64 (f_X6_personNow z (x1_121 / 4) (x1_121 - x1_121 / 4 * 4)))))
def o_X6_digest_j83 (ln : Int32) (z : Nat → Int32) (tx : Nat → Int32) : Nat → Int32 → Int64 → Prop
  | 0, _, _ => True
  | n83 + 1, x1_83, hash_83 => if (7 * (z (Int32.toNatClampNeg 4))) ≤ x1_83 then
      o_X6_digest_j121 ln z tx ((((32 : Int32)).toInt - ((0 : Int32)).toInt).toNat + 1) 0 hash_83
    else
      o_X6_requestNow z (x1_83 / 7) (x1_83 - x1_83 / 7 * 7) ∧
      (o_X6_digest_c113 x1_83 (o_X6_digest_j83 ln z tx n83) (f_X6_mix hash_83 (Int32.toInt64 (f_X6_requestNow z (x1_83 / 7) (x1_83 - x1_83 / 7 * 7)))))
def o_X6_digest_j60 (ln : Int32) (z : Nat → Int32) (tx : Nat → Int32) : Nat → Int32 → Int64 → Prop
  | 0, _, _ => True
  | n60 + 1, x1_60, hash_60 => if (z (Int32.toNatClampNeg 3)) ≤ x1_60 then
      o_X6_digest_j83 ln z tx ((((7 * (z (Int32.toNatClampNeg 4)))).toInt - ((0 : Int32)).toInt).toNat + 1) 0 hash_60
    else
      o_X6_mixMandate hash_60 z x1_60 ∧
      (o_X6_digest_c75 x1_60 (o_X6_digest_j60 ln z tx n60) (f_X6_mixMandate hash_60 z x1_60))
def o_X6_digest_c58 (ln : Int32) (z : Nat → Int32) (tx : Nat → Int32) (hash_c58 : Int64) : Prop :=
  o_X6_digest_j60 ln z tx ((((z (Int32.toNatClampNeg 3))).toInt - ((0 : Int32)).toInt).toNat + 1) 0 hash_c58
def o_X6_digest_c47 (ln : Int32) (z : Nat → Int32) (tx : Nat → Int32) (hash_c47 : Int64) : Prop :=
  o_X6_digest_c58 ln z tx (f_X6_mix hash_c47 (Int32.toInt64 (z (Int32.toNatClampNeg 1))))
def o_X6_digest_j14 (states : Int32) (ln : Int32) (z : Nat → Int32) (tx : Nat → Int32) : Nat → Int32 → Int64 → Prop
  | 0, _, _ => True
  | n14 + 1, x1_14, hash_14 => if 12 ≤ x1_14 then
      o_X6_digest_c47 ln z tx (f_X6_mix hash_14 (Int32.toInt64 (z (Int32.toNatClampNeg 0))))
    else
      o_X6_counted states z x1_14 ∧
      (o_X6_digest_c30 x1_14 (o_X6_digest_j14 states ln z tx n14) (f_X6_mix hash_14 (Int32.toInt64 (f_X6_counted states z x1_14))))
def o_X6_digest (states : Int32) (ln : Int32) (z : Nat → Int32) (tx : Nat → Int32) : Prop :=
  o_X6_digest_j14 states ln z tx ((((12 : Int32)).toInt - ((0 : Int32)).toInt).toNat + 1) 0 2543
theorem yd_X6_digest : yX6_digest.cls = RX6 ∧ yX6_digest.cls ≠ "java/lang/invoke/MethodHandle" ∧ yX6_digest.cls ≠ "java/lang/invoke/VarHandle" ∧ (parseMethodDescriptor yX6_digest.desc).map (fun d => d.parameters.length) = some 0 := by decide +kernel
set_option maxHeartbeats 4000000 in
set_option maxRecDepth 100000 in
theorem c_X6_digest (l : Launch) (dC : Nat → ClassId) (dI : Nat → Nat → Nat) (cI cB : ClassId) (h0 h1 h2 h3 h4 : Nat) (sz : Nat) (states : Int32) (ln : Int32) (thr : Int32) (rd : Int32) (num : Int32) (due : Int32) (hash : Int64) (z : Nat → Int32) (hi : Nat → Int32) (tx : Nat → Int32) (pa : Nat → Int32) (eO : o_X6_digest states ln z tx) : Met l yX6_digest wsX6_digest ({ frames := 5, cells := 0, slots := 0, locals := 114 }) (vm_prw [.ref h0] (dC, dI) [(h0, .inr (6, [.ref h1, .int states, .ref h2, .int ln, .ref h3, .int thr, .ref h4, .int rd, .int num, .int due, .long hash])), (h1, .inl (cI, 163, .inl z)), (h2, .inl (cI, 978, .inl hi)), (h3, .inl (cI, 60, .inl tx)), (h4, .inl (cI, 42, .inl pa))] cI cB sz) (va_Ql (fun (r9 : Int64) (_ : Unit) => r9 = (f_X6_digest states ln z tx).1) (fun _ t => va_P (dC, dI) vwCl [(h0, .inr (6, [.ref h1, .int states, .ref h2, .int ln, .ref h3, .int ((f_X6_digest states ln z tx).2.2), .ref h4, .int rd, .int num, .int due, .long ((f_X6_digest states ln z tx).2.1)])), (h1, .inl (cI, 163, .inl z)), (h2, .inl (cI, 978, .inl hi)), (h3, .inl (cI, 60, .inl tx)), (h4, .inl (cI, 42, .inl pa))] t.heap) (va_A [(h0, .inr (6, [.ref h1, .int states, .ref h2, .int ln, .ref h3, .int thr, .ref h4, .int rd, .int num, .int due, .long hash])), (h1, .inl (cI, 163, .inl z)), (h2, .inl (cI, 978, .inl hi)), (h3, .inl (cI, 60, .inl tx)), (h4, .inl (cI, 42, .inl pa))] sz)) 0 0 (va_A [(h0, .inr (6, [.ref h1, .int states, .ref h2, .int ln, .ref h3, .int thr, .ref h4, .int rd, .int num, .int due, .long hash])), (h1, .inl (cI, 163, .inl z)), (h2, .inl (cI, 978, .inl hi)), (h3, .inl (cI, 60, .inl tx)), (h4, .inl (cI, 42, .inl pa))] sz) := by
  refine Met.ofW (cc := cX6_digest) (maxL := 2) (ret := (some .long)) (by decide) rfl ?_
  intro p e s m args below meth c s₁ B hml hv
  obtain ⟨rfl, hsz, hP, hK, hN, hD0⟩ := hv
  have hx := B.exec
  have hb := B.bytes
  have hr := B.returns
  have hts := atoms_spec (ws := wsX6_digest) B.pre
  have hown : s.vm.findClass RX6 = some m.cls := findClass_of_methodNamed B.named
  have hlocks := B.notSynchronized
  subst hsz
  have hD := hD0.self (sz := s.heap.size)
  generalize hAe : va_A [(h0, .inr (6, [.ref h1, .int states, .ref h2, .int ln, .ref h3, .int thr, .ref h4, .int rd, .int num, .int due, .long hash])), (h1, .inl (cI, 163, .inl z)), (h2, .inl (cI, 978, .inl hi)), (h3, .inl (cI, 60, .inl tx)), (h4, .inl (cI, 42, .inl pa))] s.heap.size = A at hD ⊢
  have hA : ∀ q : Nat, s.heap.size ≤ q → A q := fun q h => by rw [← hAe]; exact Or.inr h
  have hS : va_S A s.heap s.heap [] := va_S.rf
  have hP : va_P (dC, dI) vwCl [(h0, .inr (6, [.ref h1, .int states, .ref h2, .int ln, .ref h3, .int thr, .ref h4, .int rd, .int num, .int due, .long hash])), (h1, .inl (cI, 163, .inl z)), (h2, .inl (cI, 978, .inl hi)), (h3, .inl (cI, 60, .inl tx)), (h4, .inl (cI, 42, .inl pa))] s.heap := hP
  have kw1 := hts (.fieldLink RX6 22 "LapseMandatesModel" "thrown" "I") (List.mem_of_getElem? (i := 1) rfl)
  have kw2 := hts (.constantLong RX6 220 (2543)) (List.mem_of_getElem? (i := 2) rfl)
  have kw3 := hts (.fieldLink RX6 206 "LapseMandatesModel" "hash" "J") (List.mem_of_getElem? (i := 3) rfl)
  have kw4 := hts (.fieldLink RX6 7 "LapseMandatesModel" "z" "[I") (List.mem_of_getElem? (i := 4) rfl)
  have kw5 := hts (.fieldLink RX6 139 "LapseMandatesModel" "length" "I") (List.mem_of_getElem? (i := 5) rfl)
  have kw6 := hts (.fieldLink RX6 16 "LapseMandatesModel" "text" "[I") (List.mem_of_getElem? (i := 6) rfl)
  have iwsX60 : ∀ w ∈ wsX60, w ∈ wsX6_digest := fun w h => List.mem_cons_of_mem _ (List.mem_append_right _ h)
  generalize hrr : f_X6_digest states ln z tx = rr
  have eF := hrr.symm
  have hl := lv_entry ([.ref h0]) (n := 2) (Nat.le_of_ble_eq_true rfl)
  rw [lg_entry_eq]
  generalize (lg_sl ([.ref h0]) ++ List.replicate (2 - (lg_sl ([.ref h0])).length) Slot.unset).toArray = ls at hl ⊢
  have hl : lv_has ls 2 [(0, .ref h0)] := hl
  have hJ159 : ∀ (n159 : Nat) (x1_159 : Int32) (hash_159 : Int64), ((ln).toInt - (x1_159).toInt).toNat < n159 → 0 ≤ x1_159 → rr = f_X6_digest_j159 ln tx n159 x1_159 hash_159 → o_X6_digest_j159 ln tx n159 x1_159 hash_159 → ∀ (H : Heap) (locs : List Loc), va_P (dC, dI) vwCl [(h0, .inr (6, [.ref h1, .int states, .ref h2, .int ln, .ref h3, .int 0, .ref h4, .int rd, .int num, .int due, .long hash_159])), (h1, .inl (cI, 163, .inl z)), (h2, .inl (cI, 978, .inl hi)), (h3, .inl (cI, 60, .inl tx)), (h4, .inl (cI, 42, .inl pa))] H → va_D A [(h0, .inr (6, [.ref h1, .int states, .ref h2, .int ln, .ref h3, .int 0, .ref h4, .int rd, .int num, .int due, .long hash_159])), (h1, .inl (cI, 163, .inl z)), (h2, .inl (cI, 978, .inl hi)), (h3, .inl (cI, 60, .inl tx)), (h4, .inl (cI, 42, .inl pa))] → va_S A s.heap H locs → ∀ (ls : Array Slot), lv_has ls 2 [(0, .ref h0), (1, .int x1_159)] → W p l e (headSpec wsX6_digest ({ frames := 5, cells := 0, slots := 0, locals := 114 })).room s m ([.ref h0] : List Value).toArray below meth c H locs 0 0 (MQ below (va_Ql (fun (r9 : Int64) (_ : Unit) => r9 = rr.1) (fun _ t => va_P (dC, dI) vwCl [(h0, .inr (6, [.ref h1, .int states, .ref h2, .int ln, .ref h3, .int rr.2.2, .ref h4, .int rd, .int num, .int due, .long rr.2.1])), (h1, .inl (cI, 163, .inl z)), (h2, .inl (cI, 978, .inl hi)), (h3, .inl (cI, 60, .inl tx)), (h4, .inl (cI, 42, .inl pa))] t.heap) A) ([.ref h0] : List Value).toArray s 0 0 A) (F0 m 159 ls []) := by
    intro n159
    induction n159 with
    | zero =>
      intro x1_159 hash_159 hm159
      exact absurd hm159 (Nat.not_lt_zero _)
    | succ n159 ih159 =>
      intro x1_159 hash_159 hm159 hi159 eF eO H locs hP hD hS ls hl
      rw [o_X6_digest_j159] at eO
      refine lv_iload_n hx hb dX6_digest_159 rfl (lv_at hl 1 rfl) ?_
      refine lv_aload_n hx hb dX6_digest_160 rfl (lv_at hl 0 rfl) ?_
      refine va_get (D := (dC, dI)) (ci := 6) (v := .int ln) (C := RX6) (T := TX6) (N := 11) hx hb hts iwsX60 hown hK hP 0 rfl rfl 3 (by decide) kw5 (fun _ h9 => h9) rfl dX6_digest_161 ?_
      refine lv_icmp_ge (tgt := 184) hx hb dX6_digest_164 (by decide) (fun cL159 => ?_) (fun cL159 => ?_)
      · rw [if_pos cL159] at eO
        refine lv_aload_n hx hb dX6_digest_184 rfl (lv_at hl 0 rfl) ?_
        refine va_get (D := (dC, dI)) (ci := 6) (v := .long hash_159) (C := RX6) (T := TX6) (N := 11) hx hb hts iwsX60 hown hK hP 0 rfl rfl 10 (by decide) kw3 (fun _ h9 => h9) rfl dX6_digest_185 ?_
        have e9 : rr = ((hash_159, hash_159, 0) : Int64 × Int64 × Int32) := eF.trans (by rw [f_X6_digest_j159, if_pos cL159])
        exact W.lret (v := hash_159) hx hb hr (fun t ht hW => ⟨⟨_, (), rfl, by rw [e9], (by rw [e9]; show va_P _ _ _ t.heap; rw [ht]; exact hP)⟩, hS.F ht⟩) hS.2.2 dX6_digest_188
      · rw [if_neg cL159] at eO
        refine lv_aload_n hx hb dX6_digest_167 rfl (lv_at hl 0 rfl) ?_
        refine lv_aload_n hx hb dX6_digest_168 rfl (lv_at hl 0 rfl) ?_
        refine va_get (D := (dC, dI)) (ci := 6) (v := .ref h3) (C := RX6) (T := TX6) (N := 11) hx hb hts iwsX60 hown hK hP 0 rfl rfl 4 (by decide) kw6 (fun _ h9 => h9) rfl dX6_digest_169 ?_
        refine lv_iload_n hx hb dX6_digest_172 rfl (lv_at hl 1 rfl) ?_
        obtain ⟨hv_2, eO⟩ := eO
        refine va_iald hx hb hK hP 3 0 rfl rfl hv_2 dX6_digest_173 ?_
        refine lv_i2l (v := (Int32.toInt64 (tx (Int32.toNatClampNeg x1_159)))) hx hb dX6_digest_174 rfl ?_
        refine vm_rwVv (As := [.long (Int32.toInt64 (tx (Int32.toNatClampNeg x1_159)))]) (rest := []) (T := TX6) (N := 11) (wc := [(h0, .inr (6, [.ref h1, .int states, .ref h2, .int ln, .ref h3, .int 0, .ref h4, .int rd, .int num, .int due, .long hash_159])), (h1, .inl (cI, 163, .inl z)), (h2, .inl (cI, 978, .inl hi)), (h3, .inl (cI, 60, .inl tx)), (h4, .inl (cI, 42, .inl pa))]) (w1 := [(h0, .inr (6, [.ref h1, .int states, .ref h2, .int ln, .ref h3, .int 0, .ref h4, .int rd, .int num, .int due, .long (f_X6_mix hash_159 (Int32.toInt64 (tx (Int32.toNatClampNeg x1_159))))])), (h1, .inl (cI, 163, .inl z)), (h2, .inl (cI, 978, .inl hi)), (h3, .inl (cI, 60, .inl tx)), (h4, .inl (cI, 42, .inl pa))]) ⟨hx, hb, hml, hown, hts⟩ hK hN hP hD hS hA hl.1 ⟨Nat.le_of_ble_eq_true rfl, Nat.le_of_ble_eq_true rfl⟩ (c_X6_mix l dC dI cI cB h0 h1 h2 h3 h4 _ states ln 0 rd num due hash_159 z hi tx pa (Int32.toInt64 (tx (Int32.toNatClampNeg x1_159)))) (cwV 1 hts gX6_digest_X6_mix rfl rfl rfl yd_X6_mix ⟨Nat.le_of_ble_eq_true rfl, Nat.le_of_ble_eq_true rfl⟩) [0, 1, 2, 3, 4] rfl rfl rfl 6 rfl rfl rfl rfl (Nat.le_of_ble_eq_true rfl) dX6_digest_175 (fun H locs hP hD hS => ?_)
        have hP : va_P (dC, dI) vwCl [(h0, .inr (6, [.ref h1, .int states, .ref h2, .int ln, .ref h3, .int 0, .ref h4, .int rd, .int num, .int due, .long (f_X6_mix hash_159 (Int32.toInt64 (tx (Int32.toNatClampNeg x1_159))))])), (h1, .inl (cI, 163, .inl z)), (h2, .inl (cI, 978, .inl hi)), (h3, .inl (cI, 60, .inl tx)), (h4, .inl (cI, 42, .inl pa))] H := hP
        have hD : va_D A [(h0, .inr (6, [.ref h1, .int states, .ref h2, .int ln, .ref h3, .int 0, .ref h4, .int rd, .int num, .int due, .long (f_X6_mix hash_159 (Int32.toInt64 (tx (Int32.toNatClampNeg x1_159))))])), (h1, .inl (cI, 163, .inl z)), (h2, .inl (cI, 978, .inl hi)), (h3, .inl (cI, 60, .inl tx)), (h4, .inl (cI, 42, .inl pa))] := hD
        obtain ⟨hash_c178, ehash_c178⟩ : ∃ zz9, zz9 = (f_X6_mix hash_159 (Int32.toInt64 (tx (Int32.toNatClampNeg x1_159)))) := ⟨_, rfl⟩
        rw [← ehash_c178] at hP hD
        have eF : rr = f_X6_digest_c178 x1_159 (f_X6_digest_j159 ln tx n159) hash_c178 := eF.trans (by rw [f_X6_digest_j159, if_neg cL159, ehash_c178])
        have eO : o_X6_digest_c178 x1_159 (o_X6_digest_j159 ln tx n159) hash_c178 := by rw [ehash_c178]; exact eO
        rw [o_X6_digest_c178] at eO
        refine lv_iinc (v := (x1_159 + 1)) (lv' := [(1, .int (x1_159 + 1)), (0, .ref h0)]) hx hb dX6_digest_178 hl (k := 1) rfl rfl (by decide) rfl (fun ls hl => ?_)
        refine lv_goto (tgt := 159) hx hb dX6_digest_181 (by decide) ?_
        exact ih159 (x1_159 + 1) hash_c178 (vm_up (vm_nle cL159) hm159) (vm_nn hi159 (vm_nle cL159)) (eF.trans (by rw [f_X6_digest_c178])) eO _ _ hP hD hS ls (lv_sub hl [1, 0] rfl)
  have hJ121 : ∀ (n121 : Nat) (x1_121 : Int32) (hash_121 : Int64), (((32 : Int32)).toInt - (x1_121).toInt).toNat < n121 → 0 ≤ x1_121 → rr = f_X6_digest_j121 ln z tx n121 x1_121 hash_121 → o_X6_digest_j121 ln z tx n121 x1_121 hash_121 → ∀ (H : Heap) (locs : List Loc), va_P (dC, dI) vwCl [(h0, .inr (6, [.ref h1, .int states, .ref h2, .int ln, .ref h3, .int 0, .ref h4, .int rd, .int num, .int due, .long hash_121])), (h1, .inl (cI, 163, .inl z)), (h2, .inl (cI, 978, .inl hi)), (h3, .inl (cI, 60, .inl tx)), (h4, .inl (cI, 42, .inl pa))] H → va_D A [(h0, .inr (6, [.ref h1, .int states, .ref h2, .int ln, .ref h3, .int 0, .ref h4, .int rd, .int num, .int due, .long hash_121])), (h1, .inl (cI, 163, .inl z)), (h2, .inl (cI, 978, .inl hi)), (h3, .inl (cI, 60, .inl tx)), (h4, .inl (cI, 42, .inl pa))] → va_S A s.heap H locs → ∀ (ls : Array Slot), lv_has ls 2 [(0, .ref h0), (1, .int x1_121)] → W p l e (headSpec wsX6_digest ({ frames := 5, cells := 0, slots := 0, locals := 114 })).room s m ([.ref h0] : List Value).toArray below meth c H locs 0 0 (MQ below (va_Ql (fun (r9 : Int64) (_ : Unit) => r9 = rr.1) (fun _ t => va_P (dC, dI) vwCl [(h0, .inr (6, [.ref h1, .int states, .ref h2, .int ln, .ref h3, .int rr.2.2, .ref h4, .int rd, .int num, .int due, .long rr.2.1])), (h1, .inl (cI, 163, .inl z)), (h2, .inl (cI, 978, .inl hi)), (h3, .inl (cI, 60, .inl tx)), (h4, .inl (cI, 42, .inl pa))] t.heap) A) ([.ref h0] : List Value).toArray s 0 0 A) (F0 m 121 ls []) := by
    intro n121
    induction n121 with
    | zero =>
      intro x1_121 hash_121 hm121
      exact absurd hm121 (Nat.not_lt_zero _)
    | succ n121 ih121 =>
      intro x1_121 hash_121 hm121 hi121 eF eO H locs hP hD hS ls hl
      rw [o_X6_digest_j121] at eO
      refine lv_iload_n hx hb dX6_digest_121 rfl (lv_at hl 1 rfl) ?_
      refine lv_bipush (v := 32) hx hb dX6_digest_122 (by decide) ?_
      refine lv_icmp_ge (tgt := 148) hx hb dX6_digest_124 (by decide) (fun cL121 => ?_) (fun cL121 => ?_)
      · rw [if_pos cL121] at eO
        refine lv_aload_n hx hb dX6_digest_148 rfl (lv_at hl 0 rfl) ?_
        refine lv_aload_n hx hb dX6_digest_149 rfl (lv_at hl 0 rfl) ?_
        refine va_get (D := (dC, dI)) (ci := 6) (v := .int ln) (C := RX6) (T := TX6) (N := 11) hx hb hts iwsX60 hown hK hP 0 rfl rfl 3 (by decide) kw5 (fun _ h9 => h9) rfl dX6_digest_150 ?_
        refine lv_i2l (v := (Int32.toInt64 ln)) hx hb dX6_digest_153 rfl ?_
        refine vm_rwVv (As := [.long (Int32.toInt64 ln)]) (rest := []) (T := TX6) (N := 11) (wc := [(h0, .inr (6, [.ref h1, .int states, .ref h2, .int ln, .ref h3, .int 0, .ref h4, .int rd, .int num, .int due, .long hash_121])), (h1, .inl (cI, 163, .inl z)), (h2, .inl (cI, 978, .inl hi)), (h3, .inl (cI, 60, .inl tx)), (h4, .inl (cI, 42, .inl pa))]) (w1 := [(h0, .inr (6, [.ref h1, .int states, .ref h2, .int ln, .ref h3, .int 0, .ref h4, .int rd, .int num, .int due, .long (f_X6_mix hash_121 (Int32.toInt64 ln))])), (h1, .inl (cI, 163, .inl z)), (h2, .inl (cI, 978, .inl hi)), (h3, .inl (cI, 60, .inl tx)), (h4, .inl (cI, 42, .inl pa))]) ⟨hx, hb, hml, hown, hts⟩ hK hN hP hD hS hA hl.1 ⟨Nat.le_of_ble_eq_true rfl, Nat.le_of_ble_eq_true rfl⟩ (c_X6_mix l dC dI cI cB h0 h1 h2 h3 h4 _ states ln 0 rd num due hash_121 z hi tx pa (Int32.toInt64 ln)) (cwV 1 hts gX6_digest_X6_mix rfl rfl rfl yd_X6_mix ⟨Nat.le_of_ble_eq_true rfl, Nat.le_of_ble_eq_true rfl⟩) [0, 1, 2, 3, 4] rfl rfl rfl 6 rfl rfl rfl rfl (Nat.le_of_ble_eq_true rfl) dX6_digest_154 (fun H locs hP hD hS => ?_)
        have hP : va_P (dC, dI) vwCl [(h0, .inr (6, [.ref h1, .int states, .ref h2, .int ln, .ref h3, .int 0, .ref h4, .int rd, .int num, .int due, .long (f_X6_mix hash_121 (Int32.toInt64 ln))])), (h1, .inl (cI, 163, .inl z)), (h2, .inl (cI, 978, .inl hi)), (h3, .inl (cI, 60, .inl tx)), (h4, .inl (cI, 42, .inl pa))] H := hP
        have hD : va_D A [(h0, .inr (6, [.ref h1, .int states, .ref h2, .int ln, .ref h3, .int 0, .ref h4, .int rd, .int num, .int due, .long (f_X6_mix hash_121 (Int32.toInt64 ln))])), (h1, .inl (cI, 163, .inl z)), (h2, .inl (cI, 978, .inl hi)), (h3, .inl (cI, 60, .inl tx)), (h4, .inl (cI, 42, .inl pa))] := hD
        obtain ⟨hash_c157, ehash_c157⟩ : ∃ zz9, zz9 = (f_X6_mix hash_121 (Int32.toInt64 ln)) := ⟨_, rfl⟩
        rw [← ehash_c157] at hP hD
        have eF : rr = f_X6_digest_c157 ln tx hash_c157 := eF.trans (by rw [f_X6_digest_j121, if_pos cL121, ehash_c157])
        have eO : o_X6_digest_c157 ln tx hash_c157 := by rw [ehash_c157]; exact eO
        rw [o_X6_digest_c157] at eO
        refine lv_iconst (v := 0) hx hb dX6_digest_157 (by decide) ?_
        refine lv_istore_n (lv' := [(1, .int 0), (0, .ref h0)]) hx hb dX6_digest_158 rfl hl (by decide) rfl (fun ls hl => ?_)
        exact hJ159 (((ln).toInt - ((0 : Int32)).toInt).toNat + 1) 0 hash_c157 (Nat.lt_succ_self _) (by decide) (eF.trans (by rw [f_X6_digest_c157])) eO _ _ hP hD hS ls (lv_sub hl [1, 0] rfl)
      · rw [if_neg cL121] at eO
        refine lv_aload_n hx hb dX6_digest_127 rfl (lv_at hl 0 rfl) ?_
        refine lv_aload_n hx hb dX6_digest_128 rfl (lv_at hl 0 rfl) ?_
        refine lv_iload_n hx hb dX6_digest_129 rfl (lv_at hl 1 rfl) ?_
        refine lv_iconst (v := 4) hx hb dX6_digest_130 (by decide) ?_
        refine lv_idiv hx hb dX6_digest_131 (by decide) ?_
        refine lv_iload_n hx hb dX6_digest_132 rfl (lv_at hl 1 rfl) ?_
        refine lv_iconst (v := 4) hx hb dX6_digest_133 (by decide) ?_
        refine lv_irem hx hb dX6_digest_134 (by decide) ?_
        obtain ⟨hv_4, eO⟩ := eO
        refine vm_roVx (v := (f_X6_personNow z (x1_121 / 4) (x1_121 - x1_121 / 4 * 4))) (As := [.int (x1_121 / 4), .int (x1_121 - x1_121 / 4 * 4)]) (rest := [.ref h0]) (T := TX6) (N := 11) (wc := [(h0, .inr (6, [.ref h1, .int states, .ref h2, .int ln, .ref h3, .int 0, .ref h4, .int rd, .int num, .int due, .long hash_121])), (h1, .inl (cI, 163, .inl z)), (h2, .inl (cI, 978, .inl hi)), (h3, .inl (cI, 60, .inl tx)), (h4, .inl (cI, 42, .inl pa))]) ⟨hx, hb, hml, hown, hts⟩ hK hN hP hl.1 ⟨Nat.le_of_ble_eq_true rfl, Nat.le_of_ble_eq_true rfl⟩ (c_X6_personNow l dC dI cI cB h0 h1 h2 h3 h4 states ln 0 rd num due hash_121 z hi tx pa (x1_121 / 4) (x1_121 - x1_121 / 4 * 4) hv_4) (cwV 2 hts gX6_digest_X6_personNow rfl rfl rfl yd_X6_personNow ⟨Nat.le_of_ble_eq_true rfl, Nat.le_of_ble_eq_true rfl⟩) [0, 1, 2, 3, 4] rfl 6 rfl rfl rfl rfl (Nat.le_of_ble_eq_true rfl) dX6_digest_135 ?_
        refine lv_i2l (v := (Int32.toInt64 (f_X6_personNow z (x1_121 / 4) (x1_121 - x1_121 / 4 * 4)))) hx hb dX6_digest_138 rfl ?_
        refine vm_rwVv (As := [.long (Int32.toInt64 (f_X6_personNow z (x1_121 / 4) (x1_121 - x1_121 / 4 * 4)))]) (rest := []) (T := TX6) (N := 11) (wc := [(h0, .inr (6, [.ref h1, .int states, .ref h2, .int ln, .ref h3, .int 0, .ref h4, .int rd, .int num, .int due, .long hash_121])), (h1, .inl (cI, 163, .inl z)), (h2, .inl (cI, 978, .inl hi)), (h3, .inl (cI, 60, .inl tx)), (h4, .inl (cI, 42, .inl pa))]) (w1 := [(h0, .inr (6, [.ref h1, .int states, .ref h2, .int ln, .ref h3, .int 0, .ref h4, .int rd, .int num, .int due, .long (f_X6_mix hash_121 (Int32.toInt64 (f_X6_personNow z (x1_121 / 4) (x1_121 - x1_121 / 4 * 4))))])), (h1, .inl (cI, 163, .inl z)), (h2, .inl (cI, 978, .inl hi)), (h3, .inl (cI, 60, .inl tx)), (h4, .inl (cI, 42, .inl pa))]) ⟨hx, hb, hml, hown, hts⟩ hK hN hP hD hS hA hl.1 ⟨Nat.le_of_ble_eq_true rfl, Nat.le_of_ble_eq_true rfl⟩ (c_X6_mix l dC dI cI cB h0 h1 h2 h3 h4 _ states ln 0 rd num due hash_121 z hi tx pa (Int32.toInt64 (f_X6_personNow z (x1_121 / 4) (x1_121 - x1_121 / 4 * 4)))) (cwV 1 hts gX6_digest_X6_mix rfl rfl rfl yd_X6_mix ⟨Nat.le_of_ble_eq_true rfl, Nat.le_of_ble_eq_true rfl⟩) [0, 1, 2, 3, 4] rfl rfl rfl 6 rfl rfl rfl rfl (Nat.le_of_ble_eq_true rfl) dX6_digest_139 (fun H locs hP hD hS => ?_)
        have hP : va_P (dC, dI) vwCl [(h0, .inr (6, [.ref h1, .int states, .ref h2, .int ln, .ref h3, .int 0, .ref h4, .int rd, .int num, .int due, .long (f_X6_mix hash_121 (Int32.toInt64 (f_X6_personNow z (x1_121 / 4) (x1_121 - x1_121 / 4 * 4))))])), (h1, .inl (cI, 163, .inl z)), (h2, .inl (cI, 978, .inl hi)), (h3, .inl (cI, 60, .inl tx)), (h4, .inl (cI, 42, .inl pa))] H := hP
        have hD : va_D A [(h0, .inr (6, [.ref h1, .int states, .ref h2, .int ln, .ref h3, .int 0, .ref h4, .int rd, .int num, .int due, .long (f_X6_mix hash_121 (Int32.toInt64 (f_X6_personNow z (x1_121 / 4) (x1_121 - x1_121 / 4 * 4))))])), (h1, .inl (cI, 163, .inl z)), (h2, .inl (cI, 978, .inl hi)), (h3, .inl (cI, 60, .inl tx)), (h4, .inl (cI, 42, .inl pa))] := hD
        obtain ⟨hash_c142, ehash_c142⟩ : ∃ zz9, zz9 = (f_X6_mix hash_121 (Int32.toInt64 (f_X6_personNow z (x1_121 / 4) (x1_121 - x1_121 / 4 * 4)))) := ⟨_, rfl⟩
        rw [← ehash_c142] at hP hD
        have eF : rr = f_X6_digest_c142 x1_121 (f_X6_digest_j121 ln z tx n121) hash_c142 := eF.trans (by rw [f_X6_digest_j121, if_neg cL121, ehash_c142])
        have eO : o_X6_digest_c142 x1_121 (o_X6_digest_j121 ln z tx n121) hash_c142 := by rw [ehash_c142]; exact eO
        rw [o_X6_digest_c142] at eO
        refine lv_iinc (v := (x1_121 + 1)) (lv' := [(1, .int (x1_121 + 1)), (0, .ref h0)]) hx hb dX6_digest_142 hl (k := 1) rfl rfl (by decide) rfl (fun ls hl => ?_)
        refine lv_goto (tgt := 121) hx hb dX6_digest_145 (by decide) ?_
        exact ih121 (x1_121 + 1) hash_c142 (vm_up (vm_nle cL121) hm121) (vm_nn hi121 (vm_nle cL121)) (eF.trans (by rw [f_X6_digest_c142])) eO _ _ hP hD hS ls (lv_sub hl [1, 0] rfl)
  have hJ83 : ∀ (n83 : Nat) (x1_83 : Int32) (hash_83 : Int64), (((7 * (z (Int32.toNatClampNeg 4)))).toInt - (x1_83).toInt).toNat < n83 → 0 ≤ x1_83 → rr = f_X6_digest_j83 ln z tx n83 x1_83 hash_83 → o_X6_digest_j83 ln z tx n83 x1_83 hash_83 → ∀ (H : Heap) (locs : List Loc), va_P (dC, dI) vwCl [(h0, .inr (6, [.ref h1, .int states, .ref h2, .int ln, .ref h3, .int 0, .ref h4, .int rd, .int num, .int due, .long hash_83])), (h1, .inl (cI, 163, .inl z)), (h2, .inl (cI, 978, .inl hi)), (h3, .inl (cI, 60, .inl tx)), (h4, .inl (cI, 42, .inl pa))] H → va_D A [(h0, .inr (6, [.ref h1, .int states, .ref h2, .int ln, .ref h3, .int 0, .ref h4, .int rd, .int num, .int due, .long hash_83])), (h1, .inl (cI, 163, .inl z)), (h2, .inl (cI, 978, .inl hi)), (h3, .inl (cI, 60, .inl tx)), (h4, .inl (cI, 42, .inl pa))] → va_S A s.heap H locs → ∀ (ls : Array Slot), lv_has ls 2 [(0, .ref h0), (1, .int x1_83)] → W p l e (headSpec wsX6_digest ({ frames := 5, cells := 0, slots := 0, locals := 114 })).room s m ([.ref h0] : List Value).toArray below meth c H locs 0 0 (MQ below (va_Ql (fun (r9 : Int64) (_ : Unit) => r9 = rr.1) (fun _ t => va_P (dC, dI) vwCl [(h0, .inr (6, [.ref h1, .int states, .ref h2, .int ln, .ref h3, .int rr.2.2, .ref h4, .int rd, .int num, .int due, .long rr.2.1])), (h1, .inl (cI, 163, .inl z)), (h2, .inl (cI, 978, .inl hi)), (h3, .inl (cI, 60, .inl tx)), (h4, .inl (cI, 42, .inl pa))] t.heap) A) ([.ref h0] : List Value).toArray s 0 0 A) (F0 m 83 ls []) := by
    intro n83
    induction n83 with
    | zero =>
      intro x1_83 hash_83 hm83
      exact absurd hm83 (Nat.not_lt_zero _)
    | succ n83 ih83 =>
      intro x1_83 hash_83 hm83 hi83 eF eO H locs hP hD hS ls hl
      rw [o_X6_digest_j83] at eO
      refine lv_iload_n hx hb dX6_digest_83 rfl (lv_at hl 1 rfl) ?_
      refine lv_bipush (v := 7) hx hb dX6_digest_84 (by decide) ?_
      refine lv_aload_n hx hb dX6_digest_86 rfl (lv_at hl 0 rfl) ?_
      refine va_get (D := (dC, dI)) (ci := 6) (v := .ref h1) (C := RX6) (T := TX6) (N := 11) hx hb hts iwsX60 hown hK hP 0 rfl rfl 0 (by decide) kw4 (fun _ h9 => h9) rfl dX6_digest_87 ?_
      refine lv_iconst (v := 4) hx hb dX6_digest_90 (by decide) ?_
      refine va_iald hx hb hK hP 1 0 rfl rfl (by unfold vp_in; decide) dX6_digest_91 ?_
      refine lv_imul hx hb dX6_digest_92 ?_
      refine lv_icmp_ge (tgt := 119) hx hb dX6_digest_93 (by decide) (fun cL83 => ?_) (fun cL83 => ?_)
      · rw [if_pos cL83] at eO
        refine lv_iconst (v := 0) hx hb dX6_digest_119 (by decide) ?_
        refine lv_istore_n (lv' := [(1, .int 0), (0, .ref h0)]) hx hb dX6_digest_120 rfl hl (by decide) rfl (fun ls hl => ?_)
        exact hJ121 ((((32 : Int32)).toInt - ((0 : Int32)).toInt).toNat + 1) 0 hash_83 (Nat.lt_succ_self _) (by decide) (eF.trans (by rw [f_X6_digest_j83, if_pos cL83])) eO _ _ hP hD hS ls (lv_sub hl [1, 0] rfl)
      · rw [if_neg cL83] at eO
        refine lv_aload_n hx hb dX6_digest_96 rfl (lv_at hl 0 rfl) ?_
        refine lv_aload_n hx hb dX6_digest_97 rfl (lv_at hl 0 rfl) ?_
        refine lv_iload_n hx hb dX6_digest_98 rfl (lv_at hl 1 rfl) ?_
        refine lv_bipush (v := 7) hx hb dX6_digest_99 (by decide) ?_
        refine lv_idiv hx hb dX6_digest_101 (by decide) ?_
        refine lv_iload_n hx hb dX6_digest_102 rfl (lv_at hl 1 rfl) ?_
        refine lv_bipush (v := 7) hx hb dX6_digest_103 (by decide) ?_
        refine lv_irem hx hb dX6_digest_105 (by decide) ?_
        obtain ⟨hv_6, eO⟩ := eO
        refine vm_roVx (v := (f_X6_requestNow z (x1_83 / 7) (x1_83 - x1_83 / 7 * 7))) (As := [.int (x1_83 / 7), .int (x1_83 - x1_83 / 7 * 7)]) (rest := [.ref h0]) (T := TX6) (N := 11) (wc := [(h0, .inr (6, [.ref h1, .int states, .ref h2, .int ln, .ref h3, .int 0, .ref h4, .int rd, .int num, .int due, .long hash_83])), (h1, .inl (cI, 163, .inl z)), (h2, .inl (cI, 978, .inl hi)), (h3, .inl (cI, 60, .inl tx)), (h4, .inl (cI, 42, .inl pa))]) ⟨hx, hb, hml, hown, hts⟩ hK hN hP hl.1 ⟨Nat.le_of_ble_eq_true rfl, Nat.le_of_ble_eq_true rfl⟩ (c_X6_requestNow l dC dI cI cB h0 h1 h2 h3 h4 states ln 0 rd num due hash_83 z hi tx pa (x1_83 / 7) (x1_83 - x1_83 / 7 * 7) hv_6) (cwV 2 hts gX6_digest_X6_requestNow rfl rfl rfl yd_X6_requestNow ⟨Nat.le_of_ble_eq_true rfl, Nat.le_of_ble_eq_true rfl⟩) [0, 1, 2, 3, 4] rfl 6 rfl rfl rfl rfl (Nat.le_of_ble_eq_true rfl) dX6_digest_106 ?_
        refine lv_i2l (v := (Int32.toInt64 (f_X6_requestNow z (x1_83 / 7) (x1_83 - x1_83 / 7 * 7)))) hx hb dX6_digest_109 rfl ?_
        refine vm_rwVv (As := [.long (Int32.toInt64 (f_X6_requestNow z (x1_83 / 7) (x1_83 - x1_83 / 7 * 7)))]) (rest := []) (T := TX6) (N := 11) (wc := [(h0, .inr (6, [.ref h1, .int states, .ref h2, .int ln, .ref h3, .int 0, .ref h4, .int rd, .int num, .int due, .long hash_83])), (h1, .inl (cI, 163, .inl z)), (h2, .inl (cI, 978, .inl hi)), (h3, .inl (cI, 60, .inl tx)), (h4, .inl (cI, 42, .inl pa))]) (w1 := [(h0, .inr (6, [.ref h1, .int states, .ref h2, .int ln, .ref h3, .int 0, .ref h4, .int rd, .int num, .int due, .long (f_X6_mix hash_83 (Int32.toInt64 (f_X6_requestNow z (x1_83 / 7) (x1_83 - x1_83 / 7 * 7))))])), (h1, .inl (cI, 163, .inl z)), (h2, .inl (cI, 978, .inl hi)), (h3, .inl (cI, 60, .inl tx)), (h4, .inl (cI, 42, .inl pa))]) ⟨hx, hb, hml, hown, hts⟩ hK hN hP hD hS hA hl.1 ⟨Nat.le_of_ble_eq_true rfl, Nat.le_of_ble_eq_true rfl⟩ (c_X6_mix l dC dI cI cB h0 h1 h2 h3 h4 _ states ln 0 rd num due hash_83 z hi tx pa (Int32.toInt64 (f_X6_requestNow z (x1_83 / 7) (x1_83 - x1_83 / 7 * 7)))) (cwV 1 hts gX6_digest_X6_mix rfl rfl rfl yd_X6_mix ⟨Nat.le_of_ble_eq_true rfl, Nat.le_of_ble_eq_true rfl⟩) [0, 1, 2, 3, 4] rfl rfl rfl 6 rfl rfl rfl rfl (Nat.le_of_ble_eq_true rfl) dX6_digest_110 (fun H locs hP hD hS => ?_)
        have hP : va_P (dC, dI) vwCl [(h0, .inr (6, [.ref h1, .int states, .ref h2, .int ln, .ref h3, .int 0, .ref h4, .int rd, .int num, .int due, .long (f_X6_mix hash_83 (Int32.toInt64 (f_X6_requestNow z (x1_83 / 7) (x1_83 - x1_83 / 7 * 7))))])), (h1, .inl (cI, 163, .inl z)), (h2, .inl (cI, 978, .inl hi)), (h3, .inl (cI, 60, .inl tx)), (h4, .inl (cI, 42, .inl pa))] H := hP
        have hD : va_D A [(h0, .inr (6, [.ref h1, .int states, .ref h2, .int ln, .ref h3, .int 0, .ref h4, .int rd, .int num, .int due, .long (f_X6_mix hash_83 (Int32.toInt64 (f_X6_requestNow z (x1_83 / 7) (x1_83 - x1_83 / 7 * 7))))])), (h1, .inl (cI, 163, .inl z)), (h2, .inl (cI, 978, .inl hi)), (h3, .inl (cI, 60, .inl tx)), (h4, .inl (cI, 42, .inl pa))] := hD
        obtain ⟨hash_c113, ehash_c113⟩ : ∃ zz9, zz9 = (f_X6_mix hash_83 (Int32.toInt64 (f_X6_requestNow z (x1_83 / 7) (x1_83 - x1_83 / 7 * 7)))) := ⟨_, rfl⟩
        rw [← ehash_c113] at hP hD
        have eF : rr = f_X6_digest_c113 x1_83 (f_X6_digest_j83 ln z tx n83) hash_c113 := eF.trans (by rw [f_X6_digest_j83, if_neg cL83, ehash_c113])
        have eO : o_X6_digest_c113 x1_83 (o_X6_digest_j83 ln z tx n83) hash_c113 := by rw [ehash_c113]; exact eO
        rw [o_X6_digest_c113] at eO
        refine lv_iinc (v := (x1_83 + 1)) (lv' := [(1, .int (x1_83 + 1)), (0, .ref h0)]) hx hb dX6_digest_113 hl (k := 1) rfl rfl (by decide) rfl (fun ls hl => ?_)
        refine lv_goto (tgt := 83) hx hb dX6_digest_116 (by decide) ?_
        exact ih83 (x1_83 + 1) hash_c113 (vm_up (vm_nle cL83) hm83) (vm_nn hi83 (vm_nle cL83)) (eF.trans (by rw [f_X6_digest_c113])) eO _ _ hP hD hS ls (lv_sub hl [1, 0] rfl)
  have hJ60 : ∀ (n60 : Nat) (x1_60 : Int32) (hash_60 : Int64), (((z (Int32.toNatClampNeg 3))).toInt - (x1_60).toInt).toNat < n60 → 0 ≤ x1_60 → rr = f_X6_digest_j60 ln z tx n60 x1_60 hash_60 → o_X6_digest_j60 ln z tx n60 x1_60 hash_60 → ∀ (H : Heap) (locs : List Loc), va_P (dC, dI) vwCl [(h0, .inr (6, [.ref h1, .int states, .ref h2, .int ln, .ref h3, .int 0, .ref h4, .int rd, .int num, .int due, .long hash_60])), (h1, .inl (cI, 163, .inl z)), (h2, .inl (cI, 978, .inl hi)), (h3, .inl (cI, 60, .inl tx)), (h4, .inl (cI, 42, .inl pa))] H → va_D A [(h0, .inr (6, [.ref h1, .int states, .ref h2, .int ln, .ref h3, .int 0, .ref h4, .int rd, .int num, .int due, .long hash_60])), (h1, .inl (cI, 163, .inl z)), (h2, .inl (cI, 978, .inl hi)), (h3, .inl (cI, 60, .inl tx)), (h4, .inl (cI, 42, .inl pa))] → va_S A s.heap H locs → ∀ (ls : Array Slot), lv_has ls 2 [(0, .ref h0), (1, .int x1_60)] → W p l e (headSpec wsX6_digest ({ frames := 5, cells := 0, slots := 0, locals := 114 })).room s m ([.ref h0] : List Value).toArray below meth c H locs 0 0 (MQ below (va_Ql (fun (r9 : Int64) (_ : Unit) => r9 = rr.1) (fun _ t => va_P (dC, dI) vwCl [(h0, .inr (6, [.ref h1, .int states, .ref h2, .int ln, .ref h3, .int rr.2.2, .ref h4, .int rd, .int num, .int due, .long rr.2.1])), (h1, .inl (cI, 163, .inl z)), (h2, .inl (cI, 978, .inl hi)), (h3, .inl (cI, 60, .inl tx)), (h4, .inl (cI, 42, .inl pa))] t.heap) A) ([.ref h0] : List Value).toArray s 0 0 A) (F0 m 60 ls []) := by
    intro n60
    induction n60 with
    | zero =>
      intro x1_60 hash_60 hm60
      exact absurd hm60 (Nat.not_lt_zero _)
    | succ n60 ih60 =>
      intro x1_60 hash_60 hm60 hi60 eF eO H locs hP hD hS ls hl
      rw [o_X6_digest_j60] at eO
      refine lv_iload_n hx hb dX6_digest_60 rfl (lv_at hl 1 rfl) ?_
      refine lv_aload_n hx hb dX6_digest_61 rfl (lv_at hl 0 rfl) ?_
      refine va_get (D := (dC, dI)) (ci := 6) (v := .ref h1) (C := RX6) (T := TX6) (N := 11) hx hb hts iwsX60 hown hK hP 0 rfl rfl 0 (by decide) kw4 (fun _ h9 => h9) rfl dX6_digest_62 ?_
      refine lv_iconst (v := 3) hx hb dX6_digest_65 (by decide) ?_
      refine va_iald hx hb hK hP 1 0 rfl rfl (by unfold vp_in; decide) dX6_digest_66 ?_
      refine lv_icmp_ge (tgt := 81) hx hb dX6_digest_67 (by decide) (fun cL60 => ?_) (fun cL60 => ?_)
      · rw [if_pos cL60] at eO
        refine lv_iconst (v := 0) hx hb dX6_digest_81 (by decide) ?_
        refine lv_istore_n (lv' := [(1, .int 0), (0, .ref h0)]) hx hb dX6_digest_82 rfl hl (by decide) rfl (fun ls hl => ?_)
        exact hJ83 ((((7 * (z (Int32.toNatClampNeg 4)))).toInt - ((0 : Int32)).toInt).toNat + 1) 0 hash_60 (Nat.lt_succ_self _) (by decide) (eF.trans (by rw [f_X6_digest_j60, if_pos cL60])) eO _ _ hP hD hS ls (lv_sub hl [1, 0] rfl)
      · rw [if_neg cL60] at eO
        refine lv_aload_n hx hb dX6_digest_70 rfl (lv_at hl 0 rfl) ?_
        refine lv_iload_n hx hb dX6_digest_71 rfl (lv_at hl 1 rfl) ?_
        obtain ⟨hv_8, eO⟩ := eO
        refine vm_rwVv (As := [.int x1_60]) (rest := []) (T := TX6) (N := 11) (wc := [(h0, .inr (6, [.ref h1, .int states, .ref h2, .int ln, .ref h3, .int 0, .ref h4, .int rd, .int num, .int due, .long hash_60])), (h1, .inl (cI, 163, .inl z)), (h2, .inl (cI, 978, .inl hi)), (h3, .inl (cI, 60, .inl tx)), (h4, .inl (cI, 42, .inl pa))]) (w1 := [(h0, .inr (6, [.ref h1, .int states, .ref h2, .int ln, .ref h3, .int 0, .ref h4, .int rd, .int num, .int due, .long (f_X6_mixMandate hash_60 z x1_60)])), (h1, .inl (cI, 163, .inl z)), (h2, .inl (cI, 978, .inl hi)), (h3, .inl (cI, 60, .inl tx)), (h4, .inl (cI, 42, .inl pa))]) ⟨hx, hb, hml, hown, hts⟩ hK hN hP hD hS hA hl.1 ⟨Nat.le_of_ble_eq_true rfl, Nat.le_of_ble_eq_true rfl⟩ (c_X6_mixMandate l dC dI cI cB h0 h1 h2 h3 h4 _ states ln 0 rd num due hash_60 z hi tx pa x1_60 hv_8) (cwV 1 hts gX6_digest_X6_mixMandate rfl rfl rfl yd_X6_mixMandate ⟨Nat.le_of_ble_eq_true rfl, Nat.le_of_ble_eq_true rfl⟩) [0, 1, 2, 3, 4] rfl rfl rfl 6 rfl rfl rfl rfl (Nat.le_of_ble_eq_true rfl) dX6_digest_72 (fun H locs hP hD hS => ?_)
        have hP : va_P (dC, dI) vwCl [(h0, .inr (6, [.ref h1, .int states, .ref h2, .int ln, .ref h3, .int 0, .ref h4, .int rd, .int num, .int due, .long (f_X6_mixMandate hash_60 z x1_60)])), (h1, .inl (cI, 163, .inl z)), (h2, .inl (cI, 978, .inl hi)), (h3, .inl (cI, 60, .inl tx)), (h4, .inl (cI, 42, .inl pa))] H := hP
        have hD : va_D A [(h0, .inr (6, [.ref h1, .int states, .ref h2, .int ln, .ref h3, .int 0, .ref h4, .int rd, .int num, .int due, .long (f_X6_mixMandate hash_60 z x1_60)])), (h1, .inl (cI, 163, .inl z)), (h2, .inl (cI, 978, .inl hi)), (h3, .inl (cI, 60, .inl tx)), (h4, .inl (cI, 42, .inl pa))] := hD
        obtain ⟨hash_c75, ehash_c75⟩ : ∃ zz9, zz9 = (f_X6_mixMandate hash_60 z x1_60) := ⟨_, rfl⟩
        rw [← ehash_c75] at hP hD
        have eF : rr = f_X6_digest_c75 x1_60 (f_X6_digest_j60 ln z tx n60) hash_c75 := eF.trans (by rw [f_X6_digest_j60, if_neg cL60, ehash_c75])
        have eO : o_X6_digest_c75 x1_60 (o_X6_digest_j60 ln z tx n60) hash_c75 := by rw [ehash_c75]; exact eO
        rw [o_X6_digest_c75] at eO
        refine lv_iinc (v := (x1_60 + 1)) (lv' := [(1, .int (x1_60 + 1)), (0, .ref h0)]) hx hb dX6_digest_75 hl (k := 1) rfl rfl (by decide) rfl (fun ls hl => ?_)
        refine lv_goto (tgt := 60) hx hb dX6_digest_78 (by decide) ?_
        exact ih60 (x1_60 + 1) hash_c75 (vm_up (vm_nle cL60) hm60) (vm_nn hi60 (vm_nle cL60)) (eF.trans (by rw [f_X6_digest_c75])) eO _ _ hP hD hS ls (lv_sub hl [1, 0] rfl)
  have hJ14 : ∀ (n14 : Nat) (x1_14 : Int32) (hash_14 : Int64), (((12 : Int32)).toInt - (x1_14).toInt).toNat < n14 → 0 ≤ x1_14 → rr = f_X6_digest_j14 states ln z tx n14 x1_14 hash_14 → o_X6_digest_j14 states ln z tx n14 x1_14 hash_14 → ∀ (H : Heap) (locs : List Loc), va_P (dC, dI) vwCl [(h0, .inr (6, [.ref h1, .int states, .ref h2, .int ln, .ref h3, .int 0, .ref h4, .int rd, .int num, .int due, .long hash_14])), (h1, .inl (cI, 163, .inl z)), (h2, .inl (cI, 978, .inl hi)), (h3, .inl (cI, 60, .inl tx)), (h4, .inl (cI, 42, .inl pa))] H → va_D A [(h0, .inr (6, [.ref h1, .int states, .ref h2, .int ln, .ref h3, .int 0, .ref h4, .int rd, .int num, .int due, .long hash_14])), (h1, .inl (cI, 163, .inl z)), (h2, .inl (cI, 978, .inl hi)), (h3, .inl (cI, 60, .inl tx)), (h4, .inl (cI, 42, .inl pa))] → va_S A s.heap H locs → ∀ (ls : Array Slot), lv_has ls 2 [(0, .ref h0), (1, .int x1_14)] → W p l e (headSpec wsX6_digest ({ frames := 5, cells := 0, slots := 0, locals := 114 })).room s m ([.ref h0] : List Value).toArray below meth c H locs 0 0 (MQ below (va_Ql (fun (r9 : Int64) (_ : Unit) => r9 = rr.1) (fun _ t => va_P (dC, dI) vwCl [(h0, .inr (6, [.ref h1, .int states, .ref h2, .int ln, .ref h3, .int rr.2.2, .ref h4, .int rd, .int num, .int due, .long rr.2.1])), (h1, .inl (cI, 163, .inl z)), (h2, .inl (cI, 978, .inl hi)), (h3, .inl (cI, 60, .inl tx)), (h4, .inl (cI, 42, .inl pa))] t.heap) A) ([.ref h0] : List Value).toArray s 0 0 A) (F0 m 14 ls []) := by
    intro n14
    induction n14 with
    | zero =>
      intro x1_14 hash_14 hm14
      exact absurd hm14 (Nat.not_lt_zero _)
    | succ n14 ih14 =>
      intro x1_14 hash_14 hm14 hi14 eF eO H locs hP hD hS ls hl
      rw [o_X6_digest_j14] at eO
      refine lv_iload_n hx hb dX6_digest_14 rfl (lv_at hl 1 rfl) ?_
      refine lv_bipush (v := 12) hx hb dX6_digest_15 (by decide) ?_
      refine lv_icmp_ge (tgt := 36) hx hb dX6_digest_17 (by decide) (fun cL14 => ?_) (fun cL14 => ?_)
      · rw [if_pos cL14] at eO
        refine lv_aload_n hx hb dX6_digest_36 rfl (lv_at hl 0 rfl) ?_
        refine lv_aload_n hx hb dX6_digest_37 rfl (lv_at hl 0 rfl) ?_
        refine va_get (D := (dC, dI)) (ci := 6) (v := .ref h1) (C := RX6) (T := TX6) (N := 11) hx hb hts iwsX60 hown hK hP 0 rfl rfl 0 (by decide) kw4 (fun _ h9 => h9) rfl dX6_digest_38 ?_
        refine lv_iconst (v := 0) hx hb dX6_digest_41 (by decide) ?_
        refine va_iald hx hb hK hP 1 0 rfl rfl (by unfold vp_in; decide) dX6_digest_42 ?_
        refine lv_i2l (v := (Int32.toInt64 (z (Int32.toNatClampNeg 0)))) hx hb dX6_digest_43 rfl ?_
        refine vm_rwVv (As := [.long (Int32.toInt64 (z (Int32.toNatClampNeg 0)))]) (rest := []) (T := TX6) (N := 11) (wc := [(h0, .inr (6, [.ref h1, .int states, .ref h2, .int ln, .ref h3, .int 0, .ref h4, .int rd, .int num, .int due, .long hash_14])), (h1, .inl (cI, 163, .inl z)), (h2, .inl (cI, 978, .inl hi)), (h3, .inl (cI, 60, .inl tx)), (h4, .inl (cI, 42, .inl pa))]) (w1 := [(h0, .inr (6, [.ref h1, .int states, .ref h2, .int ln, .ref h3, .int 0, .ref h4, .int rd, .int num, .int due, .long (f_X6_mix hash_14 (Int32.toInt64 (z (Int32.toNatClampNeg 0))))])), (h1, .inl (cI, 163, .inl z)), (h2, .inl (cI, 978, .inl hi)), (h3, .inl (cI, 60, .inl tx)), (h4, .inl (cI, 42, .inl pa))]) ⟨hx, hb, hml, hown, hts⟩ hK hN hP hD hS hA hl.1 ⟨Nat.le_of_ble_eq_true rfl, Nat.le_of_ble_eq_true rfl⟩ (c_X6_mix l dC dI cI cB h0 h1 h2 h3 h4 _ states ln 0 rd num due hash_14 z hi tx pa (Int32.toInt64 (z (Int32.toNatClampNeg 0)))) (cwV 1 hts gX6_digest_X6_mix rfl rfl rfl yd_X6_mix ⟨Nat.le_of_ble_eq_true rfl, Nat.le_of_ble_eq_true rfl⟩) [0, 1, 2, 3, 4] rfl rfl rfl 6 rfl rfl rfl rfl (Nat.le_of_ble_eq_true rfl) dX6_digest_44 (fun H locs hP hD hS => ?_)
        have hP : va_P (dC, dI) vwCl [(h0, .inr (6, [.ref h1, .int states, .ref h2, .int ln, .ref h3, .int 0, .ref h4, .int rd, .int num, .int due, .long (f_X6_mix hash_14 (Int32.toInt64 (z (Int32.toNatClampNeg 0))))])), (h1, .inl (cI, 163, .inl z)), (h2, .inl (cI, 978, .inl hi)), (h3, .inl (cI, 60, .inl tx)), (h4, .inl (cI, 42, .inl pa))] H := hP
        have hD : va_D A [(h0, .inr (6, [.ref h1, .int states, .ref h2, .int ln, .ref h3, .int 0, .ref h4, .int rd, .int num, .int due, .long (f_X6_mix hash_14 (Int32.toInt64 (z (Int32.toNatClampNeg 0))))])), (h1, .inl (cI, 163, .inl z)), (h2, .inl (cI, 978, .inl hi)), (h3, .inl (cI, 60, .inl tx)), (h4, .inl (cI, 42, .inl pa))] := hD
        obtain ⟨hash_c47, ehash_c47⟩ : ∃ zz9, zz9 = (f_X6_mix hash_14 (Int32.toInt64 (z (Int32.toNatClampNeg 0)))) := ⟨_, rfl⟩
        rw [← ehash_c47] at hP hD
        have eF : rr = f_X6_digest_c47 ln z tx hash_c47 := eF.trans (by rw [f_X6_digest_j14, if_pos cL14, ehash_c47])
        have eO : o_X6_digest_c47 ln z tx hash_c47 := by rw [ehash_c47]; exact eO
        rw [o_X6_digest_c47] at eO
        refine lv_aload_n hx hb dX6_digest_47 rfl (lv_at hl 0 rfl) ?_
        refine lv_aload_n hx hb dX6_digest_48 rfl (lv_at hl 0 rfl) ?_
        refine va_get (D := (dC, dI)) (ci := 6) (v := .ref h1) (C := RX6) (T := TX6) (N := 11) hx hb hts iwsX60 hown hK hP 0 rfl rfl 0 (by decide) kw4 (fun _ h9 => h9) rfl dX6_digest_49 ?_
        refine lv_iconst (v := 1) hx hb dX6_digest_52 (by decide) ?_
        refine va_iald hx hb hK hP 1 0 rfl rfl (by unfold vp_in; decide) dX6_digest_53 ?_
        refine lv_i2l (v := (Int32.toInt64 (z (Int32.toNatClampNeg 1)))) hx hb dX6_digest_54 rfl ?_
        refine vm_rwVv (As := [.long (Int32.toInt64 (z (Int32.toNatClampNeg 1)))]) (rest := []) (T := TX6) (N := 11) (wc := [(h0, .inr (6, [.ref h1, .int states, .ref h2, .int ln, .ref h3, .int 0, .ref h4, .int rd, .int num, .int due, .long hash_c47])), (h1, .inl (cI, 163, .inl z)), (h2, .inl (cI, 978, .inl hi)), (h3, .inl (cI, 60, .inl tx)), (h4, .inl (cI, 42, .inl pa))]) (w1 := [(h0, .inr (6, [.ref h1, .int states, .ref h2, .int ln, .ref h3, .int 0, .ref h4, .int rd, .int num, .int due, .long (f_X6_mix hash_c47 (Int32.toInt64 (z (Int32.toNatClampNeg 1))))])), (h1, .inl (cI, 163, .inl z)), (h2, .inl (cI, 978, .inl hi)), (h3, .inl (cI, 60, .inl tx)), (h4, .inl (cI, 42, .inl pa))]) ⟨hx, hb, hml, hown, hts⟩ hK hN hP hD hS hA hl.1 ⟨Nat.le_of_ble_eq_true rfl, Nat.le_of_ble_eq_true rfl⟩ (c_X6_mix l dC dI cI cB h0 h1 h2 h3 h4 _ states ln 0 rd num due hash_c47 z hi tx pa (Int32.toInt64 (z (Int32.toNatClampNeg 1)))) (cwV 1 hts gX6_digest_X6_mix rfl rfl rfl yd_X6_mix ⟨Nat.le_of_ble_eq_true rfl, Nat.le_of_ble_eq_true rfl⟩) [0, 1, 2, 3, 4] rfl rfl rfl 6 rfl rfl rfl rfl (Nat.le_of_ble_eq_true rfl) dX6_digest_55 (fun H locs hP hD hS => ?_)
        have hP : va_P (dC, dI) vwCl [(h0, .inr (6, [.ref h1, .int states, .ref h2, .int ln, .ref h3, .int 0, .ref h4, .int rd, .int num, .int due, .long (f_X6_mix hash_c47 (Int32.toInt64 (z (Int32.toNatClampNeg 1))))])), (h1, .inl (cI, 163, .inl z)), (h2, .inl (cI, 978, .inl hi)), (h3, .inl (cI, 60, .inl tx)), (h4, .inl (cI, 42, .inl pa))] H := hP
        have hD : va_D A [(h0, .inr (6, [.ref h1, .int states, .ref h2, .int ln, .ref h3, .int 0, .ref h4, .int rd, .int num, .int due, .long (f_X6_mix hash_c47 (Int32.toInt64 (z (Int32.toNatClampNeg 1))))])), (h1, .inl (cI, 163, .inl z)), (h2, .inl (cI, 978, .inl hi)), (h3, .inl (cI, 60, .inl tx)), (h4, .inl (cI, 42, .inl pa))] := hD
        obtain ⟨hash_c58, ehash_c58⟩ : ∃ zz9, zz9 = (f_X6_mix hash_c47 (Int32.toInt64 (z (Int32.toNatClampNeg 1)))) := ⟨_, rfl⟩
        rw [← ehash_c58] at hP hD
        have eF : rr = f_X6_digest_c58 ln z tx hash_c58 := eF.trans (by rw [f_X6_digest_c47, ehash_c58])
        have eO : o_X6_digest_c58 ln z tx hash_c58 := by rw [ehash_c58]; exact eO
        rw [o_X6_digest_c58] at eO
        refine lv_iconst (v := 0) hx hb dX6_digest_58 (by decide) ?_
        refine lv_istore_n (lv' := [(1, .int 0), (0, .ref h0)]) hx hb dX6_digest_59 rfl hl (by decide) rfl (fun ls hl => ?_)
        exact hJ60 ((((z (Int32.toNatClampNeg 3))).toInt - ((0 : Int32)).toInt).toNat + 1) 0 hash_c58 (Nat.lt_succ_self _) (by decide) (eF.trans (by rw [f_X6_digest_c58])) eO _ _ hP hD hS ls (lv_sub hl [1, 0] rfl)
      · rw [if_neg cL14] at eO
        refine lv_aload_n hx hb dX6_digest_20 rfl (lv_at hl 0 rfl) ?_
        refine lv_aload_n hx hb dX6_digest_21 rfl (lv_at hl 0 rfl) ?_
        refine lv_iload_n hx hb dX6_digest_22 rfl (lv_at hl 1 rfl) ?_
        obtain ⟨hv_10, eO⟩ := eO
        refine vm_roVx (v := (f_X6_counted states z x1_14)) (As := [.int x1_14]) (rest := [.ref h0]) (T := TX6) (N := 11) (wc := [(h0, .inr (6, [.ref h1, .int states, .ref h2, .int ln, .ref h3, .int 0, .ref h4, .int rd, .int num, .int due, .long hash_14])), (h1, .inl (cI, 163, .inl z)), (h2, .inl (cI, 978, .inl hi)), (h3, .inl (cI, 60, .inl tx)), (h4, .inl (cI, 42, .inl pa))]) ⟨hx, hb, hml, hown, hts⟩ hK hN hP hl.1 ⟨Nat.le_of_ble_eq_true rfl, Nat.le_of_ble_eq_true rfl⟩ (c_X6_counted l dC dI cI cB h0 h1 h2 h3 h4 states ln 0 rd num due hash_14 z hi tx pa x1_14 hv_10) (cwV 1 hts gX6_digest_X6_counted rfl rfl rfl yd_X6_counted ⟨Nat.le_of_ble_eq_true rfl, Nat.le_of_ble_eq_true rfl⟩) [0, 1, 2, 3, 4] rfl 6 rfl rfl rfl rfl (Nat.le_of_ble_eq_true rfl) dX6_digest_23 ?_
        refine lv_i2l (v := (Int32.toInt64 (f_X6_counted states z x1_14))) hx hb dX6_digest_26 rfl ?_
        refine vm_rwVv (As := [.long (Int32.toInt64 (f_X6_counted states z x1_14))]) (rest := []) (T := TX6) (N := 11) (wc := [(h0, .inr (6, [.ref h1, .int states, .ref h2, .int ln, .ref h3, .int 0, .ref h4, .int rd, .int num, .int due, .long hash_14])), (h1, .inl (cI, 163, .inl z)), (h2, .inl (cI, 978, .inl hi)), (h3, .inl (cI, 60, .inl tx)), (h4, .inl (cI, 42, .inl pa))]) (w1 := [(h0, .inr (6, [.ref h1, .int states, .ref h2, .int ln, .ref h3, .int 0, .ref h4, .int rd, .int num, .int due, .long (f_X6_mix hash_14 (Int32.toInt64 (f_X6_counted states z x1_14)))])), (h1, .inl (cI, 163, .inl z)), (h2, .inl (cI, 978, .inl hi)), (h3, .inl (cI, 60, .inl tx)), (h4, .inl (cI, 42, .inl pa))]) ⟨hx, hb, hml, hown, hts⟩ hK hN hP hD hS hA hl.1 ⟨Nat.le_of_ble_eq_true rfl, Nat.le_of_ble_eq_true rfl⟩ (c_X6_mix l dC dI cI cB h0 h1 h2 h3 h4 _ states ln 0 rd num due hash_14 z hi tx pa (Int32.toInt64 (f_X6_counted states z x1_14))) (cwV 1 hts gX6_digest_X6_mix rfl rfl rfl yd_X6_mix ⟨Nat.le_of_ble_eq_true rfl, Nat.le_of_ble_eq_true rfl⟩) [0, 1, 2, 3, 4] rfl rfl rfl 6 rfl rfl rfl rfl (Nat.le_of_ble_eq_true rfl) dX6_digest_27 (fun H locs hP hD hS => ?_)
        have hP : va_P (dC, dI) vwCl [(h0, .inr (6, [.ref h1, .int states, .ref h2, .int ln, .ref h3, .int 0, .ref h4, .int rd, .int num, .int due, .long (f_X6_mix hash_14 (Int32.toInt64 (f_X6_counted states z x1_14)))])), (h1, .inl (cI, 163, .inl z)), (h2, .inl (cI, 978, .inl hi)), (h3, .inl (cI, 60, .inl tx)), (h4, .inl (cI, 42, .inl pa))] H := hP
        have hD : va_D A [(h0, .inr (6, [.ref h1, .int states, .ref h2, .int ln, .ref h3, .int 0, .ref h4, .int rd, .int num, .int due, .long (f_X6_mix hash_14 (Int32.toInt64 (f_X6_counted states z x1_14)))])), (h1, .inl (cI, 163, .inl z)), (h2, .inl (cI, 978, .inl hi)), (h3, .inl (cI, 60, .inl tx)), (h4, .inl (cI, 42, .inl pa))] := hD
        obtain ⟨hash_c30, ehash_c30⟩ : ∃ zz9, zz9 = (f_X6_mix hash_14 (Int32.toInt64 (f_X6_counted states z x1_14))) := ⟨_, rfl⟩
        rw [← ehash_c30] at hP hD
        have eF : rr = f_X6_digest_c30 x1_14 (f_X6_digest_j14 states ln z tx n14) hash_c30 := eF.trans (by rw [f_X6_digest_j14, if_neg cL14, ehash_c30])
        have eO : o_X6_digest_c30 x1_14 (o_X6_digest_j14 states ln z tx n14) hash_c30 := by rw [ehash_c30]; exact eO
        rw [o_X6_digest_c30] at eO
        refine lv_iinc (v := (x1_14 + 1)) (lv' := [(1, .int (x1_14 + 1)), (0, .ref h0)]) hx hb dX6_digest_30 hl (k := 1) rfl rfl (by decide) rfl (fun ls hl => ?_)
        refine lv_goto (tgt := 14) hx hb dX6_digest_33 (by decide) ?_
        exact ih14 (x1_14 + 1) hash_c30 (vm_up (vm_nle cL14) hm14) (vm_nn hi14 (vm_nle cL14)) (eF.trans (by rw [f_X6_digest_c30])) eO _ _ hP hD hS ls (lv_sub hl [1, 0] rfl)
  rw [o_X6_digest] at eO
  refine lv_aload_n hx hb dX6_digest_0 rfl (lv_at hl 0 rfl) ?_
  refine lv_iconst (v := 0) hx hb dX6_digest_1 (by decide) ?_
  refine va_put (D := (dC, dI)) (ci := 6) (v := .int 0) (ty := .int) (C := RX6) (T := TX6) (N := 11) hx hb hts iwsX60 tyX6 tyX6_ok nmX6 hown hK hP hD hS 0 rfl rfl 5 (by decide) kw1 (fun _ h9 => h9) rfl (by decide +kernel) rfl rfl (Nat.le_of_ble_eq_true rfl) dX6_digest_2 (fun H locs hP hD hS => ?_)
  have hP : va_P (dC, dI) vwCl [(h0, .inr (6, [.ref h1, .int states, .ref h2, .int ln, .ref h3, .int 0, .ref h4, .int rd, .int num, .int due, .long hash])), (h1, .inl (cI, 163, .inl z)), (h2, .inl (cI, 978, .inl hi)), (h3, .inl (cI, 60, .inl tx)), (h4, .inl (cI, 42, .inl pa))] H := hP
  have hD : va_D A [(h0, .inr (6, [.ref h1, .int states, .ref h2, .int ln, .ref h3, .int 0, .ref h4, .int rd, .int num, .int due, .long hash])), (h1, .inl (cI, 163, .inl z)), (h2, .inl (cI, 978, .inl hi)), (h3, .inl (cI, 60, .inl tx)), (h4, .inl (cI, 42, .inl pa))] := hD
  refine lv_aload_n hx hb dX6_digest_5 rfl (lv_at hl 0 rfl) ?_
  refine lv_ldc2 (v := 2543) hx hb hown kw2 dX6_digest_6 ?_
  refine va_put (D := (dC, dI)) (ci := 6) (v := .long 2543) (ty := .long) (C := RX6) (T := TX6) (N := 11) hx hb hts iwsX60 tyX6 tyX6_ok nmX6 hown hK hP hD hS 0 rfl rfl 10 (by decide) kw3 (fun _ h9 => h9) rfl (by decide +kernel) rfl rfl (Nat.le_of_ble_eq_true rfl) dX6_digest_9 (fun H locs hP hD hS => ?_)
  have hP : va_P (dC, dI) vwCl [(h0, .inr (6, [.ref h1, .int states, .ref h2, .int ln, .ref h3, .int 0, .ref h4, .int rd, .int num, .int due, .long 2543])), (h1, .inl (cI, 163, .inl z)), (h2, .inl (cI, 978, .inl hi)), (h3, .inl (cI, 60, .inl tx)), (h4, .inl (cI, 42, .inl pa))] H := hP
  have hD : va_D A [(h0, .inr (6, [.ref h1, .int states, .ref h2, .int ln, .ref h3, .int 0, .ref h4, .int rd, .int num, .int due, .long 2543])), (h1, .inl (cI, 163, .inl z)), (h2, .inl (cI, 978, .inl hi)), (h3, .inl (cI, 60, .inl tx)), (h4, .inl (cI, 42, .inl pa))] := hD
  refine lv_iconst (v := 0) hx hb dX6_digest_12 (by decide) ?_
  refine lv_istore_n (lv' := [(1, .int 0), (0, .ref h0)]) hx hb dX6_digest_13 rfl hl (by decide) rfl (fun ls hl => ?_)
  exact hJ14 ((((12 : Int32)).toInt - ((0 : Int32)).toInt).toNat + 1) 0 2543 (Nat.lt_succ_self _) (by decide) (eF.trans (by rw [f_X6_digest])) eO _ _ hP hD hS ls (lv_sub hl [1, 0] rfl)
