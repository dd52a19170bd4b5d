/-! SAVED BOOKS, the ring, and what a place of it answers -/
abbrev vm_BK : Type := Int32 × (Nat → Int32) × Int32 × (Nat → Int32) × (Nat → Int32) × Int32 × Int32 × Int32 × Int32 × Int32 × Int32 × Int32 × Int32 × Int32
abbrev bk_rm (b : vm_BK) : Int32 := b.1
abbrev bk_fm (b : vm_BK) : (Nat → Int32) := b.2.1
abbrev bk_rq (b : vm_BK) : Int32 := b.2.2.1
abbrev bk_fr (b : vm_BK) : (Nat → Int32) := b.2.2.2.1
abbrev bk_ap (b : vm_BK) : (Nat → Int32) := b.2.2.2.2.1
abbrev bk_day (b : vm_BK) : Int32 := b.2.2.2.2.2.1
abbrev bk_grace (b : vm_BK) : Int32 := b.2.2.2.2.2.2.1
abbrev bk_longest (b : vm_BK) : Int32 := b.2.2.2.2.2.2.2.1
abbrev bk_spent (b : vm_BK) : Int32 := b.2.2.2.2.2.2.2.2.1
abbrev bk_spentIn (b : vm_BK) : Int32 := b.2.2.2.2.2.2.2.2.2.1
abbrev bk_spendings (b : vm_BK) : Int32 := b.2.2.2.2.2.2.2.2.2.2.1
abbrev bk_urgentSp (b : vm_BK) : Int32 := b.2.2.2.2.2.2.2.2.2.2.2.1
abbrev bk_dropped (b : vm_BK) : Int32 := b.2.2.2.2.2.2.2.2.2.2.2.2.1
abbrev bk_lapsedLate (b : vm_BK) : Int32 := b.2.2.2.2.2.2.2.2.2.2.2.2.2
def bk_0 : vm_BK := (0, (fun _ => 0), 0, (fun _ => 0), (fun _ => 0), 0, 0, 0, 0, 0, 0, 0, 0, 0)
def vm_wr (q : Nat → Nat) : Nat → Option Nat := (va_up (va_up (va_up (va_up (va_up (va_up (fun _ => none) (Int32.toNatClampNeg 0) (some (q 12))) (Int32.toNatClampNeg 1) (some (q 19))) (Int32.toNatClampNeg 2) (some (q 26))) (Int32.toNatClampNeg 3) (some (q 33))) (Int32.toNatClampNeg 4) (some (q 40))) (Int32.toNatClampNeg 5) (some (q 47)))
section VMR
variable {p : Program} {l : Launch} {e : Env} {R : Room} {s : State} {m : MethodId} {args : Array Value} {below : List Frame} {meth : Method} {c : Code} {H : Heap} {locs : List Loc} {cells slots : Nat} {Q : State → Prop}
variable {y : MethodName} {bytes cc : ByteArray} {maxL nL n index : Nat} {ret : Option FieldType} {ws : List Cond} {rm : Room} {Ts : List Cond} {own C : String} {b : Addr} {As rest st0 : List Value} {pc : Nat} {ls : Array Slot} {D : va_G} {cI cB : ClassId} {ww wc w1 : va_W} {T : u_T} {N : Nat} {fs : List Value}
theorem vm_roVr {a : Nat} {v : Option Nat} (S : CallFix p m c cc nL s args Ts own) (hK : va_K D vwCl (vm_ty cI cB) s) (hN : vm_N s) (hP : va_P D vwCl ww H) (hsz : ls.size = nL) (hf : cells ≤ R.cells ∧ slots ≤ R.slots)
    (hM : Met l y ws rm (vm_pre (.ref b :: As) D wc cI cB) (va_Sq (fun r => r = v)) 0 0 (fun _ => False)) (cw : CallW R s args own C index y bytes maxL ret ws rm 0 0 n) (is : List Nat) (hC : is.map (fun i => ww[i]?) = wc.map some) (ci : Nat) (hr0 : wc[0]? = some (b, .inr (ci, fs))) (hcl : vwCl[ci]? = some (C, T, N)) (hn : As.length = n) (hst : st0 = As.reverse ++ .ref b :: rest) (hW : (rest.map fun v => v.category).sum ≤ 8) (hdg : decode cc pc = .ok (.invokevirtual index, 3)) (hv : v = some a)
    (kk : W p l e R s m args below meth c H locs cells slots Q (F0 m (pc + 3) ls (.ref a :: rest))) : W p l e R s m args below meth c H locs cells slots Q (F0 m pc ls st0) := by
  have hPc := hP.sub is (vm_fm hC)
  refine va_csq (W.runV S hM cw ⟨vm_blind, va_recv hK hPc hcl hr0, fun U hU hW => ⟨rfl, by rw [hU]; exact hPc, va_K.moved hW.alike hK, vm_N.warm hW hN⟩⟩ rfl hn hsz hst (lv_room hW) hdg ⟨hf.1, hf.2⟩) (fun r er => ?_)
  have er : r = some a := Eq.trans er hv
  subst er
  exact kk
theorem vm_roSv (S : CallFix p m c cc nL s args Ts own) (hK : va_K D vwCl (vm_ty cI cB) s) (hN : vm_N s) (hP : va_P D vwCl ww H) (hsz : ls.size = nL) (hf : cells ≤ R.cells ∧ slots ≤ R.slots)
    (hM : Met l y ws rm (vm_pre As D [] cI cB) (va_Sv (fun _ => True)) 0 0 (fun _ => False)) (cw : CallB R s args own index y bytes maxL ret ws rm 0 0 n ∧ (Cond.static y).before args s = true) (hn : As.length = n) (hst : st0 = As.reverse ++ rest) (hW : (rest.map fun v => v.category).sum ≤ 8) (hdg : decode cc pc = .ok (.invokestatic index, 3))
    (kk : W p l e R s m args below meth c H locs cells slots Q (F0 m (pc + 3) ls rest)) : W p l e R s m args below meth c H locs cells slots Q (F0 m pc ls st0) := by
  exact va_csv (W.runS S hM cw ⟨vm_blind, fun U hU hW => ⟨rfl, fun k q h => by simp at h, va_K.moved hW.alike hK, vm_N.warm hW hN⟩⟩ rfl hn hsz hst (lv_room hW) hdg ⟨hf.1, hf.2⟩) (fun _ => kk)
end VMR
theorem yd_X1_at : yX1_at.cls = RX1 ∧ yX1_at.cls ≠ "java/lang/invoke/MethodHandle" ∧ yX1_at.cls ≠ "java/lang/invoke/VarHandle" ∧ (parseMethodDescriptor yX1_at.desc).map (fun d => d.parameters.length) = some 1 := by decide +kernel
set_option maxHeartbeats 4000000 in
set_option maxRecDepth 100000 in
theorem c_X1_at (l : Launch) (dC : Nat → ClassId) (dI : Nat → Nat → Nat) (cI cB : ClassId) (q : Nat → Nat) (oldest kept p1 : Int32) (h1 : ¬ p1 < 0) (h2 : ¬ 6 ≤ p1) : Met l yX1_at wsX1_at ({ frames := 0, cells := 0, slots := 0, locals := 0 }) (vm_pre [.ref (q 8), .int p1] (dC, dI) [((q 8), .inr (1, [.ref (q 9), .int oldest, .int kept])), ((q 9), .inl (cB, 6, .inr (.inr (.inr (.inr (vm_wr q))))))] cI cB) (va_Sq (fun r => r = vm_wr q (Int32.toNatClampNeg p1))) 0 0 (fun _ => False) := by
  refine Met.ofW (cc := cX1_at) (maxL := 2) (ret := (some (.object "LapseMandates$Book"))) (by decide) rfl ?_
  intro p e s m args below meth c s₁ B hml hv
  obtain ⟨rfl, hP, hK, hN⟩ := hv
  have hx := B.exec
  have hb := B.bytes
  have hr := B.returns
  have hts := atoms_spec (ws := wsX1_at) B.pre
  have hown : s.vm.findClass RX1 = some m.cls := findClass_of_methodNamed B.named
  have hlocks := B.notSynchronized
  have kw := hts (.fieldLink RX1 11 "LapseMandates$History" "ring" "[LLapseMandates$Book;") (List.mem_of_getElem? (i := 1) rfl)
  have iws : ∀ w ∈ wsX10, w ∈ wsX1_at := fun w h => List.mem_cons_of_mem _ (List.mem_append_right _ h)
  have hl := lv_entry ([.ref (q 8), .int p1]) (n := 2) (Nat.le_of_ble_eq_true rfl)
  rw [lg_entry_eq]
  generalize (lg_sl ([.ref (q 8), .int p1]) ++ List.replicate (2 - (lg_sl ([.ref (q 8), .int p1])).length) Slot.unset).toArray = ls at hl ⊢
  have hl : lv_has ls 2 [(0, .ref (q 8)), (1, .int p1)] := hl
  refine lv_iload_n hx hb dX1_at_0 rfl (lv_at hl 1 rfl) ?_
  refine lv_if_lt (tgt := 22) hx hb dX1_at_1 (by decide) (fun c9 => absurd c9 h1) (fun _ => ?_)
  refine lv_iload_n hx hb dX1_at_4 rfl (lv_at hl 1 rfl) ?_
  refine lv_aload_n hx hb dX1_at_5 rfl (lv_at hl 0 rfl) ?_
  refine va_get (D := (dC, dI)) (ci := 1) (v := .ref (q 9)) (C := RX1) (T := TX1) (N := 3) hx hb hts iws hown hK hP 0 rfl rfl 0 (by decide) kw (fun _ h9 => h9) rfl dX1_at_6 ?_
  refine va_alen hx hb hK hP 1 1 rfl rfl (v := 6) rfl dX1_at_9 ?_
  refine lv_icmp_ge (tgt := 22) hx hb dX1_at_10 (by decide) (fun c9 => absurd c9 h2) (fun _ => ?_)
  refine lv_aload_n hx hb dX1_at_13 rfl (lv_at hl 0 rfl) ?_
  refine va_get (D := (dC, dI)) (ci := 1) (v := .ref (q 9)) (C := RX1) (T := TX1) (N := 3) hx hb hts iws hown hK hP 0 rfl rfl 0 (by decide) kw (fun _ h9 => h9) rfl dX1_at_14 ?_
  refine lv_iload_n hx hb dX1_at_17 rfl (lv_at hl 1 rfl) ?_
  refine va_aldq hx hb hK hP 1 1 rfl rfl (vm_in (vm_nlt h1) (vm_nle h2) (by decide)) dX1_at_18 ?_
  refine lv_goto (tgt := 23) hx hb dX1_at_19 (by decide) ?_
  refine W.aret (v := va_rf (vm_wr q (Int32.toNatClampNeg p1))) hx hb hr (Or.inl ⟨_, rfl⟩) ?_ (fun t ht hW => ⟨_, rfl, rfl, ht⟩) (fun _ hq => by cases hq) dX1_at_23
  cases vm_wr q (Int32.toNatClampNeg p1) with
  | none => exact Or.inl rfl
  | some a => exact Or.inr ⟨a, rfl⟩
