/-! THE LAW'S BODY: its state, its calls -/
/-- RR: what holds between the class's state and the reference's -/
abbrev vm_RT : Type := Int32 → (Nat → Int32) → Int32 → (Nat → Int32) → (Nat → Int32) → Int32 → Int32 → Int32 → Int32 → Int32 → Int32 → Int32 → Int32 → Int32 → Int32 → Int32 → (Nat → vm_BK) → Int32 → (Nat → Int32) → Int32 → Int32 → Int32 → Int32 → Int32 → Int32 → Int64 → (Nat → Int32) → (Nat → Int32) → (Nat → Int32) → (Nat → Int32) → Prop
def vm_LK (p : Program) (l : Launch) (e : Env) (s : State) (m : MethodId) (below : List Frame) (meth : Method) (c : Code) (b : Nat) (dC : Nat → ClassId) (dI : Nat → Nat → Nat) (cI cB cJ cD : ClassId) (q : Nat → Nat) (ho hd g0 g1 g2 g3 g4 : Nat) (Q : State → Prop) (RR : vm_RT) (i cells slots pc : Nat) : Prop :=
  ∀ (rm : Int32) (fm : Nat → Int32) (rq : Int32) (fr : Nat → Int32) (ap : Nat → Int32) (day : Int32) (grace : Int32) (longest : Int32) (spent : Int32) (spentIn : Int32) (spendings : Int32) (urgentSp : Int32) (dropped : Int32) (lapsedLate : Int32) (oldest : Int32) (kept : Int32) (RB : Nat → vm_BK) (ln : Int32) (tx : Nat → Int32) (states : Int32) (rl : Int32) (thr : Int32) (rd : Int32) (num : Int32) (due : Int32) (hash : Int64) (z : Nat → Int32) (hi : Nat → Int32) (rx : Nat → Int32) (pa : Nat → Int32) (fo : Nat → Int64) (fd : Nat → UInt64) (H : Heap) (locs : List Loc) (ls : Array Slot), RR rm fm rq fr ap day grace longest spent spentIn spendings urgentSp dropped lapsedLate oldest kept RB ln tx states rl thr rd num due hash z hi rx pa → va_P (dC, dI) vwCl ([(ho, .inl (cJ, 1, .inr (.inl fo))), (hd, .inl (cD, 1, .inr (.inr (.inr (.inl fd))))), ((q 0), .inr (5, [.ref (q 1), .ref (q 8), .ref (q 10)])), ((q 1), .inr (0, [.ref (q 2), .ref (q 5), .ref (q 7), .int day, .int grace, .int longest, .int spent, .int spentIn, .int spendings, .int urgentSp, .int dropped, .int lapsedLate])), ((q 2), .inr (2, [.ref (q 3)])), ((q 3), .inr (3, [.ref (q 4), .int 12, .int 8, .int rm])), ((q 4), .inl (cI, 96, .inl fm)), ((q 5), .inr (3, [.ref (q 6), .int 6, .int 6, .int rq])), ((q 6), .inl (cI, 36, .inl fr)), ((q 7), .inl (cI, 8, .inl ap)), ((q 8), .inr (1, [.ref (q 9), .int oldest, .int kept])), ((q 9), .inl (cB, 6, .inr (.inr (.inr (.inr (vm_wr q)))))), ((q 10), .inr (4, [.ref (q 11), .int ln])), ((q 11), .inl (cI, 60, .inl tx)), (g0, .inr (6, [.ref g1, .int states, .ref g2, .int rl, .ref g3, .int thr, .ref g4, .int rd, .int num, .int due, .long hash])), (g1, .inl (cI, 163, .inl z)), (g2, .inl (cI, 978, .inl hi)), (g3, .inl (cI, 60, .inl rx)), (g4, .inl (cI, 42, .inl pa))] ++ vm_ring cI q RB) H → va_D (fun q : Nat => s.heap.size ≤ q) ([(ho, .inl (cJ, 1, .inr (.inl fo))), (hd, .inl (cD, 1, .inr (.inr (.inr (.inl fd))))), ((q 0), .inr (5, [.ref (q 1), .ref (q 8), .ref (q 10)])), ((q 1), .inr (0, [.ref (q 2), .ref (q 5), .ref (q 7), .int day, .int grace, .int longest, .int spent, .int spentIn, .int spendings, .int urgentSp, .int dropped, .int lapsedLate])), ((q 2), .inr (2, [.ref (q 3)])), ((q 3), .inr (3, [.ref (q 4), .int 12, .int 8, .int rm])), ((q 4), .inl (cI, 96, .inl fm)), ((q 5), .inr (3, [.ref (q 6), .int 6, .int 6, .int rq])), ((q 6), .inl (cI, 36, .inl fr)), ((q 7), .inl (cI, 8, .inl ap)), ((q 8), .inr (1, [.ref (q 9), .int oldest, .int kept])), ((q 9), .inl (cB, 6, .inr (.inr (.inr (.inr (vm_wr q)))))), ((q 10), .inr (4, [.ref (q 11), .int ln])), ((q 11), .inl (cI, 60, .inl tx)), (g0, .inr (6, [.ref g1, .int states, .ref g2, .int rl, .ref g3, .int thr, .ref g4, .int rd, .int num, .int due, .long hash])), (g1, .inl (cI, 163, .inl z)), (g2, .inl (cI, 978, .inl hi)), (g3, .inl (cI, 60, .inl rx)), (g4, .inl (cI, 42, .inl pa))] ++ vm_ring cI q RB) → va_S (fun q : Nat => s.heap.size ≤ q) s.heap H locs → lv_has ls 9 [(5, .int (Int32.ofNat i)), (4, .ref hd), (3, .ref ho), (2, .ref g0), (1, .ref (q 0)), (0, .ref b)] → W p l e room_1 s m #[Value.ref b] below meth c H locs cells slots Q (F0 m pc ls [])
/-- what is fixed over the loop -/
def vm_LF (p : Program) (s : State) (m : MethodId) (meth : Method) (c : Code) (b L : Nat) (xs : Nat → Int32) (dC : Nat → ClassId) (dI : Nat → Nat → Nat) (cI cB cJ cD : ClassId) (sa : Nat → Nat) : Prop :=
  p.tables.exec = Jvm.exec ∧ c.code = cL_law ∧ meth.sig.returnType = ret ∧ c.maxLocals = 9 ∧ s.vm.findClass RL = some m.cls ∧ (∀ w ∈ wsL_law, w.before #[Value.ref b] s = true) ∧ va_X b L xs s s.heap ∧ b < s.heap.size ∧ va_K (dC, dI) vwCl (vm_tyL cI cB cJ cD) s ∧ vm_N s ∧ vm_Y sa s ∧ vm_Z (fun q : Nat => s.heap.size ≤ q) s s.heap ∧ vm_C s
theorem vm_lin {i L j : Nat} (h : i + 6 ≤ L) (hL : L ≤ 3072) (hj : j < 6) : vp_in (Int32.ofNat i + Int32.ofNat j) L := by
  rw [← Int32.ofNat_add]
  have e1 : (Int32.ofNat (i + j)).toInt = ((i + j : Nat) : Int) := Int32.toInt_ofNat_of_lt (by omega)
  rintro (q | q)
  · rw [Int32.lt_iff_toInt_lt, e1] at q
    have : (0 : Int32).toInt = 0 := rfl
    omega
  · have : (Int32.ofNat (i + j)).toInt.toNat = i + j := by rw [e1]; rfl
    have e2 : Int32.toNatClampNeg (Int32.ofNat (i + j)) = i + j := this
    rw [e2] at q
    omega
theorem vm_lin0 {i L : Nat} (h : i + 6 ≤ L) (hL : L ≤ 3072) : vp_in (Int32.ofNat i) L := by
  have := vm_lin (j := 0) h hL (by omega)
  rwa [show Int32.ofNat 0 = 0 from rfl, Int32.add_zero] at this
theorem vm_rk0 {a b k : Nat} (h : vm_rk a b k = 0) : k = 0 := by
  unfold vm_rk at h
  split at h
  · assumption
  · split at h
    · exact absurd h (by decide)
    · split at h
      · exact absurd h (by decide)
      · exact absurd h (by decide)
theorem vm_cmp0 (x : Int64) : lg_cmp x x = 0 := by
  unfold lg_cmp
  rw [if_neg (by rw [gt_iff_lt, Int64.lt_iff_toInt_lt]; omega), if_pos rfl]
section VMLH
variable {p : Program} {l : Launch} {e : Env} {R : Room} {s : State} {m : MethodId} {args : Array Value} {below : List Frame} {meth : Method} {c : Code} {H : Heap} {locs : List Loc} {cells slots mc ms : Nat} {Q : State → Prop}
variable {y : MethodName} {bytes cc : ByteArray} {maxL nL n index : Nat} {ret : Option FieldType} {ws : List Cond} {rm : Room} {Ts : List Cond} {own C : String} {b : Addr} {As rest st0 : List Value} {pc : Nat} {ls : Array Slot} {D : va_G} {cI cB cJ cD : ClassId} {ww wc w1 X Y Xc X1 Y1 : va_W} {sa : Nat → Nat} {A0 : Nat → Prop} {hh : List (Nat × Nat × Nat × Nat)}
theorem vm_hS {post : Int32 → Unit → Prop} (S : CallFix p m c cc nL s args Ts own) (hKL : va_K D vwCl (vm_tyL cI cB cJ cD) s) (hN : vm_N s) (hY : vm_Y sa s) (hZ : vm_Z A0 s s.heap) (hC9 : vm_C s) (hP : va_P D vwCl ww H) (hD : va_D A0 ww) (hS : va_S A0 s.heap H locs) (hA : ∀ q, s.heap.size ≤ q → A0 q) (hsz : ls.size = nL) (hf : cells + mc ≤ R.cells ∧ slots + ms ≤ R.slots)
    (hM : Met l y ws rm (vm_prl As D wc cI cB cJ cD H.size sa) (va_Qi post (fun _ t => va_P D vwCl w1 t.heap) (va_A wc H.size)) mc ms (va_A wc H.size)) (cw : vx_CSW R s args own index y bytes maxL ret hh ws rm mc ms n) (is : List Nat) (hC : is.map (fun i => ww[i]?) = wc.map some) (hnd : va_nd is = true) (h1 : w1.map (fun q => q.1) = wc.map (fun q => q.1)) (hn : As.length = n) (hst : st0 = As.reverse ++ rest) (hW : (rest.map fun v => v.category).sum ≤ 8) (hdg : decode cc pc = .ok (.invokestatic index, 3))
    (kk : ∀ (r : Int32) (H1 : Heap) (locs1 : List Loc), post r () → va_P D vwCl (vm_mg ww is w1) H1 → va_D A0 (vm_mg ww is w1) → va_S A0 s.heap H1 locs1 → W p l e R s m args below meth c H1 locs1 (cells + mc) (slots + ms) Q (F0 m (pc + 3) ls (.int r :: rest))) : W p l e R s m args below meth c H locs cells slots Q (F0 m pc ls st0) := by
  have hPc := hP.sub is (vm_fm hC)
  have hDc := hD.sub is hnd hC
  have hFc := va_free (wc := wc) hD hS hA is hC
  refine va_calli (vx_runSW S hM cw ⟨vm_blindl, fun U hU hW => ⟨rfl, by rw [hU], by rw [hU]; exact hPc, va_K.moved hW.alike hKL, vm_N.warm hW hN, hDc.weaken (fun _ _ _ _ => trivial), vm_Y.warm hW hY, hZ.to (fun q h2 h3 => hS.2.1 q h2 h3) hFc hU hW.alike, vm_C.moved hW.alike hC9⟩⟩ rfl hn hsz hst (lv_room hW) hdg ⟨hf.1, hf.2⟩) hS (fun q _ h => hFc q h) hFc (fun r u t H1 locs1 ht hvm hw hB hz1 hk1 hS1 => ?_)
  subst ht
  obtain ⟨hP2, hD2⟩ := vm_join hP hD is hC h1 hk1 hB
  exact kk r _ locs1 hw hP2 hD2 hS1
theorem vm_hST {post : Int32 → Unit → Prop} (S : CallFix p m c cc nL s args Ts own) (hKL : va_K D vwCl (vm_tyL cI cB cJ cD) s) (hN : vm_N s) (hY9 : vm_Y sa s) (hZ : vm_Z A0 s s.heap) (hC9 : vm_C s) (hww : ww = X ++ Y) (hP : va_P D vwCl ww H) (hD : va_D A0 ww) (hS : va_S A0 s.heap H locs) (hA : ∀ q, s.heap.size ≤ q → A0 q) (hsz : ls.size = nL) (hf : cells + mc ≤ R.cells ∧ slots + ms ≤ R.slots)
    (hM : Met l y ws rm (vm_prl As D (Xc ++ Y) cI cB cJ cD H.size sa) (va_Qi post (fun _ t => va_P D vwCl (X1 ++ Y1) t.heap) (va_A (Xc ++ Y) H.size)) mc ms (va_A (Xc ++ Y) H.size)) (cw : vx_CSW R s args own index y bytes maxL ret hh ws rm mc ms n) (is : List Nat) (hC : is.map (fun i => X[i]?) = Xc.map some) (hnd : va_nd is = true) (h1 : X1.map (fun q => q.1) = Xc.map (fun q => q.1)) (hY : Y1.map (fun q => q.1) = Y.map (fun q => q.1)) (hn : As.length = n) (hst : st0 = As.reverse ++ rest) (hW : (rest.map fun v => v.category).sum ≤ 8) (hdg : decode cc pc = .ok (.invokestatic index, 3))
    (kk : ∀ (r : Int32) (H1 : Heap) (locs1 : List Loc), post r () → va_P D vwCl (vm_mg X is X1 ++ Y1) H1 → va_D A0 (vm_mg X is X1 ++ Y1) → va_S A0 s.heap H1 locs1 → W p l e R s m args below meth c H1 locs1 (cells + mc) (slots + ms) Q (F0 m (pc + 3) ls (.int r :: rest))) : W p l e R s m args below meth c H locs cells slots Q (F0 m pc ls st0) := by
  subst hww
  have hm := vm_tmg (Y := Y) hC h1 hY
  exact vm_hS (w1 := X1 ++ Y1) S hKL hN hY9 hZ hC9 hP hD hS hA hsz hf hM cw (is ++ List.range' X.length Y.length) (vm_tC hC) (vm_tnd hC hnd) (vm_t1 h1 hY) hn hst hW hdg (fun r H1 locs1 a0 a1 a2 a3 => kk r H1 locs1 a0 (hm ▸ a1) (hm ▸ a2) a3)
end VMLH
