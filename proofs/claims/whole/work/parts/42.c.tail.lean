/-! WORLDS WITH A RING BEHIND: the ring is not opened -/
def vm_ring (cI : ClassId) (q : Nat → Nat) (RB : Nat → vm_BK) : va_W := [((q 12), .inr (0, [.ref (q 13), .ref (q 16), .ref (q 18), .int (bk_day (RB 0)), .int (bk_grace (RB 0)), .int (bk_longest (RB 0)), .int (bk_spent (RB 0)), .int (bk_spentIn (RB 0)), .int (bk_spendings (RB 0)), .int (bk_urgentSp (RB 0)), .int (bk_dropped (RB 0)), .int (bk_lapsedLate (RB 0))])), ((q 13), .inr (2, [.ref (q 14)])), ((q 14), .inr (3, [.ref (q 15), .int 12, .int 8, .int (bk_rm (RB 0))])), ((q 15), .inl (cI, 96, .inl (bk_fm (RB 0)))), ((q 16), .inr (3, [.ref (q 17), .int 6, .int 6, .int (bk_rq (RB 0))])), ((q 17), .inl (cI, 36, .inl (bk_fr (RB 0)))), ((q 18), .inl (cI, 8, .inl (bk_ap (RB 0)))), ((q 19), .inr (0, [.ref (q 20), .ref (q 23), .ref (q 25), .int (bk_day (RB 1)), .int (bk_grace (RB 1)), .int (bk_longest (RB 1)), .int (bk_spent (RB 1)), .int (bk_spentIn (RB 1)), .int (bk_spendings (RB 1)), .int (bk_urgentSp (RB 1)), .int (bk_dropped (RB 1)), .int (bk_lapsedLate (RB 1))])), ((q 20), .inr (2, [.ref (q 21)])), ((q 21), .inr (3, [.ref (q 22), .int 12, .int 8, .int (bk_rm (RB 1))])), ((q 22), .inl (cI, 96, .inl (bk_fm (RB 1)))), ((q 23), .inr (3, [.ref (q 24), .int 6, .int 6, .int (bk_rq (RB 1))])), ((q 24), .inl (cI, 36, .inl (bk_fr (RB 1)))), ((q 25), .inl (cI, 8, .inl (bk_ap (RB 1)))), ((q 26), .inr (0, [.ref (q 27), .ref (q 30), .ref (q 32), .int (bk_day (RB 2)), .int (bk_grace (RB 2)), .int (bk_longest (RB 2)), .int (bk_spent (RB 2)), .int (bk_spentIn (RB 2)), .int (bk_spendings (RB 2)), .int (bk_urgentSp (RB 2)), .int (bk_dropped (RB 2)), .int (bk_lapsedLate (RB 2))])), ((q 27), .inr (2, [.ref (q 28)])), ((q 28), .inr (3, [.ref (q 29), .int 12, .int 8, .int (bk_rm (RB 2))])), ((q 29), .inl (cI, 96, .inl (bk_fm (RB 2)))), ((q 30), .inr (3, [.ref (q 31), .int 6, .int 6, .int (bk_rq (RB 2))])), ((q 31), .inl (cI, 36, .inl (bk_fr (RB 2)))), ((q 32), .inl (cI, 8, .inl (bk_ap (RB 2)))), ((q 33), .inr (0, [.ref (q 34), .ref (q 37), .ref (q 39), .int (bk_day (RB 3)), .int (bk_grace (RB 3)), .int (bk_longest (RB 3)), .int (bk_spent (RB 3)), .int (bk_spentIn (RB 3)), .int (bk_spendings (RB 3)), .int (bk_urgentSp (RB 3)), .int (bk_dropped (RB 3)), .int (bk_lapsedLate (RB 3))])), ((q 34), .inr (2, [.ref (q 35)])), ((q 35), .inr (3, [.ref (q 36), .int 12, .int 8, .int (bk_rm (RB 3))])), ((q 36), .inl (cI, 96, .inl (bk_fm (RB 3)))), ((q 37), .inr (3, [.ref (q 38), .int 6, .int 6, .int (bk_rq (RB 3))])), ((q 38), .inl (cI, 36, .inl (bk_fr (RB 3)))), ((q 39), .inl (cI, 8, .inl (bk_ap (RB 3)))), ((q 40), .inr (0, [.ref (q 41), .ref (q 44), .ref (q 46), .int (bk_day (RB 4)), .int (bk_grace (RB 4)), .int (bk_longest (RB 4)), .int (bk_spent (RB 4)), .int (bk_spentIn (RB 4)), .int (bk_spendings (RB 4)), .int (bk_urgentSp (RB 4)), .int (bk_dropped (RB 4)), .int (bk_lapsedLate (RB 4))])), ((q 41), .inr (2, [.ref (q 42)])), ((q 42), .inr (3, [.ref (q 43), .int 12, .int 8, .int (bk_rm (RB 4))])), ((q 43), .inl (cI, 96, .inl (bk_fm (RB 4)))), ((q 44), .inr (3, [.ref (q 45), .int 6, .int 6, .int (bk_rq (RB 4))])), ((q 45), .inl (cI, 36, .inl (bk_fr (RB 4)))), ((q 46), .inl (cI, 8, .inl (bk_ap (RB 4)))), ((q 47), .inr (0, [.ref (q 48), .ref (q 51), .ref (q 53), .int (bk_day (RB 5)), .int (bk_grace (RB 5)), .int (bk_longest (RB 5)), .int (bk_spent (RB 5)), .int (bk_spentIn (RB 5)), .int (bk_spendings (RB 5)), .int (bk_urgentSp (RB 5)), .int (bk_dropped (RB 5)), .int (bk_lapsedLate (RB 5))])), ((q 48), .inr (2, [.ref (q 49)])), ((q 49), .inr (3, [.ref (q 50), .int 12, .int 8, .int (bk_rm (RB 5))])), ((q 50), .inl (cI, 96, .inl (bk_fm (RB 5)))), ((q 51), .inr (3, [.ref (q 52), .int 6, .int 6, .int (bk_rq (RB 5))])), ((q 52), .inl (cI, 36, .inl (bk_fr (RB 5)))), ((q 53), .inl (cI, 8, .inl (bk_ap (RB 5))))]
theorem vm_ring_a (cI : ClassId) (q : Nat → Nat) (RB RC : Nat → vm_BK) : (vm_ring cI q RB).map (fun x => x.1) = (vm_ring cI q RC).map (fun x => x.1) := rfl
theorem vm_nd_iff : ∀ l : List Nat, va_nd l = true ↔ l.Nodup := by
  intro l
  induction l with
  | nil => simp [va_nd]
  | cons a l ih => simp [va_nd, ih]
theorem vm_mg_app : ∀ (is js : List Nat) (ww a b : va_W), a.length = is.length → vm_mg ww (is ++ js) (a ++ b) = vm_mg (vm_mg ww is a) js b := by
  intro is
  induction is with
  | nil => intro js ww a b h; cases a with
    | nil => rfl
    | cons x y => simp at h
  | cons i is ih => intro js ww a b h; cases a with
    | nil => simp at h
    | cons x y => exact ih js (ww.set i x) y b (by simpa using h)
theorem vm_mg_left : ∀ (is : List Nat) (X Y a : va_W), (∀ i ∈ is, i < X.length) → vm_mg (X ++ Y) is a = vm_mg X is a ++ Y := by
  intro is
  induction is with
  | nil => intro X Y a h; cases a <;> rfl
  | cons i is ih => intro X Y a h; cases a with
    | nil => rfl
    | cons x y =>
      have hi : i < X.length := h i List.mem_cons_self
      rw [vm_mg, vm_mg, List.set_append_left _ _ hi]
      exact ih _ _ _ (fun j hj => by rw [List.length_set]; exact h j (List.mem_cons_of_mem _ hj))
theorem vm_mg_right : ∀ (Y Y1 X : va_W), Y1.length = Y.length → vm_mg (X ++ Y) (List.range' X.length Y.length) Y1 = X ++ Y1 := by
  intro Y
  induction Y with
  | nil => intro Y1 X h; cases Y1 with
    | nil => rfl
    | cons a b => simp at h
  | cons y Y ih => intro Y1 X h; cases Y1 with
    | nil => simp at h
    | cons a b =>
      rw [List.length_cons, List.range'_succ, vm_mg]
      have e : (X ++ y :: Y).set X.length a = (X ++ [a]) ++ Y := by
        rw [List.set_append_right _ _ (Nat.le_refl _), Nat.sub_self]
        simp
      rw [e]
      have e2 : X.length + 1 = (X ++ [a]).length := by simp
      rw [e2, ih b (X ++ [a]) (by simpa using h)]
      simp
section VMT
variable {A0 : Nat → Prop} {D : va_G} {cl : List vw_C} {X Y Xc X1 Y1 ww wc : va_W} {H H1 H0 : Heap} {is : List Nat} {locs : List Loc}
theorem vm_tC (hC : is.map (fun i => X[i]?) = Xc.map some) : (is ++ List.range' X.length Y.length).map (fun i => (X ++ Y)[i]?) = (Xc ++ Y).map some := by
  have hlt : ∀ i ∈ is, i < X.length := by
    intro i hi
    obtain ⟨k, hk⟩ := List.getElem?_of_mem hi
    obtain ⟨q, -, h2⟩ := vm_at' hC hk
    exact (List.getElem?_eq_some_iff.mp h2).1
  rw [List.map_append, List.map_append, ← hC]
  congr 1
  · exact List.map_congr_left fun i hi => List.getElem?_append_left (hlt i hi)
  · apply List.ext_getElem?
    intro k
    rw [List.getElem?_map, List.getElem?_map]
    by_cases h : k < Y.length
    · rw [List.getElem?_range' h, List.getElem?_eq_getElem h]
      simp
      rw [List.getElem?_append_right (Nat.le_add_right _ _), Nat.add_sub_cancel_left, List.getElem?_eq_getElem h]
    · rw [List.getElem?_eq_none (by simpa using h), List.getElem?_eq_none (by omega)]
      rfl
theorem vm_tlt (hC : is.map (fun i => X[i]?) = Xc.map some) : ∀ i ∈ is, i < X.length := by
  intro i hi
  obtain ⟨k, hk⟩ := List.getElem?_of_mem hi
  obtain ⟨q, -, h2⟩ := vm_at' hC hk
  exact (List.getElem?_eq_some_iff.mp h2).1
theorem vm_tnd (hC : is.map (fun i => X[i]?) = Xc.map some) (hnd : va_nd is = true) : va_nd (is ++ List.range' X.length Y.length) = true := by
  rw [vm_nd_iff] at hnd ⊢
  refine List.nodup_append.mpr ⟨hnd, List.nodup_range', ?_⟩
  intro a ha b hb e
  have h1 := vm_tlt hC a ha
  have h2 := (List.mem_range'_1.mp hb).1
  omega
theorem vm_tmg (hC : is.map (fun i => X[i]?) = Xc.map some) (h1 : X1.map (fun q => q.1) = Xc.map (fun q => q.1)) (hY : Y1.map (fun q => q.1) = Y.map (fun q => q.1)) : vm_mg (X ++ Y) (is ++ List.range' X.length Y.length) (X1 ++ Y1) = vm_mg X is X1 ++ Y1 := by
  have l1 : X1.length = is.length := by
    have a := congrArg List.length h1
    have b := congrArg List.length hC
    simp at a b
    omega
  have l2 : Y1.length = Y.length := by
    have a := congrArg List.length hY
    simpa using a
  rw [vm_mg_app _ _ _ _ _ l1, vm_mg_left _ _ _ _ (vm_tlt hC)]
  have e : X.length = (vm_mg X is X1).length := (vm_mg_len is X X1).symm
  rw [e]
  exact vm_mg_right Y Y1 (vm_mg X is X1) l2
theorem vm_t1 (h1 : X1.map (fun q => q.1) = Xc.map (fun q => q.1)) (hY : Y1.map (fun q => q.1) = Y.map (fun q => q.1)) : (X1 ++ Y1).map (fun q => q.1) = (Xc ++ Y).map (fun q => q.1) := by
  rw [List.map_append, List.map_append, h1, hY]
end VMT
section VMTC
variable {p : Program} {l : Launch} {e : Env} {R : Room} {s : State} {m : MethodId} {args : Array Value} {below : List Frame} {meth : Method} {c : Code} {H : Heap} {locs : List Loc} {cells slots mc ms : Nat} {Q : State → Prop}
variable {y : MethodName} {bytes cc : ByteArray} {maxL nL n index : Nat} {ret : Option FieldType} {ws : List Cond} {rm : Room} {Ts : List Cond} {own C : String} {b : Addr} {As rest st0 : List Value} {pc : Nat} {ls : Array Slot} {D : va_G} {cI cB : ClassId} {ww X Y Xc X1 Y1 : va_W} {T : u_T} {N : Nat} {fs : List Value} {sa : Nat → Nat} {k0 : Nat} {A0 : Nat → Prop} {H0 : Heap}
theorem vm_rwVvT {A0 : Nat → Prop} {H0 : Heap} (S : CallFix p m c cc nL s args Ts own) (hK : va_K D vwCl (vm_ty cI cB) s) (hN : vm_N s) (hww : ww = X ++ Y) (hP : va_P D vwCl ww H) (hD : va_D A0 ww) (hS : va_S A0 H0 H locs) (hA : ∀ q, H0.size ≤ q → A0 q) (hsz : ls.size = nL) (hf : cells ≤ R.cells ∧ slots ≤ R.slots)
    (hM : Met l y ws rm (vm_prw (.ref b :: As) D (Xc ++ Y) cI cB H.size) (va_Qv (fun _ : Unit => True) (fun _ t => va_P D vwCl (X1 ++ Y1) t.heap) (va_A (Xc ++ Y) H.size)) 0 0 (va_A (Xc ++ Y) H.size)) (cw : CallW R s args own C index y bytes maxL ret ws rm 0 0 n) (is : List Nat) (hC : is.map (fun i => X[i]?) = Xc.map some) (hnd : va_nd is = true) (h1 : X1.map (fun q => q.1) = Xc.map (fun q => q.1)) (hY : Y1.map (fun q => q.1) = Y.map (fun q => q.1)) (ci : Nat) (hr0 : Xc[0]? = some (b, .inr (ci, fs))) (hcl : vwCl[ci]? = some (C, T, N)) (hn : As.length = n) (hst : st0 = As.reverse ++ .ref b :: rest) (hW : (rest.map fun v => v.category).sum ≤ 8) (hdg : decode cc pc = .ok (.invokevirtual index, 3))
    (kk : ∀ (H1 : Heap) (locs1 : List Loc), va_P D vwCl (vm_mg X is X1 ++ Y1) H1 → va_D A0 (vm_mg X is X1 ++ Y1) → va_S A0 H0 H1 locs1 → W p l e R s m args below meth c H1 locs1 cells slots Q (F0 m (pc + 3) ls rest)) : W p l e R s m args below meth c H locs cells slots Q (F0 m pc ls st0) := by
  subst hww
  have hm := vm_tmg (Y := Y) hC h1 hY
  have hr1 : (Xc ++ Y)[0]? = some (b, .inr (ci, fs)) := by rw [List.getElem?_append_left (List.getElem?_eq_some_iff.mp hr0).1]; exact hr0
  exact vm_rwVv (w1 := X1 ++ Y1) S hK hN hP hD hS hA hsz hf hM cw (is ++ List.range' X.length Y.length) (vm_tC hC) (vm_tnd hC hnd) (vm_t1 h1 hY) ci hr1 hcl hn hst hW hdg (fun H1 locs1 a1 a2 a3 => kk H1 locs1 (hm ▸ a1) (hm ▸ a2) a3)
theorem vm_rwVT {post : Int32 → Unit → Prop} {A0 : Nat → Prop} {H0 : Heap} (S : CallFix p m c cc nL s args Ts own) (hK : va_K D vwCl (vm_ty cI cB) s) (hN : vm_N s) (hww : ww = X ++ Y) (hP : va_P D vwCl ww H) (hD : va_D A0 ww) (hS : va_S A0 H0 H locs) (hA : ∀ q, H0.size ≤ q → A0 q) (hsz : ls.size = nL) (hf : cells ≤ R.cells ∧ slots ≤ R.slots)
    (hM : Met l y ws rm (vm_prw (.ref b :: As) D (Xc ++ Y) cI cB H.size) (va_Qi post (fun _ t => va_P D vwCl (X1 ++ Y1) t.heap) (va_A (Xc ++ Y) H.size)) 0 0 (va_A (Xc ++ Y) H.size)) (cw : CallW R s args own C index y bytes maxL ret ws rm 0 0 n) (is : List Nat) (hC : is.map (fun i => X[i]?) = Xc.map some) (hnd : va_nd is = true) (h1 : X1.map (fun q => q.1) = Xc.map (fun q => q.1)) (hY : Y1.map (fun q => q.1) = Y.map (fun q => q.1)) (ci : Nat) (hr0 : Xc[0]? = some (b, .inr (ci, fs))) (hcl : vwCl[ci]? = some (C, T, N)) (hn : As.length = n) (hst : st0 = As.reverse ++ .ref b :: rest) (hW : (rest.map fun v => v.category).sum ≤ 8) (hdg : decode cc pc = .ok (.invokevirtual index, 3))
    (kk : ∀ (r : Int32) (H1 : Heap) (locs1 : List Loc), post r () → va_P D vwCl (vm_mg X is X1 ++ Y1) H1 → va_D A0 (vm_mg X is X1 ++ Y1) → va_S A0 H0 H1 locs1 → W p l e R s m args below meth c H1 locs1 cells slots Q (F0 m (pc + 3) ls (.int r :: rest))) : W p l e R s m args below meth c H locs cells slots Q (F0 m pc ls st0) := by
  subst hww
  have hm := vm_tmg (Y := Y) hC h1 hY
  have hr1 : (Xc ++ Y)[0]? = some (b, .inr (ci, fs)) := by rw [List.getElem?_append_left (List.getElem?_eq_some_iff.mp hr0).1]; exact hr0
  exact vm_rwV (w1 := X1 ++ Y1) S hK hN hP hD hS hA hsz hf hM cw (is ++ List.range' X.length Y.length) (vm_tC hC) (vm_tnd hC hnd) (vm_t1 h1 hY) ci hr1 hcl hn hst hW hdg (fun r H1 locs1 a0 a1 a2 a3 => kk r H1 locs1 a0 (hm ▸ a1) (hm ▸ a2) a3)
theorem vm_xViT {v : Int32} (S : CallFix p m c cc nL s args Ts own) (hK : va_K D vwCl (vm_ty cI cB) s) (hN : vm_N s) (hY9 : vm_Y sa s) (hZ : vm_Z A0 s s.heap) (hww : ww = X ++ Y) (hP : va_P D vwCl ww H) (hD : va_D A0 ww) (hS : va_S A0 s.heap H locs) (hA : ∀ q, s.heap.size ≤ q → A0 q) (hsz : ls.size = nL) (hf : cells + mc ≤ R.cells ∧ slots + ms ≤ R.slots)
    (hM : vx_Met l y ws rm (vm_prx (.ref b :: As) D (Xc ++ Y) cI cB H.size sa) (va_Qi (fun (r : Int32) (_ : Unit) => k0 = 0 ∧ r = v) (fun _ t => va_P D vwCl (X1 ++ Y1) t.heap) (va_A (Xc ++ Y) H.size)) (vm_XC D (X1 ++ Y1) k0 (va_A (Xc ++ Y) H.size)) mc ms (va_A (Xc ++ Y) H.size)) (cw : CallW R s args own C index y bytes maxL ret ws rm mc ms n) (is : List Nat) (hC : is.map (fun i => X[i]?) = Xc.map some) (hnd : va_nd is = true) (h1 : X1.map (fun q => q.1) = Xc.map (fun q => q.1)) (hY : Y1.map (fun q => q.1) = Y.map (fun q => q.1)) (ci : Nat) (hr0 : Xc[0]? = some (b, .inr (ci, fs))) (hcl : vwCl[ci]? = some (C, T, N)) (hn : As.length = n) (hst : st0 = As.reverse ++ .ref b :: rest) (hW : (rest.map fun v => v.category).sum ≤ 8) (hdg : decode cc pc = .ok (.invokevirtual index, 3))
    (kx : ∀ (E : String) (ce : Cell) (q9 : Addr) (H1 : Heap) (locs1 : List Loc), E = vm_xc k0 → k0 ≠ 0 → va_P D vwCl (vm_mg X is X1 ++ Y1) H1 → va_D A0 (vm_mg X is X1 ++ Y1) → va_S A0 s.heap H1 locs1 → H1[q9]? = some ce → ce.vm = .none → s.vm.findClass E = some ce.cls → vx_W p l e R s m args below meth c H1 locs1 (cells + mc) (slots + ms) Q (F0 m pc ls rest) q9)
    (kk : ∀ (H1 : Heap) (locs1 : List Loc), k0 = 0 → va_P D vwCl (vm_mg X is X1 ++ Y1) H1 → va_D A0 (vm_mg X is X1 ++ Y1) → va_S A0 s.heap H1 locs1 → W p l e R s m args below meth c H1 locs1 (cells + mc) (slots + ms) Q (F0 m (pc + 3) ls (.int v :: rest))) : W p l e R s m args below meth c H locs cells slots Q (F0 m pc ls st0) := by
  subst hww
  have hm := vm_tmg (Y := Y) hC h1 hY
  have hr1 : (Xc ++ Y)[0]? = some (b, .inr (ci, fs)) := by rw [List.getElem?_append_left (List.getElem?_eq_some_iff.mp hr0).1]; exact hr0
  exact vm_xVi (w1 := X1 ++ Y1) S hK hN hY9 hZ hP hD hS hA hsz hf hM cw (is ++ List.range' X.length Y.length) (vm_tC hC) (vm_tnd hC hnd) (vm_t1 h1 hY) ci hr1 hcl hn hst hW hdg (fun E ce q9 H1 locs1 a0 a4 a1 a2 a3 a5 a6 a7 => kx E ce q9 H1 locs1 a0 a4 (hm ▸ a1) (hm ▸ a2) a3 a5 a6 a7) (fun H1 locs1 a0 a1 a2 a3 => kk H1 locs1 a0 (hm ▸ a1) (hm ▸ a2) a3)
end VMTC
