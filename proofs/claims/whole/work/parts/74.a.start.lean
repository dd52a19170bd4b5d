/-! THE START -/
theorem rr_start : RRf 0 (fun _ => 0) 0 (fun _ => 0) (fun _ => 0) 0 3 4 0 0 0 0 0 0 0 0 (fun _ => vm_bk0) 0 (fun _ => 0) 0 0 0 0 0 0 0 (upd (upd (fun _ => 0) (Int32.toNatClampNeg 0) 3) (Int32.toNatClampNeg 1) 4) (fun _ => 0) (fun _ => 0) (fun _ => 0) := by
  refine RR_mk ?_ ?_ (tx0 _ _)
  · refine ⟨0, 0, rfl, rfl, ⟨by omega, ⟨?_, fun k hk => absurd hk (by omega)⟩, fun k hk => absurd hk (by omega)⟩, ⟨by omega, ⟨?_, fun k hk => absurd hk (by omega)⟩, fun k hk => absurd hk (by omega)⟩, ⟨0, by omega, rfl⟩, ?_, fun p hp => ?_⟩
    · rw [cn_0, cn_1, upd_n _ _ (by omega), upd_n _ _ (by omega)]
      rfl
    · rw [cn_0, cn_1, upd_n _ _ (by omega), upd_n _ _ (by omega)]
      rfl
    · have out : ∀ i : Nat, i ≠ 0 → i ≠ 1 → upd (upd (fun _ => (0 : Int32)) 0 3) 1 4 i = 0 := fun i h1 h2 => by rw [upd_n _ _ h2, upd_n _ _ h1]
      rw [cn_0, cn_1]
      exact ⟨by rw [upd_n _ _ (by omega), upd_s], by rw [upd_s], out 2 (by omega) (by omega), out 5 (by omega) (by omega), out 6 (by omega) (by omega), out 7 (by omega) (by omega), out 8 (by omega) (by omega), out 9 (by omega) (by omega), out 10 (by omega) (by omega)⟩
    · rw [cn_0, cn_1, upd_n _ _ (by omega), upd_n _ _ (by omega)]
  · exact ⟨0, 0, by omega, by omega, rfl, rfl, rfl, fun i hi => absurd hi (by omega)⟩
theorem sims_ : Sims RRf := ⟨sim_give, sim_withdraw, sim_limit, sim_need, sim_spend, sim_urge, sim_approve, sim_takeBack, sim_pass, sim_set, sim_append, sim_clearBuffer, sim_firstError, sim_run, sim_undo, sim_mandate, sim_request, sim_person, sim_count, sim_setting, sim_whyNot, sim_room, sim_under, sim_narrowest, sim_lapsesIn, sim_usedShare, sim_digest⟩
theorem whole_start {p : Program} {e : Env} {s : State} {m : MethodId} {below : List Frame} {meth : Method} {c : Code} (l : Launch) (hflags : l.flags = flags0) {b L : Nat} {xs : Nat → Int32} (hL : L ≤ 3072) (C0 : lw_At p s m meth c b L xs) : W p l e room_1 s m #[Value.ref b] below meth c s.heap [] 0 0 (lw_Z below #[Value.ref b] s) (entryFrame m ([Value.ref b] : List Value).toArray 9) := whole_start0 sims_ rr_start l hflags hL C0
