def Sims (RR : vm_RT) : Prop := Sim_give RR ∧ Sim_withdraw RR ∧ Sim_limit RR ∧ Sim_need RR ∧ Sim_spend RR ∧ Sim_urge RR ∧ Sim_approve RR ∧ Sim_takeBack RR ∧ Sim_pass RR ∧ Sim_set RR ∧ Sim_append RR ∧ Sim_clearBuffer RR ∧ Sim_firstError RR ∧ Sim_run RR ∧ Sim_undo RR ∧ Sim_mandate RR ∧ Sim_request RR ∧ Sim_person RR ∧ Sim_count RR ∧ Sim_setting RR ∧ Sim_whyNot RR ∧ Sim_room RR ∧ Sim_under RR ∧ Sim_narrowest RR ∧ Sim_lapsesIn RR ∧ Sim_usedShare RR ∧ Sim_digest RR
theorem vm_lcond {i L : Nat} (hL : L ≤ 3072) (hi : i ≤ 3100) : (Int32.ofNat L - 6 < Int32.ofNat i) ↔ L < i + 6 := by
  have e1 : (Int32.ofNat i).toInt = (i : Int) := Int32.toInt_ofNat_of_lt (by omega)
  have e2 : (Int32.ofNat L).toInt = (L : Int) := Int32.toInt_ofNat_of_lt (by omega)
  have e3 : (Int32.ofNat L - 6).toInt = (L : Int) - 6 := by
    rw [Int32.toInt_sub, e2, show (6 : Int32).toInt = 6 from rfl, Int.bmod_eq_of_le (by omega) (by omega)]
  rw [Int32.lt_iff_toInt_lt, e1, e3]
  omega
theorem vm_li {i : Nat} : Int32.ofNat i + 6 = Int32.ofNat (i + 6) := (Int32.ofNat_add i 6).symm
set_option maxHeartbeats 4000000 in
set_option maxRecDepth 100000 in
theorem law_next {p : Program} {l : Launch} {e : Env} {s : State} {m : MethodId} {below : List Frame} {meth : Method} {c : Code} {b L : Nat} {xs : Nat → Int32} {dC : Nat → ClassId} {dI : Nat → Nat → Nat} {cI cB cJ cD : ClassId} {q : Nat → Nat} {ho hd g0 g1 g2 g3 g4 : Nat} {sa : Nat → Nat} {Q : State → Prop} {RR : vm_RT} (F : vm_LF p s m meth c b L xs dC dI cI cB cJ cD sa) {i cells slots : Nat} (kk : vm_LK p l e s m below meth c b dC dI cI cB cJ cD q ho hd g0 g1 g2 g3 g4 Q RR (i + 6) cells slots 28) : vm_LK p l e s m below meth c b dC dI cI cB cJ cD q ho hd g0 g1 g2 g3 g4 Q RR i cells slots 1757 := by
  obtain ⟨hx, hb, hr, hml, hown, hts, hX, hbl, hKL, hN, hY, hZ, hC9⟩ := F
  intro rm fm rq fr ap day grace longest spent spentIn spendings urgentSp dropped lapsedLate oldest kept RB ln tx states rl thr rd num due hash z hi rx pa fo fd H locs ls hR hP hD hS hl
  refine lv_iinc (v := Int32.ofNat i + 6) (lv' := [(5, .int (Int32.ofNat i + 6)), (4, .ref hd), (3, .ref ho), (2, .ref g0), (1, .ref (q 0)), (0, .ref b)]) hx hb dL_law_1757 hl (k := 0) rfl rfl (by decide) rfl (fun ls hl => ?_)
  refine lv_goto (tgt := 28) hx hb dL_law_1760 (by decide) ?_
  rw [vm_li] at hl
  exact kk _ _ _ _ _ _ _ _ _ _ _ _ _ _ _ _ _ _ _ _ _ _ _ _ _ _ _ _ _ _ _ _ _ _ _ hR hP hD hS hl
set_option maxHeartbeats 4000000 in
set_option maxRecDepth 100000 in
theorem law_loop {p : Program} {l : Launch} {e : Env} {s : State} {m : MethodId} {below : List Frame} {meth : Method} {c : Code} {b L : Nat} {xs : Nat → Int32} {dC : Nat → ClassId} {dI : Nat → Nat → Nat} {cI cB cJ cD : ClassId} {q : Nat → Nat} {ho hd g0 g1 g2 g3 g4 : Nat} {sa : Nat → Nat} {RR : vm_RT} (hsim : Sims RR) (hL : L ≤ 3072) (F : vm_LF p s m meth c b L xs dC dI cI cB cJ cD sa) (hst : l.stackTraces = false) (hlocks : meth.locks = false) : ∀ (n i cells slots : Nat), i ≤ 3078 → L < 6 * n + i → cells + 6 * n ≤ 601024 → slots + 36 * n ≤ 7293034 → vm_LK p l e s m below meth c b dC dI cI cB cJ cD q ho hd g0 g1 g2 g3 g4 (lw_Z below #[Value.ref b] s) RR i cells slots 28 := by
  obtain ⟨h_give, h_withdraw, h_limit, h_need, h_spend, h_urge, h_approve, h_takeBack, h_pass, h_set, h_append, h_clearBuffer, h_firstError, h_run, h_undo, h_mandate, h_request, h_person, h_count, h_setting, h_whyNot, h_room, h_under, h_narrowest, h_lapsesIn, h_usedShare, h_digest⟩ := hsim
  intro n
  induction n with
  | zero =>
    intro i cells slots hi hn hc hs9 rm fm rq fr ap day grace longest spent spentIn spendings urgentSp dropped lapsedLate oldest kept RB ln tx states rl thr rd num due hash z hi rx pa fo fd H locs ls hR hP hD hS hl
    obtain ⟨hx, hb, hr, hml, hown, hts, hX, hbl, hKL, hN, hY, hZ, hC9⟩ := id F
    have hbA : ¬ (fun q : Nat => s.heap.size ≤ q) b := Nat.not_le.mpr hbl
    refine lv_iload hx hb dL_law_28 (lv_at hl 0 rfl) ?_
    refine lv_aload_n hx hb dL_law_30 rfl (lv_at hl 5 rfl) ?_
    refine va_slen hx hb hX hbl hbA hS dL_law_31 ?_
    refine lv_bipush (v := 6) hx hb dL_law_32 (by decide) ?_
    refine lv_isub hx hb dL_law_34 ?_
    refine lv_icmp_gt (tgt := 1763) hx hb dL_law_35 (by decide) (fun c1 => ?_) (fun c1 => ?_)
    · refine lv_iconst (v := 1) hx hb dL_law_1763 (by decide) ?_
      refine va_forget (fun q hq => hS.2.2 q hq) ?_
      refine W.widen (k := 601024) (n := 7293034) (by omega) (by omega) ?_
      refine W.base ?_
      exact lw_ret (Drawn.sameBut.refl s.drawn lw_cs) hx hb hr hlocks dL_law_1764
    · exact absurd ((vm_lcond hL (by omega)).mpr (by omega)) c1
  | succ n ih =>
    intro i cells slots hi hn hc hs9 rm fm rq fr ap day grace longest spent spentIn spendings urgentSp dropped lapsedLate oldest kept RB ln tx states rl thr rd num due hash z hi rx pa fo fd H locs ls hR hP hD hS hl
    obtain ⟨hx, hb, hr, hml, hown, hts, hX, hbl, hKL, hN, hY, hZ, hC9⟩ := id F
    have hbA : ¬ (fun q : Nat => s.heap.size ≤ q) b := Nat.not_le.mpr hbl
    refine lv_iload hx hb dL_law_28 (lv_at hl 0 rfl) ?_
    refine lv_aload_n hx hb dL_law_30 rfl (lv_at hl 5 rfl) ?_
    refine va_slen hx hb hX hbl hbA hS dL_law_31 ?_
    refine lv_bipush (v := 6) hx hb dL_law_32 (by decide) ?_
    refine lv_isub hx hb dL_law_34 ?_
    refine lv_icmp_gt (tgt := 1763) hx hb dL_law_35 (by decide) (fun c1 => ?_) (fun c1 => ?_)
    · refine lv_iconst (v := 1) hx hb dL_law_1763 (by decide) ?_
      refine va_forget (fun q hq => hS.2.2 q hq) ?_
      refine W.widen (k := 601024) (n := 7293034) (by omega) (by omega) ?_
      refine W.base ?_
      exact lw_ret (Drawn.sameBut.refl s.drawn lw_cs) hx hb hr hlocks dL_law_1764
    · have hi6 : i + 6 ≤ L := Nat.not_lt.mp (fun q => c1 ((vm_lcond hL (by omega)).mpr q))
      have hc6 : cells + 6 ≤ 601024 := by omega
      have hs6 : slots + 36 ≤ 7293034 := by omega
      have next : ∀ cells1 slots1 : Nat, cells1 ≤ cells + 6 → slots1 ≤ slots + 36 → vm_LK p l e s m below meth c b dC dI cI cB cJ cD q ho hd g0 g1 g2 g3 g4 (lw_Z below #[Value.ref b] s) RR i cells1 slots1 1757 := fun cells1 slots1 q1 q2 => law_next F (ih (i + 6) cells1 slots1 (by omega) (by omega) (by omega) (by omega))
      refine lv_aload_n hx hb dL_law_38 rfl (lv_at hl 5 rfl) ?_
      refine lv_iload hx hb dL_law_39 (lv_at hl 0 rfl) ?_
      refine va_sld hx hb hX hbl hbA hS (vm_lin0 hi6 hL) dL_law_41 ?_
      refine lv_bipush (v := 31) hx hb dL_law_42 (by decide) ?_
      refine lv_iand hx hb dL_law_44 ?_
      by_cases c0 : (xs (Int32.toNatClampNeg (Int32.ofNat i)) &&& 31).toInt < 0 ∨ 26 < (xs (Int32.toNatClampNeg (Int32.ofNat i)) &&& 31).toInt
      · refine lv_tableOut (tgt := 1757) hx hb dL_law_45 c0 (by decide) ?_
        exact next cells slots (by omega) (by omega) _ _ _ _ _ _ _ _ _ _ _ _ _ _ _ _ _ _ _ _ _ _ _ _ _ _ _ _ _ _ _ _ _ _ _ hR hP hD hS hl
      · have c0a : ¬ (xs (Int32.toNatClampNeg (Int32.ofNat i)) &&& 31).toInt < 0 := fun q => c0 (Or.inl q)
        have c0b : ¬ 26 < (xs (Int32.toNatClampNeg (Int32.ofNat i)) &&& 31).toInt := fun q => c0 (Or.inr q)
        have hk : (xs (Int32.toNatClampNeg (Int32.ofNat i)) &&& 31).toInt = 0 ∨ (xs (Int32.toNatClampNeg (Int32.ofNat i)) &&& 31).toInt = 1 ∨ (xs (Int32.toNatClampNeg (Int32.ofNat i)) &&& 31).toInt = 2 ∨ (xs (Int32.toNatClampNeg (Int32.ofNat i)) &&& 31).toInt = 3 ∨ (xs (Int32.toNatClampNeg (Int32.ofNat i)) &&& 31).toInt = 4 ∨ (xs (Int32.toNatClampNeg (Int32.ofNat i)) &&& 31).toInt = 5 ∨ (xs (Int32.toNatClampNeg (Int32.ofNat i)) &&& 31).toInt = 6 ∨ (xs (Int32.toNatClampNeg (Int32.ofNat i)) &&& 31).toInt = 7 ∨ (xs (Int32.toNatClampNeg (Int32.ofNat i)) &&& 31).toInt = 8 ∨ (xs (Int32.toNatClampNeg (Int32.ofNat i)) &&& 31).toInt = 9 ∨ (xs (Int32.toNatClampNeg (Int32.ofNat i)) &&& 31).toInt = 10 ∨ (xs (Int32.toNatClampNeg (Int32.ofNat i)) &&& 31).toInt = 11 ∨ (xs (Int32.toNatClampNeg (Int32.ofNat i)) &&& 31).toInt = 12 ∨ (xs (Int32.toNatClampNeg (Int32.ofNat i)) &&& 31).toInt = 13 ∨ (xs (Int32.toNatClampNeg (Int32.ofNat i)) &&& 31).toInt = 14 ∨ (xs (Int32.toNatClampNeg (Int32.ofNat i)) &&& 31).toInt = 15 ∨ (xs (Int32.toNatClampNeg (Int32.ofNat i)) &&& 31).toInt = 16 ∨ (xs (Int32.toNatClampNeg (Int32.ofNat i)) &&& 31).toInt = 17 ∨ (xs (Int32.toNatClampNeg (Int32.ofNat i)) &&& 31).toInt = 18 ∨ (xs (Int32.toNatClampNeg (Int32.ofNat i)) &&& 31).toInt = 19 ∨ (xs (Int32.toNatClampNeg (Int32.ofNat i)) &&& 31).toInt = 20 ∨ (xs (Int32.toNatClampNeg (Int32.ofNat i)) &&& 31).toInt = 21 ∨ (xs (Int32.toNatClampNeg (Int32.ofNat i)) &&& 31).toInt = 22 ∨ (xs (Int32.toNatClampNeg (Int32.ofNat i)) &&& 31).toInt = 23 ∨ (xs (Int32.toNatClampNeg (Int32.ofNat i)) &&& 31).toInt = 24 ∨ (xs (Int32.toNatClampNeg (Int32.ofNat i)) &&& 31).toInt = 25 ∨ (xs (Int32.toNatClampNeg (Int32.ofNat i)) &&& 31).toInt = 26 := by omega
        rcases hk with h | h | h | h | h | h | h | h | h | h | h | h | h | h | h | h | h | h | h | h | h | h | h | h | h | h | h
        · refine lv_tableIn (off := 123) (tgt := 168) hx hb dL_law_45 c0a c0b (by rw [h]; rfl) (by decide) ?_
          exact law_give h_give hL F hst hi6 hc6 hs6 next _ _ _ _ _ _ _ _ _ _ _ _ _ _ _ _ _ _ _ _ _ _ _ _ _ _ _ _ _ _ _ _ _ _ _ hR hP hD hS hl
        · refine lv_tableIn (off := 227) (tgt := 272) hx hb dL_law_45 c0a c0b (by rw [h]; rfl) (by decide) ?_
          exact law_withdraw h_withdraw hL F hst hi6 hc6 hs6 next _ _ _ _ _ _ _ _ _ _ _ _ _ _ _ _ _ _ _ _ _ _ _ _ _ _ _ _ _ _ _ _ _ _ _ hR hP hD hS hl
        · refine lv_tableIn (off := 283) (tgt := 328) hx hb dL_law_45 c0a c0b (by rw [h]; rfl) (by decide) ?_
          exact law_limit h_limit hL F hst hi6 hc6 hs6 next _ _ _ _ _ _ _ _ _ _ _ _ _ _ _ _ _ _ _ _ _ _ _ _ _ _ _ _ _ _ _ _ _ _ _ hR hP hD hS hl
        · refine lv_tableIn (off := 363) (tgt := 408) hx hb dL_law_45 c0a c0b (by rw [h]; rfl) (by decide) ?_
          exact law_need h_need hL F hst hi6 hc6 hs6 next _ _ _ _ _ _ _ _ _ _ _ _ _ _ _ _ _ _ _ _ _ _ _ _ _ _ _ _ _ _ _ _ _ _ _ hR hP hD hS hl
        · refine lv_tableIn (off := 431) (tgt := 476) hx hb dL_law_45 c0a c0b (by rw [h]; rfl) (by decide) ?_
          exact law_spend h_spend hL F hst hi6 hc6 hs6 next _ _ _ _ _ _ _ _ _ _ _ _ _ _ _ _ _ _ _ _ _ _ _ _ _ _ _ _ _ _ _ _ _ _ _ hR hP hD hS hl
        · refine lv_tableIn (off := 499) (tgt := 544) hx hb dL_law_45 c0a c0b (by rw [h]; rfl) (by decide) ?_
          exact law_urge h_urge hL F hst hi6 hc6 hs6 next _ _ _ _ _ _ _ _ _ _ _ _ _ _ _ _ _ _ _ _ _ _ _ _ _ _ _ _ _ _ _ _ _ _ _ hR hP hD hS hl
        · refine lv_tableIn (off := 567) (tgt := 612) hx hb dL_law_45 c0a c0b (by rw [h]; rfl) (by decide) ?_
          exact law_approve h_approve hL F hst hi6 hc6 hs6 next _ _ _ _ _ _ _ _ _ _ _ _ _ _ _ _ _ _ _ _ _ _ _ _ _ _ _ _ _ _ _ _ _ _ _ hR hP hD hS hl
        · refine lv_tableIn (off := 635) (tgt := 680) hx hb dL_law_45 c0a c0b (by rw [h]; rfl) (by decide) ?_
          exact law_takeBack h_takeBack hL F hst hi6 hc6 hs6 next _ _ _ _ _ _ _ _ _ _ _ _ _ _ _ _ _ _ _ _ _ _ _ _ _ _ _ _ _ _ _ _ _ _ _ hR hP hD hS hl
        · refine lv_tableIn (off := 691) (tgt := 736) hx hb dL_law_45 c0a c0b (by rw [h]; rfl) (by decide) ?_
          exact law_pass h_pass hL F hst hi6 hc6 hs6 next _ _ _ _ _ _ _ _ _ _ _ _ _ _ _ _ _ _ _ _ _ _ _ _ _ _ _ _ _ _ _ _ _ _ _ hR hP hD hS hl
        · refine lv_tableIn (off := 747) (tgt := 792) hx hb dL_law_45 c0a c0b (by rw [h]; rfl) (by decide) ?_
          exact law_set h_set hL F hst hi6 hc6 hs6 next _ _ _ _ _ _ _ _ _ _ _ _ _ _ _ _ _ _ _ _ _ _ _ _ _ _ _ _ _ _ _ _ _ _ _ hR hP hD hS hl
        · refine lv_tableIn (off := 815) (tgt := 860) hx hb dL_law_45 c0a c0b (by rw [h]; rfl) (by decide) ?_
          exact law_append h_append hL F hst hi6 hc6 hs6 next _ _ _ _ _ _ _ _ _ _ _ _ _ _ _ _ _ _ _ _ _ _ _ _ _ _ _ _ _ _ _ _ _ _ _ hR hP hD hS hl
        · refine lv_tableIn (off := 871) (tgt := 916) hx hb dL_law_45 c0a c0b (by rw [h]; rfl) (by decide) ?_
          exact law_clearBuffer h_clearBuffer hL F hst hi6 hc6 hs6 next _ _ _ _ _ _ _ _ _ _ _ _ _ _ _ _ _ _ _ _ _ _ _ _ _ _ _ _ _ _ _ _ _ _ _ hR hP hD hS hl
        · refine lv_tableIn (off := 884) (tgt := 929) hx hb dL_law_45 c0a c0b (by rw [h]; rfl) (by decide) ?_
          exact law_firstError h_firstError hL F hst hi6 hc6 hs6 next _ _ _ _ _ _ _ _ _ _ _ _ _ _ _ _ _ _ _ _ _ _ _ _ _ _ _ _ _ _ _ _ _ _ _ hR hP hD hS hl
        · refine lv_tableIn (off := 897) (tgt := 942) hx hb dL_law_45 c0a c0b (by rw [h]; rfl) (by decide) ?_
          exact law_run h_run hL F hst hi6 hc6 hs6 next _ _ _ _ _ _ _ _ _ _ _ _ _ _ _ _ _ _ _ _ _ _ _ _ _ _ _ _ _ _ _ _ _ _ _ hR hP hD hS hl
        · refine lv_tableIn (off := 941) (tgt := 986) hx hb dL_law_45 c0a c0b (by rw [h]; rfl) (by decide) ?_
          exact law_undo h_undo hL F hst hi6 hc6 hs6 next _ _ _ _ _ _ _ _ _ _ _ _ _ _ _ _ _ _ _ _ _ _ _ _ _ _ _ _ _ _ _ _ _ _ _ hR hP hD hS hl
        · refine lv_tableIn (off := 985) (tgt := 1030) hx hb dL_law_45 c0a c0b (by rw [h]; rfl) (by decide) ?_
          exact law_mandate h_mandate hL F hst hi6 hc6 hs6 next _ _ _ _ _ _ _ _ _ _ _ _ _ _ _ _ _ _ _ _ _ _ _ _ _ _ _ _ _ _ _ _ _ _ _ hR hP hD hS hl
        · refine lv_tableIn (off := 1053) (tgt := 1098) hx hb dL_law_45 c0a c0b (by rw [h]; rfl) (by decide) ?_
          exact law_request h_request hL F hst hi6 hc6 hs6 next _ _ _ _ _ _ _ _ _ _ _ _ _ _ _ _ _ _ _ _ _ _ _ _ _ _ _ _ _ _ _ _ _ _ _ hR hP hD hS hl
        · refine lv_tableIn (off := 1121) (tgt := 1166) hx hb dL_law_45 c0a c0b (by rw [h]; rfl) (by decide) ?_
          exact law_person h_person hL F hst hi6 hc6 hs6 next _ _ _ _ _ _ _ _ _ _ _ _ _ _ _ _ _ _ _ _ _ _ _ _ _ _ _ _ _ _ _ _ _ _ _ hR hP hD hS hl
        · refine lv_tableIn (off := 1189) (tgt := 1234) hx hb dL_law_45 c0a c0b (by rw [h]; rfl) (by decide) ?_
          exact law_count h_count hL F hst hi6 hc6 hs6 next _ _ _ _ _ _ _ _ _ _ _ _ _ _ _ _ _ _ _ _ _ _ _ _ _ _ _ _ _ _ _ _ _ _ _ hR hP hD hS hl
        · refine lv_tableIn (off := 1245) (tgt := 1290) hx hb dL_law_45 c0a c0b (by rw [h]; rfl) (by decide) ?_
          exact law_setting h_setting hL F hst hi6 hc6 hs6 next _ _ _ _ _ _ _ _ _ _ _ _ _ _ _ _ _ _ _ _ _ _ _ _ _ _ _ _ _ _ _ _ _ _ _ hR hP hD hS hl
        · refine lv_tableIn (off := 1301) (tgt := 1346) hx hb dL_law_45 c0a c0b (by rw [h]; rfl) (by decide) ?_
          exact law_whyNot h_whyNot hL F hst hi6 hc6 hs6 next _ _ _ _ _ _ _ _ _ _ _ _ _ _ _ _ _ _ _ _ _ _ _ _ _ _ _ _ _ _ _ _ _ _ _ hR hP hD hS hl
        · refine lv_tableIn (off := 1369) (tgt := 1414) hx hb dL_law_45 c0a c0b (by rw [h]; rfl) (by decide) ?_
          exact law_room h_room hL F hst hi6 hc6 hs6 next _ _ _ _ _ _ _ _ _ _ _ _ _ _ _ _ _ _ _ _ _ _ _ _ _ _ _ _ _ _ _ _ _ _ _ hR hP hD hS hl
        · refine lv_tableIn (off := 1453) (tgt := 1498) hx hb dL_law_45 c0a c0b (by rw [h]; rfl) (by decide) ?_
          exact law_under h_under hL F hst hi6 hc6 hs6 next _ _ _ _ _ _ _ _ _ _ _ _ _ _ _ _ _ _ _ _ _ _ _ _ _ _ _ _ _ _ _ _ _ _ _ hR hP hD hS hl
        · refine lv_tableIn (off := 1509) (tgt := 1554) hx hb dL_law_45 c0a c0b (by rw [h]; rfl) (by decide) ?_
          exact law_narrowest h_narrowest hL F hst hi6 hc6 hs6 next _ _ _ _ _ _ _ _ _ _ _ _ _ _ _ _ _ _ _ _ _ _ _ _ _ _ _ _ _ _ _ _ _ _ _ hR hP hD hS hl
        · refine lv_tableIn (off := 1565) (tgt := 1610) hx hb dL_law_45 c0a c0b (by rw [h]; rfl) (by decide) ?_
          exact law_lapsesIn h_lapsesIn hL F hst hi6 hc6 hs6 next _ _ _ _ _ _ _ _ _ _ _ _ _ _ _ _ _ _ _ _ _ _ _ _ _ _ _ _ _ _ _ _ _ _ _ hR hP hD hS hl
        · refine lv_tableIn (off := 1621) (tgt := 1666) hx hb dL_law_45 c0a c0b (by rw [h]; rfl) (by decide) ?_
          exact law_usedShare h_usedShare hL F hst hi6 hc6 hs6 next _ _ _ _ _ _ _ _ _ _ _ _ _ _ _ _ _ _ _ _ _ _ _ _ _ _ _ _ _ _ _ _ _ _ _ hR hP hD hS hl
        · refine lv_tableIn (off := 1698) (tgt := 1743) hx hb dL_law_45 c0a c0b (by rw [h]; rfl) (by decide) ?_
          exact law_digest h_digest hL F hst hi6 hc6 hs6 next _ _ _ _ _ _ _ _ _ _ _ _ _ _ _ _ _ _ _ _ _ _ _ _ _ _ _ _ _ _ _ _ _ _ _ hR hP hD hS hl
