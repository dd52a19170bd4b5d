/-! THE STEPS: texts -/
theorem sim_append : Sim_append RRf := by
  intro rm fm rq fr ap day grace longest spent spentIn spendings urgentSp dropped lapsedLate oldest kept RB ln tx states rl thr rd num due hash z hi rx pa p1 hR
  obtain ⟨C, H, ⟨n, hn, rfl, rfl, t1, t2⟩⟩ := RR_el hR
  have TT : TXR (Int32.ofNat n) tx (Int32.ofNat n) rx := ⟨n, hn, rfl, rfl, t1, t2⟩
  have e60 : (60 : Int32) = Int32.ofNat 60 := rfl
  rcases cr_ p1 33 126 with ⟨r1, r2, r3, r4⟩ | ⟨r1, r2⟩
  · obtain ⟨c, c1, c2, rfl⟩ := cr_n (a := 33) (b := 126) (by omega) (by omega) r3 r4
    by_cases h60 : n = 60
    · have hfull : f_X4_isFull (Int32.ofNat n) = true := by
        rw [f_X4_isFull, e60, if_neg (by rw [pn_lt (by omega) (by omega)]; omega)]
      have hf : f_X5_append (Int32.ofNat n) tx (Int32.ofNat c) = (3, 0, Int32.ofNat n, tx) := by
        rw [f_X5_append, r1, if_pos rfl, hfull, if_neg (vb_t rfl)]
      have hz : f_X6_append (Int32.ofNat n) rx (Int32.ofNat c) = (0, Int32.ofNat n, 2, rx) := by
        rw [f_X6_append, r2, if_neg (vb_t rfl), if_pos (by rw [h60]; rfl), f_X6_append_j30, if_neg nle2]
      have hzo : o_X6_append (Int32.ofNat n) rx (Int32.ofNat c) := by
        rw [o_X6_append, r2, if_neg (vb_t rfl), if_pos (by rw [h60]; rfl), o_X6_append_j30, if_neg nle2]
        trivial
      rw [hf, hz]
      exact ⟨Or.inr (Or.inr rfl), hzo, rfl, fun q => absurd q (by decide : ¬ (3 : Nat) = 0), RR_mk C H TT⟩
    · have hne : ¬ Int32.ofNat n = 60 := fun q => h60 (pn_inj (b := 60) (by omega) (by omega) q)
      have hfull : f_X4_isFull (Int32.ofNat n) = false := by
        rw [f_X4_isFull, e60, if_pos (by rw [pn_lt (by omega) (by omega)]; omega)]
      have hf : f_X5_append (Int32.ofNat n) tx (Int32.ofNat c) = (0, Int32.ofNat (n + 1), Int32.ofNat (n + 1), upd tx n (Int32.ofNat c)) := by
        rw [f_X5_append, r1, if_pos rfl, hfull, if_pos (vb_f rfl), f_X4_add, if_neg (pn_nn (by omega)), if_neg (by rw [e60, pn_le (by omega) (by omega)]; omega), pn_succ, pn_clamp (by omega), f_X4_add_j39, f_X5_append_c36]
      have hz : f_X6_append (Int32.ofNat n) rx (Int32.ofNat c) = (Int32.ofNat (n + 1), Int32.ofNat (n + 1), 0, upd rx n (Int32.ofNat c)) := by
        rw [f_X6_append, r2, if_neg (vb_t rfl), if_neg hne, f_X6_append_j30, if_pos le00, pn_succ, pn_clamp (by omega)]
      have hzo : o_X6_append (Int32.ofNat n) rx (Int32.ofNat c) := by
        rw [o_X6_append, r2, if_neg (vb_t rfl), if_neg hne, o_X6_append_j30, if_pos le00]
        exact ⟨pz_vp (by omega) (by omega), trivial⟩
      have T2 : TXR (Int32.ofNat (n + 1)) (upd tx n (Int32.ofNat c)) (Int32.ofNat (n + 1)) (upd rx n (Int32.ofNat c)) := by
        refine ⟨n + 1, by omega, rfl, rfl, fun q hq => ?_, fun q hq => ?_⟩
        · by_cases h : q = n
          · rw [h, upd_s, upd_s]
          · rw [upd_n _ _ h, upd_n _ _ h]
            exact t1 q (by omega)
        · by_cases h : q = n
          · rw [h, upd_s]
            exact ⟨c, by omega, rfl⟩
          · rw [upd_n _ _ h]
            exact t2 q (by omega)
      rw [hf, hz]
      exact ⟨Or.inl rfl, hzo, rfl, fun _ => rfl, RR_mk C H T2⟩
  · have hf : f_X5_append (Int32.ofNat n) tx p1 = (2, 0, Int32.ofNat n, tx) := by
      rw [f_X5_append, r1, if_neg (by decide)]
    have hz : f_X6_append (Int32.ofNat n) rx p1 = (0, Int32.ofNat n, 1, rx) := by
      rw [f_X6_append, r2, if_pos (vb_f rfl), f_X6_append_j30, if_neg nle1]
    have hzo : o_X6_append (Int32.ofNat n) rx p1 := by
      rw [o_X6_append, r2, if_pos (vb_f rfl), o_X6_append_j30, if_neg nle1]
      trivial
    rw [hf, hz]
    exact ⟨Or.inr (Or.inl rfl), hzo, rfl, fun q => absurd q (by decide : ¬ (2 : Nat) = 0), RR_mk C H TT⟩
theorem tx0 (tx rx : Nat → Int32) : TXR 0 tx 0 rx := ⟨0, by omega, rfl, rfl, fun q hq => absurd hq (by omega), fun q hq => absurd hq (by omega)⟩
theorem sim_clearBuffer : Sim_clearBuffer RRf := by
  intro rm fm rq fr ap day grace longest spent spentIn spendings urgentSp dropped lapsedLate oldest kept RB ln tx states rl thr rd num due hash z hi rx pa hR
  obtain ⟨C, H, ⟨n, hn, rfl, rfl, t1, t2⟩⟩ := RR_el hR
  rw [f_X5_clearBuffer, f_X4_empty, f_X5_clearBuffer_c7, f_X6_clearBuffer]
  exact ⟨rfl, RR_mk C H (tx0 tx rx)⟩
theorem up_eq (n : Nat) (hn : n ≤ 60) (num : Int32) (tx pa : Nat → Int32) : f_X6_rightUpTo (Int32.ofNat n) num tx pa = f_X6_rightUpTo_j12 (Int32.ofNat n) tx (n + 1) (Int32.ofNat 0) (Int32.ofNat 0) num 0 pa ∧ (o_X6_rightUpTo_j12 (Int32.ofNat n) tx (n + 1) (Int32.ofNat 0) (Int32.ofNat 0) num 0 pa → o_X6_rightUpTo (Int32.ofNat n) num tx pa) := by
  rw [f_X6_rightUpTo, o_X6_rightUpTo, toI (by omega)]
  exact ⟨rfl, id⟩
theorem sim_firstError : Sim_firstError RRf := by
  intro rm fm rq fr ap day grace longest spent spentIn spendings urgentSp dropped lapsedLate oldest kept RB ln tx states rl thr rd num due hash z hi rx pa hR
  obtain ⟨C, H, ⟨n, hn, rfl, rfl, t1, t2⟩⟩ := RR_el hR
  have TT : TXR (Int32.ofNat n) tx (Int32.ofNat n) rx := ⟨n, hn, rfl, rfl, t1, t2⟩
  obtain ⟨p1, p2⟩ := parse_ hn t1 t2 (n + 1) (n + 1) (n + 1) 0 0 0 num 0 pa (by omega) (by omega) (by omega) (by omega) (ps0 num)
  obtain ⟨u1, u2⟩ := up_eq n hn num rx pa
  have hE : f_X4_errorIndex_j4 (Int32.ofNat n) tx (n + 1) (Int32.ofNat 0) (Int32.ofNat 0) = (f_X6_rightUpTo_j12 (Int32.ofNat n) rx (n + 1) (Int32.ofNat 0) (Int32.ofNat 0) num 0 pa).1 := by
    rcases p2 with ⟨st', rd', num', due', pa', -, q1, -, q2⟩ | ⟨e, -, q1, -, q2⟩
    · rw [q1, q2]
    · rw [q1, q2]
  refine ⟨?_, ?_, RR_mk C H TT⟩
  · rw [o_X6_firstError, o_X6_firstError_c9]
    exact ⟨u2 p1, trivial⟩
  · rw [f_X5_firstError, f_X4_errorIndex, toI (by omega), f_X6_firstError, f_X6_firstError_c9, u1]
    exact hE
theorem c4_no {states ln : Int32} {z hi pa : Nat → Int32} {y rd num due : Int32} (h : ¬ (y = ln ∧ due = 2 ∧ ¬ num = -1)) : f_X6_run_c4 states ln z hi y rd num due pa = (0, states, ln, 1, rd, num, due, z, hi, pa) ∧ o_X6_run_c4 states ln z hi y rd num due pa := by
  have h31 : f_X6_run_j31 states ln z hi rd num due pa = (0, states, ln, 1, rd, num, due, z, hi, pa) ∧ o_X6_run_j31 states ln z hi rd num due pa := by
    rw [f_X6_run_j31, o_X6_run_j31, f_X6_run_j32, o_X6_run_j32, if_pos (vb_f rfl), if_pos (vb_f rfl), f_X6_run_j43, o_X6_run_j43, if_neg bil1, if_neg bil1]
    exact ⟨rfl, trivial⟩
  rw [f_X6_run_c4, o_X6_run_c4]
  by_cases h1 : y = ln
  · rw [if_pos h1, if_pos h1]
    by_cases h2 : due = 2
    · rw [if_pos h2, if_pos h2]
      by_cases h3 : num = -1
      · rw [if_pos h3, if_pos h3]
        exact h31
      · exact absurd ⟨h1, h2, h3⟩ h
    · rw [if_neg h2, if_neg h2]
      exact h31
  · rw [if_neg h1, if_neg h1]
    exact h31
theorem sim_run : Sim_run RRf := by
  intro rm fm rq fr ap day grace longest spent spentIn spendings urgentSp dropped lapsedLate oldest kept RB ln tx states rl thr rd num due hash z hi rx pa hR
  obtain ⟨⟨r, s, rfl, rfl, B⟩, H, ⟨n, hn, rfl, rfl, t1, t2⟩⟩ := RR_el hR
  have C : CU (Int32.ofNat r) fm (Int32.ofNat s) fr ap day grace longest spent spentIn spendings urgentSp dropped lapsedLate z := ⟨r, s, rfl, rfl, B⟩
  have TT : TXR (Int32.ofNat n) tx (Int32.ofNat n) rx := ⟨n, hn, rfl, rfl, t1, t2⟩
  obtain ⟨p1, p2⟩ := parse_ hn t1 t2 (n + 1) (n + 1) (n + 1) 0 0 0 num 0 pa (by omega) (by omega) (by omega) (by omega) (ps0 num)
  obtain ⟨u1, u2⟩ := up_eq n hn num rx pa
  have hic : f_X4_isComplete (Int32.ofNat n) tx = f_X4_isComplete_j4 (Int32.ofNat n) tx (n + 1) (Int32.ofNat 0) (Int32.ofNat 0) := by
    rw [f_X4_isComplete, toI (by omega)]
    rfl
  -- where it isn't complete
  have no : f_X4_isComplete_j4 (Int32.ofNat n) tx (n + 1) (Int32.ofNat 0) (Int32.ofNat 0) = false → ∀ (y rd' num' due' : Int32) (pa' : Nat → Int32), f_X6_rightUpTo_j12 (Int32.ofNat n) rx (n + 1) (Int32.ofNat 0) (Int32.ofNat 0) num 0 pa = (y, rd', num', due', pa') → ¬ (y = Int32.ofNat n ∧ due' = 2 ∧ ¬ num' = -1) → ((o_X5_run (Int32.ofNat r) fm (Int32.ofNat s) fr ap day grace longest spent spentIn spendings urgentSp dropped lapsedLate oldest kept (Int32.ofNat n) tx RB) ∧ ((f_X5_run (Int32.ofNat r) fm (Int32.ofNat s) fr ap day grace longest spent spentIn spendings urgentSp dropped lapsedLate oldest kept (Int32.ofNat n) tx RB).1 = 0 ∨ (f_X5_run (Int32.ofNat r) fm (Int32.ofNat s) fr ap day grace longest spent spentIn spendings urgentSp dropped lapsedLate oldest kept (Int32.ofNat n) tx RB).1 = 2) ∧ (o_X6_run states (Int32.ofNat n) num z hi rx pa) ∧ (f_X6_run states (Int32.ofNat n) num z hi rx pa).2.2.2.1 = vm_rk 2 2 ((f_X5_run (Int32.ofNat r) fm (Int32.ofNat s) fr ap day grace longest spent spentIn spendings urgentSp dropped lapsedLate oldest kept (Int32.ofNat n) tx RB).1) ∧ ((f_X5_run (Int32.ofNat r) fm (Int32.ofNat s) fr ap day grace longest spent spentIn spendings urgentSp dropped lapsedLate oldest kept (Int32.ofNat n) tx RB).1 = 0 → (f_X5_run (Int32.ofNat r) fm (Int32.ofNat s) fr ap day grace longest spent spentIn spendings urgentSp dropped lapsedLate oldest kept (Int32.ofNat n) tx RB).2.1 = (f_X6_run states (Int32.ofNat n) num z hi rx pa).1) ∧ RRf (Int32.ofNat r) ((f_X5_run (Int32.ofNat r) fm (Int32.ofNat s) fr ap day grace longest spent spentIn spendings urgentSp dropped lapsedLate oldest kept (Int32.ofNat n) tx RB).2.2.2.2.2.2.2.2.1) ((f_X5_run (Int32.ofNat r) fm (Int32.ofNat s) fr ap day grace longest spent spentIn spendings urgentSp dropped lapsedLate oldest kept (Int32.ofNat n) tx RB).2.2.2.2.2.2.2.2.2.1) ((f_X5_run (Int32.ofNat r) fm (Int32.ofNat s) fr ap day grace longest spent spentIn spendings urgentSp dropped lapsedLate oldest kept (Int32.ofNat n) tx RB).2.2.2.2.2.2.2.2.2.2.1) ap day grace longest ((f_X5_run (Int32.ofNat r) fm (Int32.ofNat s) fr ap day grace longest spent spentIn spendings urgentSp dropped lapsedLate oldest kept (Int32.ofNat n) tx RB).2.2.2.1) ((f_X5_run (Int32.ofNat r) fm (Int32.ofNat s) fr ap day grace longest spent spentIn spendings urgentSp dropped lapsedLate oldest kept (Int32.ofNat n) tx RB).2.2.2.2.1) ((f_X5_run (Int32.ofNat r) fm (Int32.ofNat s) fr ap day grace longest spent spentIn spendings urgentSp dropped lapsedLate oldest kept (Int32.ofNat n) tx RB).2.2.2.2.2.1) ((f_X5_run (Int32.ofNat r) fm (Int32.ofNat s) fr ap day grace longest spent spentIn spendings urgentSp dropped lapsedLate oldest kept (Int32.ofNat n) tx RB).2.2.2.2.2.2.1) dropped lapsedLate ((f_X5_run (Int32.ofNat r) fm (Int32.ofNat s) fr ap day grace longest spent spentIn spendings urgentSp dropped lapsedLate oldest kept (Int32.ofNat n) tx RB).2.2.2.2.2.2.2.2.2.2.2.1) ((f_X5_run (Int32.ofNat r) fm (Int32.ofNat s) fr ap day grace longest spent spentIn spendings urgentSp dropped lapsedLate oldest kept (Int32.ofNat n) tx RB).2.2.2.2.2.2.2.2.2.2.2.2) ((f_X5_run (Int32.ofNat r) fm (Int32.ofNat s) fr ap day grace longest spent spentIn spendings urgentSp dropped lapsedLate oldest kept (Int32.ofNat n) tx RB).2.2.1) ((f_X5_run (Int32.ofNat r) fm (Int32.ofNat s) fr ap day grace longest spent spentIn spendings urgentSp dropped lapsedLate oldest kept (Int32.ofNat n) tx RB).2.2.2.2.2.2.2.1) tx ((f_X6_run states (Int32.ofNat n) num z hi rx pa).2.1) ((f_X6_run states (Int32.ofNat n) num z hi rx pa).2.2.1) ((f_X6_run states (Int32.ofNat n) num z hi rx pa).2.2.2.1) ((f_X6_run states (Int32.ofNat n) num z hi rx pa).2.2.2.2.1) ((f_X6_run states (Int32.ofNat n) num z hi rx pa).2.2.2.2.2.1) ((f_X6_run states (Int32.ofNat n) num z hi rx pa).2.2.2.2.2.2.1) hash ((f_X6_run states (Int32.ofNat n) num z hi rx pa).2.2.2.2.2.2.2.1) ((f_X6_run states (Int32.ofNat n) num z hi rx pa).2.2.2.2.2.2.2.2.1) rx ((f_X6_run states (Int32.ofNat n) num z hi rx pa).2.2.2.2.2.2.2.2.2)) := fun hcf y rd' num' due' pa' hu hno => by
    have hf : f_X5_run (Int32.ofNat r) fm (Int32.ofNat s) fr ap day grace longest spent spentIn spendings urgentSp dropped lapsedLate oldest kept (Int32.ofNat n) tx RB = (2, 0, RB, spent, spentIn, spendings, urgentSp, Int32.ofNat n, fm, Int32.ofNat s, fr, oldest, kept) := by
      rw [f_X5_run, hic, hcf, if_pos (vb_f rfl)]
    have ho : o_X5_run (Int32.ofNat r) fm (Int32.ofNat s) fr ap day grace longest spent spentIn spendings urgentSp dropped lapsedLate oldest kept (Int32.ofNat n) tx RB := by
      rw [o_X5_run, hic, hcf, if_pos (vb_f rfl)]
      trivial
    obtain ⟨q1, q2⟩ := c4_no (states := states) (ln := Int32.ofNat n) (z := z) (hi := hi) (pa := pa') (y := y) (rd := rd') (num := num') (due := due') hno
    have hz : f_X6_run states (Int32.ofNat n) num z hi rx pa = (0, states, Int32.ofNat n, 1, rd', num', due', z, hi, pa') := by
      rw [f_X6_run, u1, hu]
      exact q1
    have hzo : o_X6_run states (Int32.ofNat n) num z hi rx pa := by
      rw [o_X6_run, u1, hu]
      exact ⟨u2 p1, q2⟩
    rw [hf, hz]
    exact ⟨ho, Or.inr rfl, hzo, rfl, fun q => absurd q (by decide : ¬ (2 : Nat) = 0), RR_mk C H TT⟩
  rcases p2 with ⟨st', rd', num', due', pa', P, -, q2, q3⟩ | ⟨e, he, -, q2, q3⟩
  · by_cases h5 : 5 ≤ st'
    · obtain ⟨d1, d2, S, AA⟩ := al_ hn P h5
      rw [decide_eq_true h5] at q2
      obtain ⟨RB2, o2, k2, st2, hi2, e1, e2, e3, e4, H2⟩ := hist_ H C
      obtain ⟨v, s', f', g', z', sp, si, sn, us, a1, a2, a3, a4⟩ := run_l hn AA st2 (vm_bi false) hi2 (rd' + 1) 61 1000 0 0 s fm fr z spent spentIn spendings urgentSp (by omega) (by have := AA.2.1; omega) (by have := AA.2.1; omega) (fun _ => AA.1.symm) (fun q => absurd q (by omega)) B
      have a1' : f_X5_carryOutText (Int32.ofNat r) fm (Int32.ofNat s) fr day spent spentIn spendings urgentSp (Int32.ofNat n) tx = (Int32.ofNat v, sp, si, sn, us, f', Int32.ofNat s', g') := a1
      have hf : f_X5_run (Int32.ofNat r) fm (Int32.ofNat s) fr ap day grace longest spent spentIn spendings urgentSp dropped lapsedLate oldest kept (Int32.ofNat n) tx RB = (0, Int32.ofNat v, RB2, sp, si, sn, us, 0, f', Int32.ofNat s', g', o2, k2) := by
        rw [f_X5_run, hic, q2, if_neg (vb_t rfl), e1, f_X5_run_c31, a1', f_X5_run_c35, f_X4_empty, f_X5_run_c43]
      have ho : o_X5_run (Int32.ofNat r) fm (Int32.ofNat s) fr ap day grace longest spent spentIn spendings urgentSp dropped lapsedLate oldest kept (Int32.ofNat n) tx RB := by
        rw [o_X5_run, hic, q2, if_neg (vb_t rfl), o_X5_run_c31, o_X5_run_c35, o_X5_run_c43]
        exact ⟨e2, trivial⟩
      have hz : f_X6_run states (Int32.ofNat n) num z hi rx pa = (Int32.ofNat v, st2, 0, vm_bi false, Int32.ofNat rd', num', due', z', hi2, pa') := by
        rw [f_X6_run, u1, q3, f_X6_run_c4, if_pos rfl, if_pos d1, if_neg d2, f_X6_run_j32, if_neg (vb_t rfl), f_X6_run_j43, if_pos bil0, e3, f_X6_run_c59]
        exact a2
      have hzo : o_X6_run states (Int32.ofNat n) num z hi rx pa := by
        rw [o_X6_run, u1, q3, o_X6_run_c4, if_pos rfl, if_pos d1, if_neg d2, o_X6_run_j32, if_neg (vb_t rfl), o_X6_run_j43, if_pos bil0, e3, o_X6_run_c59]
        exact ⟨u2 p1, e4, a3⟩
      rw [hf, hz]
      exact ⟨ho, Or.inl rfl, hzo, rfl, fun _ => rfl, RR_mk ⟨r, s', rfl, rfl, a4⟩ H2 (tx0 tx rx)⟩
    · rw [decide_eq_false h5] at q2
      exact no q2 _ _ _ _ _ q3 (fun q => ps_not P h5 q.2)
  · have hne : ¬ (f_X6_rightUpTo_j12 (Int32.ofNat n) rx (n + 1) (Int32.ofNat 0) (Int32.ofNat 0) num 0 pa).1 = Int32.ofNat n := by
      rw [q3]
      exact fun q => by have := pn_inj (by omega) (by omega) q; omega
    exact no q2 _ _ _ _ _ rfl (fun q => hne q.1)
/-! the step back -/
theorem sim_undo : Sim_undo RRf := by
  intro rm fm rq fr ap day grace longest spent spentIn spendings urgentSp dropped lapsedLate oldest kept RB ln tx states rl thr rd num due hash z hi rx pa hR
  obtain ⟨C, ⟨a, n, ha, hn, rfl, rfl, rfl, hall⟩, TT⟩ := RR_el hR
  have H : HI (Int32.ofNat a) (Int32.ofNat n) RB (Int32.ofNat n) hi := ⟨a, n, ha, hn, rfl, rfl, rfl, hall⟩
  cases n with
  | zero =>
    have hf : f_X5_undo rm fm rq fr ap day grace longest spent spentIn spendings urgentSp dropped lapsedLate (Int32.ofNat a) (Int32.ofNat 0) RB = (3, 0, dropped, lapsedLate, day, grace, longest, spent, spentIn, spendings, urgentSp, rm, fm, rq, fr, ap, Int32.ofNat 0) := by
      rw [f_X5_undo, if_pos (by decide : Int32.ofNat 0 = 0)]
    have ho : o_X5_undo rm fm rq fr ap day grace longest spent spentIn spendings urgentSp dropped lapsedLate (Int32.ofNat a) (Int32.ofNat 0) RB := by
      rw [o_X5_undo, if_pos (by decide : Int32.ofNat 0 = 0)]
      trivial
    have hz : f_X6_undo (Int32.ofNat 0) z hi = (0, Int32.ofNat 0, 1, z) := by
      rw [f_X6_undo, if_pos (by decide), f_X6_undo_j13, if_neg bil1]
      rfl
    have hzo : o_X6_undo (Int32.ofNat 0) z hi := by
      rw [o_X6_undo, if_pos (by decide), o_X6_undo_j13, if_neg bil1]
      trivial
    rw [hf, hz]
    exact ⟨ho, Or.inr rfl, hzo, rfl, fun q => absurd q (by decide : ¬ (3 : Nat) = 0), RR_mk C H TT⟩
  | succ n =>
    have hn0 : ¬ Int32.ofNat (n + 1) = 0 := fun q => by have := pn_inj (b := 0) (by omega) (by omega) q; omega
    have hn1 : ¬ Int32.ofNat (n + 1) ≤ 0 := by
      rw [show (0 : Int32) = Int32.ofNat 0 from rfl, pn_le (by omega) (by omega)]
      omega
    obtain ⟨q1, q2⟩ := rest_f (rm := rm) (fm := fm) (rq := rq) (fr := fr) (ap := ap) (day := day) (grace := grace) (longest := longest) (spent := spent) (spentIn := spentIn) (spendings := spendings) (urgentSp := urgentSp) (dropped := dropped) (lapsedLate := lapsedLate) ha (n := n) (by omega) RB
    obtain ⟨w1, w2⟩ := un_l hi (t := n) (by omega) (vm_bi false) 164 0 z (by omega) (by omega)
    have hf : f_X5_undo rm fm rq fr ap day grace longest spent spentIn spendings urgentSp dropped lapsedLate (Int32.ofNat a) (Int32.ofNat (n + 1)) RB = (0, Int32.ofNat n, bk_dropped (RB ((a + n) % 6)), bk_lapsedLate (RB ((a + n) % 6)), bk_day (RB ((a + n) % 6)), bk_grace (RB ((a + n) % 6)), bk_longest (RB ((a + n) % 6)), bk_spent (RB ((a + n) % 6)), bk_spentIn (RB ((a + n) % 6)), bk_spendings (RB ((a + n) % 6)), bk_urgentSp (RB ((a + n) % 6)), bk_rm (RB ((a + n) % 6)), cf_ 96 (bk_fm (RB ((a + n) % 6))) fm, bk_rq (RB ((a + n) % 6)), cf_ 36 (bk_fr (RB ((a + n) % 6))) fr, cf_ 8 (bk_ap (RB ((a + n) % 6))) ap, Int32.ofNat n) := by
      rw [f_X5_undo, if_neg hn0, q1, f_X5_undo_c31]
    have ho : o_X5_undo rm fm rq fr ap day grace longest spent spentIn spendings urgentSp dropped lapsedLate (Int32.ofNat a) (Int32.ofNat (n + 1)) RB := by
      rw [o_X5_undo, if_neg hn0, o_X5_undo_c31]
      exact ⟨q2, trivial⟩
    have hz : f_X6_undo (Int32.ofNat (n + 1)) z hi = (Int32.ofNat n, Int32.ofNat n, vm_bi false, fun q => if 0 ≤ q ∧ q < 163 then hi (163 * n + q) else z q) := by
      rw [f_X6_undo, if_neg hn1, f_X6_undo_j13, if_pos bil0]
      exact w1
    have hzo : o_X6_undo (Int32.ofNat (n + 1)) z hi := by
      rw [o_X6_undo, if_neg hn1, o_X6_undo_j13, if_pos bil0]
      exact w2
    obtain ⟨r, s, c1, c2, B⟩ := hall n (by omega)
    have C2 : CU (bk_rm (RB ((a + n) % 6))) (cf_ 96 (bk_fm (RB ((a + n) % 6))) fm) (bk_rq (RB ((a + n) % 6))) (cf_ 36 (bk_fr (RB ((a + n) % 6))) fr) (cf_ 8 (bk_ap (RB ((a + n) % 6))) ap) (bk_day (RB ((a + n) % 6))) (bk_grace (RB ((a + n) % 6))) (bk_longest (RB ((a + n) % 6))) (bk_spent (RB ((a + n) % 6))) (bk_spentIn (RB ((a + n) % 6))) (bk_spendings (RB ((a + n) % 6))) (bk_urgentSp (RB ((a + n) % 6))) (bk_dropped (RB ((a + n) % 6))) (bk_lapsedLate (RB ((a + n) % 6))) (fun q => if 0 ≤ q ∧ q < 163 then hi (163 * n + q) else z q) := by
      refine ⟨r, s, c1, c2, B.cong (fun i h => cf_in _ _ h) (fun i h => cf_in _ _ h) (fun i h => cf_in _ _ h) (fun i h => ?_)⟩
      show (if 0 ≤ i ∧ i < 163 then hi (163 * n + i) else z i) = hi (163 * n + i)
      rw [if_pos ⟨by omega, h⟩]
    have H2 : HI (Int32.ofNat a) (Int32.ofNat n) RB (Int32.ofNat n) hi := ⟨a, n, ha, by omega, rfl, rfl, rfl, fun i h => hall i (by omega)⟩
    rw [hf, hz]
    exact ⟨ho, Or.inl rfl, hzo, rfl, fun _ => rfl, RR_mk C2 H2 TT⟩
