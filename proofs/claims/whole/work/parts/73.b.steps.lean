/-! THE STEPS: mandates -/
theorem sim_withdraw : Sim_withdraw RRf := by
  intro rm fm rq fr ap day grace longest spent spentIn spendings urgentSp dropped lapsedLate oldest kept RB ln tx states rl thr rd num due hash z hi rx pa p1 hR
  obtain ⟨⟨r, s, rfl, rfl, B⟩, H, TT⟩ := RR_el hR
  obtain ⟨d, hd, rfl⟩ := B.2.2.1
  have C : CU (Int32.ofNat r) fm (Int32.ofNat s) fr ap (Int32.ofNat d) grace longest spent spentIn spendings urgentSp dropped lapsedLate z := ⟨r, s, rfl, rfl, B⟩
  have B0 := B
  obtain ⟨M, R, D, ⟨z0, z1, z2, z5, z6, z7, z8, z9, z10⟩, A⟩ := B0
  have h12 := M.1
  have h6 := R.1
  rcases mi_ M p1 with ⟨i1, i2, k, hk, rfl⟩ | ⟨i1, i2, -⟩
  · obtain ⟨s1, s2⟩ := ms_z M hk
    by_cases hst : fm (8 * k + 5) = -1
    · have hcs : f_X5_checkStands (Int32.ofNat r) fm (Int32.ofNat k) = 0 := by rw [f_X5_checkStands, ms_c M hk, decide_eq_true hst, if_neg (vb_t rfl)]
      rw [decide_eq_true hst] at s1
      obtain ⟨RB2, o2, k2, st2, hi2, e1, e2, e3, e4, H2⟩ := hist_ H C
      obtain ⟨s', f', g', z', dr', v, a1, a2, a3, a4, a5, a6, a7, a8⟩ := lap_ M R hk hst hd z2 z9
      have B2 : BZ r s' f' g' ap (Int32.ofNat d) grace longest spent spentIn spendings urgentSp dr' lapsedLate z' := by
        refine ⟨a4, a5, D, ?_, fun p hp => ?_⟩
        · rw [a8 0 (by omega) (by omega) (by omega), a8 1 (by omega) (by omega) (by omega), a8 2 (by omega) (by omega) (by omega), a8 5 (by omega) (by omega) (by omega), a8 6 (by omega) (by omega) (by omega), a8 7 (by omega) (by omega) (by omega), a8 8 (by omega) (by omega) (by omega), a8 10 (by omega) (by omega) (by omega)]
          exact ⟨z0, z1, z2, z5, z6, z7, z8, a6, z10⟩
        · rw [a8 _ (by omega) (by omega) (by omega)]
          exact A p hp
      have hf : f_X5_withdraw (Int32.ofNat r) fm (Int32.ofNat s) fr ap (Int32.ofNat d) grace longest spent spentIn spendings urgentSp dropped lapsedLate oldest kept RB (Int32.ofNat k) = (0, v, RB2, dr', f', Int32.ofNat s', g', o2, k2) := by
        rw [f_X5_withdraw, i2, if_pos rfl, hcs, if_pos rfl, e1, f_X5_withdraw_c21, a1, f_X5_withdraw_c29]
      have ho : o_X5_withdraw (Int32.ofNat r) fm (Int32.ofNat s) fr ap (Int32.ofNat d) grace longest spent spentIn spendings urgentSp dropped lapsedLate oldest kept RB (Int32.ofNat k) := by
        rw [o_X5_withdraw, i2, if_pos rfl, hcs, if_pos rfl, o_X5_withdraw_c21, o_X5_withdraw_c29]
        exact ⟨e2, trivial⟩
      have hz : f_X6_withdraw states z hi (Int32.ofNat k) = (v, st2, 0, z', hi2) := by
        rw [f_X6_withdraw, i1, if_neg (vb_t rfl), s1, if_neg (vb_t rfl), f_X6_withdraw_j26, if_pos le00, e3, f_X6_withdraw_c42, a2, f_X6_withdraw_c47]
      have hzo : o_X6_withdraw states z hi (Int32.ofNat k) := by
        rw [o_X6_withdraw, i1, if_neg (vb_t rfl), s1, if_neg (vb_t rfl), o_X6_withdraw_j26, if_pos le00, o_X6_withdraw_c42, o_X6_withdraw_c47]
        exact ⟨s2, e4, a3, trivial⟩
      rw [hf, hz]
      exact ⟨ho, Or.inl rfl, hzo, rfl, fun _ => rfl, RR_mk ⟨r, s', rfl, rfl, B2⟩ H2 TT⟩
    · have hcs : f_X5_checkStands (Int32.ofNat r) fm (Int32.ofNat k) = 3 := by rw [f_X5_checkStands, ms_c M hk, decide_eq_false hst, if_pos (vb_f rfl)]
      rw [decide_eq_false hst] at s1
      have hf : f_X5_withdraw (Int32.ofNat r) fm (Int32.ofNat s) fr ap (Int32.ofNat d) grace longest spent spentIn spendings urgentSp dropped lapsedLate oldest kept RB (Int32.ofNat k) = (3, 0, RB, dropped, fm, Int32.ofNat s, fr, oldest, kept) := by
        rw [f_X5_withdraw, i2, if_pos rfl, hcs, if_neg (by decide)]
      have ho : o_X5_withdraw (Int32.ofNat r) fm (Int32.ofNat s) fr ap (Int32.ofNat d) grace longest spent spentIn spendings urgentSp dropped lapsedLate oldest kept RB (Int32.ofNat k) := by
        rw [o_X5_withdraw, i2, if_pos rfl, hcs, if_neg (by decide)]
        trivial
      have hz : f_X6_withdraw states z hi (Int32.ofNat k) = (0, states, 2, z, hi) := by
        rw [f_X6_withdraw, i1, if_neg (vb_t rfl), s1, if_pos (vb_f rfl), f_X6_withdraw_j26, if_neg nle2]
      have hzo : o_X6_withdraw states z hi (Int32.ofNat k) := by
        rw [o_X6_withdraw, i1, if_neg (vb_t rfl), s1, if_pos (vb_f rfl), o_X6_withdraw_j26, if_neg nle2]
        exact ⟨s2, trivial⟩
      rw [hf, hz]
      exact ⟨ho, Or.inr (Or.inr rfl), hzo, rfl, fun q => absurd q (by decide : ¬ (3 : Nat) = 0), RR_mk C H TT⟩
  · skip
    have hf : f_X5_withdraw (Int32.ofNat r) fm (Int32.ofNat s) fr ap (Int32.ofNat d) grace longest spent spentIn spendings urgentSp dropped lapsedLate oldest kept RB p1 = (1, 0, RB, dropped, fm, Int32.ofNat s, fr, oldest, kept) := by
      rw [f_X5_withdraw, i2, if_neg (by decide)]
    have ho : o_X5_withdraw (Int32.ofNat r) fm (Int32.ofNat s) fr ap (Int32.ofNat d) grace longest spent spentIn spendings urgentSp dropped lapsedLate oldest kept RB p1 := by
      rw [o_X5_withdraw, i2, if_neg (by decide)]
      trivial
    have hz : f_X6_withdraw states z hi p1 = (0, states, 1, z, hi) := by
      rw [f_X6_withdraw, i1, if_pos (vb_f rfl), f_X6_withdraw_j26, if_neg nle1]
    have hzo : o_X6_withdraw states z hi p1 := by
      rw [o_X6_withdraw, i1, if_pos (vb_f rfl), o_X6_withdraw_j26, if_neg nle1]
      trivial
    rw [hf, hz]
    exact ⟨ho, Or.inr (Or.inl rfl), hzo, rfl, fun q => absurd q (by decide : ¬ (1 : Nat) = 0), RR_mk C H TT⟩
theorem sim_need : Sim_need RRf := by
  intro rm fm rq fr ap day grace longest spent spentIn spendings urgentSp dropped lapsedLate oldest kept RB ln tx states rl thr rd num due hash z hi rx pa p1 p2 hR
  obtain ⟨⟨r, s, rfl, rfl, B⟩, H, TT⟩ := RR_el hR
  have C : CU (Int32.ofNat r) fm (Int32.ofNat s) fr ap day grace longest spent spentIn spendings urgentSp dropped lapsedLate z := ⟨r, s, rfl, rfl, B⟩
  have B0 := B
  obtain ⟨M, R, D, ⟨z0, z1, z2, z5, z6, z7, z8, z9, z10⟩, A⟩ := B0
  have h12 := M.1
  have h6 := R.1
  rcases mi_ M p1 with ⟨i1, i2, k, hk, rfl⟩ | ⟨i1, i2, -⟩
  · rcases cr_ p2 0 3 with ⟨r1, r2, r3, r4⟩ | ⟨r1, r2⟩
    · obtain ⟨n, -, n3, rfl⟩ := cr_n (a := 0) (b := 3) (by omega) (by omega) r3 r4
      obtain ⟨s1, s2⟩ := ms_z M hk
      by_cases hst : fm (8 * k + 5) = -1
      · have hcs : f_X5_checkStands (Int32.ofNat r) fm (Int32.ofNat k) = 0 := by rw [f_X5_checkStands, ms_c M hk, decide_eq_true hst, if_neg (vb_t rfl)]
        rw [decide_eq_true hst] at s1
        obtain ⟨RB2, o2, k2, st2, hi2, e1, e2, e3, e4, H2⟩ := hist_ H C
        obtain ⟨f', a1, a2, a3⟩ := need_ B hk n3
        have hf : f_X5_need (Int32.ofNat r) fm (Int32.ofNat s) fr ap day grace longest spent spentIn spendings urgentSp dropped lapsedLate oldest kept RB (Int32.ofNat k) (Int32.ofNat n) = (0, fm (8 * k + 4), RB2, f', o2, k2) := by
          rw [f_X5_need, i2, if_pos rfl, r1, if_pos rfl, hcs, if_pos rfl, e1, f_X5_need_c27, a1, f_X5_need_c40]
        have ho : o_X5_need (Int32.ofNat r) fm (Int32.ofNat s) fr ap day grace longest spent spentIn spendings urgentSp dropped lapsedLate oldest kept RB (Int32.ofNat k) (Int32.ofNat n) := by
          rw [o_X5_need, i2, if_pos rfl, r1, if_pos rfl, hcs, if_pos rfl, o_X5_need_c27, o_X5_need_c40]
          exact ⟨e2, trivial⟩
        have hz : f_X6_need states z hi (Int32.ofNat k) (Int32.ofNat n) = (fm (8 * k + 4), st2, 0, upd z (19 + 9 * k + 4) (Int32.ofNat n), hi2) := by
          rw [f_X6_need, i1, if_neg (vb_t rfl), r2, if_neg (vb_t rfl), s1, if_neg (vb_t rfl), f_X6_need_j39, if_pos le00, e3, f_X6_need_c55, f_X6_need_c69, a2, mo4 M hk]
        have hzo : o_X6_need states z hi (Int32.ofNat k) (Int32.ofNat n) := by
          rw [o_X6_need, i1, if_neg (vb_t rfl), r2, if_neg (vb_t rfl), s1, if_neg (vb_t rfl), o_X6_need_j39, if_pos le00, o_X6_need_c55, o_X6_need_c69]
          exact ⟨s2, e4, oo4 h12 hk, op4 h12 hk, trivial⟩
        rw [hf, hz]
        exact ⟨ho, Or.inl rfl, hzo, rfl, fun _ => rfl, RR_mk ⟨r, s, rfl, rfl, a3⟩ H2 TT⟩
      · have hcs : f_X5_checkStands (Int32.ofNat r) fm (Int32.ofNat k) = 3 := by rw [f_X5_checkStands, ms_c M hk, decide_eq_false hst, if_pos (vb_f rfl)]
        rw [decide_eq_false hst] at s1
        have hf : f_X5_need (Int32.ofNat r) fm (Int32.ofNat s) fr ap day grace longest spent spentIn spendings urgentSp dropped lapsedLate oldest kept RB (Int32.ofNat k) (Int32.ofNat n) = (3, 0, RB, fm, oldest, kept) := by
          rw [f_X5_need, i2, if_pos rfl, r1, if_pos rfl, hcs, if_neg (by decide)]
        have ho : o_X5_need (Int32.ofNat r) fm (Int32.ofNat s) fr ap day grace longest spent spentIn spendings urgentSp dropped lapsedLate oldest kept RB (Int32.ofNat k) (Int32.ofNat n) := by
          rw [o_X5_need, i2, if_pos rfl, r1, if_pos rfl, hcs, if_neg (by decide)]
          trivial
        have hz : f_X6_need states z hi (Int32.ofNat k) (Int32.ofNat n) = (0, states, 3, z, hi) := by
          rw [f_X6_need, i1, if_neg (vb_t rfl), r2, if_neg (vb_t rfl), s1, if_pos (vb_f rfl), f_X6_need_j39, if_neg nle3]
        have hzo : o_X6_need states z hi (Int32.ofNat k) (Int32.ofNat n) := by
          rw [o_X6_need, i1, if_neg (vb_t rfl), r2, if_neg (vb_t rfl), s1, if_pos (vb_f rfl), o_X6_need_j39, if_neg nle3]
          exact ⟨s2, trivial⟩
        rw [hf, hz]
        exact ⟨ho, Or.inr (Or.inr (Or.inr rfl)), hzo, rfl, fun q => absurd q (by decide : ¬ (3 : Nat) = 0), RR_mk C H TT⟩
    · skip
      have hf : f_X5_need (Int32.ofNat r) fm (Int32.ofNat s) fr ap day grace longest spent spentIn spendings urgentSp dropped lapsedLate oldest kept RB (Int32.ofNat k) p2 = (2, 0, RB, fm, oldest, kept) := by
        rw [f_X5_need, i2, if_pos rfl, r1, if_neg (by decide)]
      have ho : o_X5_need (Int32.ofNat r) fm (Int32.ofNat s) fr ap day grace longest spent spentIn spendings urgentSp dropped lapsedLate oldest kept RB (Int32.ofNat k) p2 := by
        rw [o_X5_need, i2, if_pos rfl, r1, if_neg (by decide)]
        trivial
      have hz : f_X6_need states z hi (Int32.ofNat k) p2 = (0, states, 2, z, hi) := by
        rw [f_X6_need, i1, if_neg (vb_t rfl), r2, if_pos (vb_f rfl), f_X6_need_j39, if_neg nle2]
      have hzo : o_X6_need states z hi (Int32.ofNat k) p2 := by
        rw [o_X6_need, i1, if_neg (vb_t rfl), r2, if_pos (vb_f rfl), o_X6_need_j39, if_neg nle2]
        trivial
      rw [hf, hz]
      exact ⟨ho, Or.inr (Or.inr (Or.inl rfl)), hzo, rfl, fun q => absurd q (by decide : ¬ (2 : Nat) = 0), RR_mk C H TT⟩
  · skip
    have hf : f_X5_need (Int32.ofNat r) fm (Int32.ofNat s) fr ap day grace longest spent spentIn spendings urgentSp dropped lapsedLate oldest kept RB p1 p2 = (1, 0, RB, fm, oldest, kept) := by
      rw [f_X5_need, i2, if_neg (by decide)]
    have ho : o_X5_need (Int32.ofNat r) fm (Int32.ofNat s) fr ap day grace longest spent spentIn spendings urgentSp dropped lapsedLate oldest kept RB p1 p2 := by
      rw [o_X5_need, i2, if_neg (by decide)]
      trivial
    have hz : f_X6_need states z hi p1 p2 = (0, states, 1, z, hi) := by
      rw [f_X6_need, i1, if_pos (vb_f rfl), f_X6_need_j39, if_neg nle1]
    have hzo : o_X6_need states z hi p1 p2 := by
      rw [o_X6_need, i1, if_pos (vb_f rfl), o_X6_need_j39, if_neg nle1]
      trivial
    rw [hf, hz]
    exact ⟨ho, Or.inr (Or.inl rfl), hzo, rfl, fun q => absurd q (by decide : ¬ (1 : Nat) = 0), RR_mk C H TT⟩
theorem sim_limit : Sim_limit RRf := by
  intro rm fm rq fr ap day grace longest spent spentIn spendings urgentSp dropped lapsedLate oldest kept RB ln tx states rl thr rd num due hash z hi rx pa p1 p2 p3 hR
  obtain ⟨⟨r, s, rfl, rfl, B⟩, H, TT⟩ := RR_el hR
  have C : CU (Int32.ofNat r) fm (Int32.ofNat s) fr ap day grace longest spent spentIn spendings urgentSp dropped lapsedLate z := ⟨r, s, rfl, rfl, B⟩
  have B0 := B
  obtain ⟨M, R, D, ⟨z0, z1, z2, z5, z6, z7, z8, z9, z10⟩, A⟩ := B0
  have h12 := M.1
  have h6 := R.1
  rcases mi_ M p1 with ⟨i1, i2, k, hk, rfl⟩ | ⟨i1, i2, -⟩
  · rcases cr_ p2 1 9999 with ⟨r1, r2, r3, r4⟩ | ⟨r1, r2⟩
    · rcases cr_ p3 1 9999 with ⟨q1, q2, q3, q4⟩ | ⟨q1, q2⟩
      · obtain ⟨n, n1, n2, rfl⟩ := cr_n (a := 1) (b := 9999) (by omega) (by omega) q3 q4
        obtain ⟨l1, l2⟩ := mlimit M hk p2 (Int32.ofNat n)
        have w2 : f_X6_isMoney p2 = true := r2
        have w3 : f_X6_isMoney (Int32.ofNat n) = true := q2
        by_cases hst : fm (8 * k + 5) = -1
        · have hcs : f_X5_checkStands (Int32.ofNat r) fm (Int32.ofNat k) = 0 := by rw [f_X5_checkStands, ms_c M hk, decide_eq_true hst, if_neg (vb_t rfl)]
          rw [ms_c M hk, decide_eq_true hst, if_neg (vb_t rfl)] at l1
          cases hl : f_X6_canLimit z (Int32.ofNat k) p2 (Int32.ofNat n) with
          | true =>
            rw [hl] at l1
            obtain ⟨RB2, o2, k2, st2, hi2, e1, e2, e3, e4, H2⟩ := hist_ H C
            obtain ⟨f', a1, a2, a3⟩ := limit_ B hk p2 n1 n2
            have hf : f_X5_limit (Int32.ofNat r) fm (Int32.ofNat s) fr ap day grace longest spent spentIn spendings urgentSp dropped lapsedLate oldest kept RB (Int32.ofNat k) p2 (Int32.ofNat n) = (0, fm (8 * k + 3), RB2, f', o2, k2) := by
              rw [f_X5_limit, i2, if_pos rfl, r1, if_pos rfl, q1, if_pos rfl, hcs, if_pos rfl, l1, if_neg (vb_t rfl), e1, f_X5_limit_c63, a1, f_X5_limit_c76]
            have ho : o_X5_limit (Int32.ofNat r) fm (Int32.ofNat s) fr ap day grace longest spent spentIn spendings urgentSp dropped lapsedLate oldest kept RB (Int32.ofNat k) p2 (Int32.ofNat n) := by
              rw [o_X5_limit, i2, if_pos rfl, r1, if_pos rfl, q1, if_pos rfl, hcs, if_pos rfl, l1, if_neg (vb_t rfl), o_X5_limit_c63, o_X5_limit_c76]
              exact ⟨e2, trivial⟩
            have hz : f_X6_limit states z hi (Int32.ofNat k) p2 (Int32.ofNat n) = (fm (8 * k + 3), st2, 0, upd (upd z (19 + 9 * k + 2) p2) (19 + 9 * k + 3) (Int32.ofNat n), hi2) := by
              rw [f_X6_limit, i1, if_neg (vb_t rfl), w2, if_neg (vb_t rfl), w3, if_neg (vb_t rfl), hl, if_neg (vb_t rfl), f_X6_limit_j46, if_pos le00, e3, f_X6_limit_c62, f_X6_limit_c77, f_X6_limit_c84, a2, mo3 M hk]
            have hzo : o_X6_limit states z hi (Int32.ofNat k) p2 (Int32.ofNat n) := by
              rw [o_X6_limit, i1, if_neg (vb_t rfl), w2, if_neg (vb_t rfl), w3, if_neg (vb_t rfl), hl, if_neg (vb_t rfl), o_X6_limit_j46, if_pos le00, o_X6_limit_c62, o_X6_limit_c77, o_X6_limit_c84]
              exact ⟨l2, e4, oo3 h12 hk, op2 h12 hk, op3 h12 hk, trivial⟩
            rw [hf, hz]
            exact ⟨ho, Or.inl rfl, hzo, rfl, fun _ => rfl, RR_mk ⟨r, s, rfl, rfl, a3⟩ H2 TT⟩
          | false =>
            rw [hl] at l1
            have hf : f_X5_limit (Int32.ofNat r) fm (Int32.ofNat s) fr ap day grace longest spent spentIn spendings urgentSp dropped lapsedLate oldest kept RB (Int32.ofNat k) p2 (Int32.ofNat n) = (3, 0, RB, fm, oldest, kept) := by
              rw [f_X5_limit, i2, if_pos rfl, r1, if_pos rfl, q1, if_pos rfl, hcs, if_pos rfl, l1, if_pos (vb_f rfl)]
            have ho : o_X5_limit (Int32.ofNat r) fm (Int32.ofNat s) fr ap day grace longest spent spentIn spendings urgentSp dropped lapsedLate oldest kept RB (Int32.ofNat k) p2 (Int32.ofNat n) := by
              rw [o_X5_limit, i2, if_pos rfl, r1, if_pos rfl, q1, if_pos rfl, hcs, if_pos rfl, l1, if_pos (vb_f rfl)]
              trivial
            have hz : f_X6_limit states z hi (Int32.ofNat k) p2 (Int32.ofNat n) = (0, states, 3, z, hi) := by
              rw [f_X6_limit, i1, if_neg (vb_t rfl), w2, if_neg (vb_t rfl), w3, if_neg (vb_t rfl), hl, if_pos (vb_f rfl), f_X6_limit_j46, if_neg nle3]
            have hzo : o_X6_limit states z hi (Int32.ofNat k) p2 (Int32.ofNat n) := by
              rw [o_X6_limit, i1, if_neg (vb_t rfl), w2, if_neg (vb_t rfl), w3, if_neg (vb_t rfl), hl, if_pos (vb_f rfl), o_X6_limit_j46, if_neg nle3]
              exact ⟨l2, trivial⟩
            rw [hf, hz]
            exact ⟨ho, Or.inr (Or.inr (Or.inr rfl)), hzo, rfl, fun q => absurd q (by decide : ¬ (3 : Nat) = 0), RR_mk C H TT⟩
        · have hcs : f_X5_checkStands (Int32.ofNat r) fm (Int32.ofNat k) = 3 := by rw [f_X5_checkStands, ms_c M hk, decide_eq_false hst, if_pos (vb_f rfl)]
          rw [ms_c M hk, decide_eq_false hst, if_pos (vb_f rfl)] at l1
          have hl := l1.symm
          have hf : f_X5_limit (Int32.ofNat r) fm (Int32.ofNat s) fr ap day grace longest spent spentIn spendings urgentSp dropped lapsedLate oldest kept RB (Int32.ofNat k) p2 (Int32.ofNat n) = (3, 0, RB, fm, oldest, kept) := by
            rw [f_X5_limit, i2, if_pos rfl, r1, if_pos rfl, q1, if_pos rfl, hcs, if_neg (by decide)]
          have ho : o_X5_limit (Int32.ofNat r) fm (Int32.ofNat s) fr ap day grace longest spent spentIn spendings urgentSp dropped lapsedLate oldest kept RB (Int32.ofNat k) p2 (Int32.ofNat n) := by
            rw [o_X5_limit, i2, if_pos rfl, r1, if_pos rfl, q1, if_pos rfl, hcs, if_neg (by decide)]
            trivial
          have hz : f_X6_limit states z hi (Int32.ofNat k) p2 (Int32.ofNat n) = (0, states, 3, z, hi) := by
            rw [f_X6_limit, i1, if_neg (vb_t rfl), w2, if_neg (vb_t rfl), w3, if_neg (vb_t rfl), hl, if_pos (vb_f rfl), f_X6_limit_j46, if_neg nle3]
          have hzo : o_X6_limit states z hi (Int32.ofNat k) p2 (Int32.ofNat n) := by
            rw [o_X6_limit, i1, if_neg (vb_t rfl), w2, if_neg (vb_t rfl), w3, if_neg (vb_t rfl), hl, if_pos (vb_f rfl), o_X6_limit_j46, if_neg nle3]
            exact ⟨l2, trivial⟩
          rw [hf, hz]
          exact ⟨ho, Or.inr (Or.inr (Or.inr rfl)), hzo, rfl, fun q => absurd q (by decide : ¬ (3 : Nat) = 0), RR_mk C H TT⟩
      · have w2 : f_X6_isMoney p2 = true := r2
        have w3 : f_X6_isMoney p3 = false := q2
        have hf : f_X5_limit (Int32.ofNat r) fm (Int32.ofNat s) fr ap day grace longest spent spentIn spendings urgentSp dropped lapsedLate oldest kept RB (Int32.ofNat k) p2 p3 = (2, 0, RB, fm, oldest, kept) := by
          rw [f_X5_limit, i2, if_pos rfl, r1, if_pos rfl, q1, if_neg (by decide)]
        have ho : o_X5_limit (Int32.ofNat r) fm (Int32.ofNat s) fr ap day grace longest spent spentIn spendings urgentSp dropped lapsedLate oldest kept RB (Int32.ofNat k) p2 p3 := by
          rw [o_X5_limit, i2, if_pos rfl, r1, if_pos rfl, q1, if_neg (by decide)]
          trivial
        have hz : f_X6_limit states z hi (Int32.ofNat k) p2 p3 = (0, states, 2, z, hi) := by
          rw [f_X6_limit, i1, if_neg (vb_t rfl), w2, if_neg (vb_t rfl), w3, if_pos (vb_f rfl), f_X6_limit_j27, f_X6_limit_j46, if_neg nle2]
        have hzo : o_X6_limit states z hi (Int32.ofNat k) p2 p3 := by
          rw [o_X6_limit, i1, if_neg (vb_t rfl), w2, if_neg (vb_t rfl), w3, if_pos (vb_f rfl), o_X6_limit_j27, o_X6_limit_j46, if_neg nle2]
          trivial
        rw [hf, hz]
        exact ⟨ho, Or.inr (Or.inr (Or.inl rfl)), hzo, rfl, fun q => absurd q (by decide : ¬ (2 : Nat) = 0), RR_mk C H TT⟩
    · have w2 : f_X6_isMoney p2 = false := r2
      have hf : f_X5_limit (Int32.ofNat r) fm (Int32.ofNat s) fr ap day grace longest spent spentIn spendings urgentSp dropped lapsedLate oldest kept RB (Int32.ofNat k) p2 p3 = (2, 0, RB, fm, oldest, kept) := by
        rw [f_X5_limit, i2, if_pos rfl, r1, if_neg (by decide)]
      have ho : o_X5_limit (Int32.ofNat r) fm (Int32.ofNat s) fr ap day grace longest spent spentIn spendings urgentSp dropped lapsedLate oldest kept RB (Int32.ofNat k) p2 p3 := by
        rw [o_X5_limit, i2, if_pos rfl, r1, if_neg (by decide)]
        trivial
      have hz : f_X6_limit states z hi (Int32.ofNat k) p2 p3 = (0, states, 2, z, hi) := by
        rw [f_X6_limit, i1, if_neg (vb_t rfl), w2, if_pos (vb_f rfl), f_X6_limit_j27, f_X6_limit_j46, if_neg nle2]
      have hzo : o_X6_limit states z hi (Int32.ofNat k) p2 p3 := by
        rw [o_X6_limit, i1, if_neg (vb_t rfl), w2, if_pos (vb_f rfl), o_X6_limit_j27, o_X6_limit_j46, if_neg nle2]
        trivial
      rw [hf, hz]
      exact ⟨ho, Or.inr (Or.inr (Or.inl rfl)), hzo, rfl, fun q => absurd q (by decide : ¬ (2 : Nat) = 0), RR_mk C H TT⟩
  · skip
    have hf : f_X5_limit (Int32.ofNat r) fm (Int32.ofNat s) fr ap day grace longest spent spentIn spendings urgentSp dropped lapsedLate oldest kept RB p1 p2 p3 = (1, 0, RB, fm, oldest, kept) := by
      rw [f_X5_limit, i2, if_neg (by decide)]
    have ho : o_X5_limit (Int32.ofNat r) fm (Int32.ofNat s) fr ap day grace longest spent spentIn spendings urgentSp dropped lapsedLate oldest kept RB p1 p2 p3 := by
      rw [o_X5_limit, i2, if_neg (by decide)]
      trivial
    have hz : f_X6_limit states z hi p1 p2 p3 = (0, states, 1, z, hi) := by
      rw [f_X6_limit, i1, if_pos (vb_f rfl), f_X6_limit_j46, if_neg nle1]
    have hzo : o_X6_limit states z hi p1 p2 p3 := by
      rw [o_X6_limit, i1, if_pos (vb_f rfl), o_X6_limit_j46, if_neg nle1]
      trivial
    rw [hf, hz]
    exact ⟨ho, Or.inr (Or.inl rfl), hzo, rfl, fun q => absurd q (by decide : ¬ (1 : Nat) = 0), RR_mk C H TT⟩
theorem sim_give : Sim_give RRf := by
  intro rm fm rq fr ap day grace longest spent spentIn spendings urgentSp dropped lapsedLate oldest kept RB ln tx states rl thr rd num due hash z hi rx pa p1 p2 p3 p4 p5 hR
  obtain ⟨⟨r, s, rfl, rfl, B⟩, H, TT⟩ := RR_el hR
  have C : CU (Int32.ofNat r) fm (Int32.ofNat s) fr ap day grace longest spent spentIn spendings urgentSp dropped lapsedLate z := ⟨r, s, rfl, rfl, B⟩
  have B0 := B
  obtain ⟨M, R, D, ⟨z0, z1, z2, z5, z6, z7, z8, z9, z10⟩, A⟩ := B0
  have h12 := M.1
  have h6 := R.1
  have up : up_ r p1 ∧ f_X5_give (Int32.ofNat r) fm (Int32.ofNat s) fr ap day grace longest spent spentIn spendings urgentSp dropped lapsedLate oldest kept RB p1 p2 p3 p4 p5 = f_X5_give_j10 (Int32.ofNat r) fm (Int32.ofNat s) fr ap day grace longest spent spentIn spendings urgentSp dropped lapsedLate oldest kept RB p1 p2 p3 p4 p5 ∧ (o_X5_give_j10 (Int32.ofNat r) fm (Int32.ofNat s) fr ap day grace longest spent spentIn spendings urgentSp dropped lapsedLate oldest kept RB p1 p2 p3 p4 p5 → o_X5_give (Int32.ofNat r) fm (Int32.ofNat s) fr ap day grace longest spent spentIn spendings urgentSp dropped lapsedLate oldest kept RB p1 p2 p3 p4 p5) ∧ (∀ b : Bool, f_X6_give_j37 states z hi p1 p2 p3 p4 p5 b = f_X6_give_j57 states z hi p1 p2 p3 p4 p5 b ∧ (o_X6_give_j57 states z hi p1 p2 p3 p4 p5 b → o_X6_give_j37 states z hi p1 p2 p3 p4 p5 b)) ∨ (f_X5_checkMandate (Int32.ofNat r) p1 = 1 ∧ ¬ p1 = -1 ∧ f_X6_isMandate z p1 = false) := by
    by_cases hm1 : p1 = -1
    · left
      refine ⟨Or.inl hm1, ?_, ?_, fun b => ⟨?_, ?_⟩⟩
      · rw [f_X5_give, if_pos hm1]
      · rw [o_X5_give, if_pos hm1]
        exact id
      · rw [f_X6_give_j37, if_pos hm1]
      · rw [o_X6_give_j37, if_pos hm1]
        exact id
    · rcases mi_ M p1 with ⟨i1, i2, k, hk, hke⟩ | ⟨i1, i2, -⟩
      · left
        refine ⟨Or.inr ⟨k, hk, hke⟩, ?_, ?_, fun b => ⟨?_, ?_⟩⟩
        · rw [f_X5_give, if_neg hm1, i2, if_pos rfl, f_X5_give_j10]
        · rw [o_X5_give, if_neg hm1, i2, if_pos rfl, o_X5_give_j10]
          exact id
        · rw [f_X6_give_j37, if_neg hm1, i1, if_neg (vb_t rfl)]
        · rw [o_X6_give_j37, if_neg hm1, i1, if_neg (vb_t rfl)]
          exact id
      · right
        exact ⟨i2, hm1, i1⟩
  -- the reference's word on the numbers
  have nums : (f_X6_isPerson p2 = true ∧ f_X6_isMoney p3 = true ∧ f_X6_isMoney p4 = true ∧ f_X6_within p5 0 3 = true ∧ f_X6_give states z hi p1 p2 p3 p4 p5 = f_X6_give_j37 states z hi p1 p2 p3 p4 p5 true ∧ (o_X6_give_j37 states z hi p1 p2 p3 p4 p5 true → o_X6_give states z hi p1 p2 p3 p4 p5)) ∨ (¬ (f_X6_isPerson p2 = true ∧ f_X6_isMoney p3 = true ∧ f_X6_isMoney p4 = true ∧ f_X6_within p5 0 3 = true) ∧ f_X6_give states z hi p1 p2 p3 p4 p5 = f_X6_give_j37 states z hi p1 p2 p3 p4 p5 false ∧ (o_X6_give_j37 states z hi p1 p2 p3 p4 p5 false → o_X6_give states z hi p1 p2 p3 p4 p5)) := by
    rw [f_X6_give, o_X6_give, f_X6_give_j36, o_X6_give_j36]
    cases f_X6_isPerson p2 with
    | false =>
      right
      rw [if_pos (vb_f rfl), if_pos (vb_f rfl)]
      exact ⟨fun q => absurd q.1 (by decide), rfl, id⟩
    | true =>
      rw [if_neg (vb_t rfl), if_neg (vb_t rfl)]
      cases f_X6_isMoney p3 with
      | false =>
        right
        rw [if_pos (vb_f rfl), if_pos (vb_f rfl)]
        exact ⟨fun q => absurd q.2.1 (by decide), rfl, id⟩
      | true =>
        rw [if_neg (vb_t rfl), if_neg (vb_t rfl)]
        cases f_X6_isMoney p4 with
        | false =>
          right
          rw [if_pos (vb_f rfl), if_pos (vb_f rfl)]
          exact ⟨fun q => absurd q.2.2.1 (by decide), rfl, id⟩
        | true =>
          rw [if_neg (vb_t rfl), if_neg (vb_t rfl)]
          cases f_X6_within p5 0 3 with
          | false =>
            right
            rw [if_pos (vb_f rfl), if_pos (vb_f rfl)]
            exact ⟨fun q => absurd q.2.2.2 (by decide), rfl, id⟩
          | true =>
            left
            rw [if_neg (vb_t rfl), if_neg (vb_t rfl)]
            exact ⟨rfl, rfl, rfl, rfl, rfl, id⟩
  have no : ∀ (c : Nat) (t0 : Int32), (c = 1 ∧ t0 = 1 ∨ c = 2 ∧ t0 = 2 ∨ c = 3 ∧ t0 = 3) → f_X5_give (Int32.ofNat r) fm (Int32.ofNat s) fr ap day grace longest spent spentIn spendings urgentSp dropped lapsedLate oldest kept RB p1 p2 p3 p4 p5 = (c, 0, RB, Int32.ofNat r, fm, oldest, kept) → o_X5_give (Int32.ofNat r) fm (Int32.ofNat s) fr ap day grace longest spent spentIn spendings urgentSp dropped lapsedLate oldest kept RB p1 p2 p3 p4 p5 → f_X6_give states z hi p1 p2 p3 p4 p5 = f_X6_give_j82 states z hi p1 p2 p3 p4 p5 t0 → (o_X6_give_j82 states z hi p1 p2 p3 p4 p5 t0 → o_X6_give states z hi p1 p2 p3 p4 p5) → ((o_X5_give (Int32.ofNat r) fm (Int32.ofNat s) fr ap day grace longest spent spentIn spendings urgentSp dropped lapsedLate oldest kept RB p1 p2 p3 p4 p5) ∧ ((f_X5_give (Int32.ofNat r) fm (Int32.ofNat s) fr ap day grace longest spent spentIn spendings urgentSp dropped lapsedLate oldest kept RB p1 p2 p3 p4 p5).1 = 0 ∨ (f_X5_give (Int32.ofNat r) fm (Int32.ofNat s) fr ap day grace longest spent spentIn spendings urgentSp dropped lapsedLate oldest kept RB p1 p2 p3 p4 p5).1 = 1 ∨ (f_X5_give (Int32.ofNat r) fm (Int32.ofNat s) fr ap day grace longest spent spentIn spendings urgentSp dropped lapsedLate oldest kept RB p1 p2 p3 p4 p5).1 = 2 ∨ (f_X5_give (Int32.ofNat r) fm (Int32.ofNat s) fr ap day grace longest spent spentIn spendings urgentSp dropped lapsedLate oldest kept RB p1 p2 p3 p4 p5).1 = 3) ∧ (o_X6_give states z hi p1 p2 p3 p4 p5) ∧ (f_X6_give states z hi p1 p2 p3 p4 p5).2.2.1 = vm_rk 1 2 ((f_X5_give (Int32.ofNat r) fm (Int32.ofNat s) fr ap day grace longest spent spentIn spendings urgentSp dropped lapsedLate oldest kept RB p1 p2 p3 p4 p5).1) ∧ ((f_X5_give (Int32.ofNat r) fm (Int32.ofNat s) fr ap day grace longest spent spentIn spendings urgentSp dropped lapsedLate oldest kept RB p1 p2 p3 p4 p5).1 = 0 → (f_X5_give (Int32.ofNat r) fm (Int32.ofNat s) fr ap day grace longest spent spentIn spendings urgentSp dropped lapsedLate oldest kept RB p1 p2 p3 p4 p5).2.1 = (f_X6_give states z hi p1 p2 p3 p4 p5).1) ∧ RRf ((f_X5_give (Int32.ofNat r) fm (Int32.ofNat s) fr ap day grace longest spent spentIn spendings urgentSp dropped lapsedLate oldest kept RB p1 p2 p3 p4 p5).2.2.2.1) ((f_X5_give (Int32.ofNat r) fm (Int32.ofNat s) fr ap day grace longest spent spentIn spendings urgentSp dropped lapsedLate oldest kept RB p1 p2 p3 p4 p5).2.2.2.2.1) (Int32.ofNat s) fr ap day grace longest spent spentIn spendings urgentSp dropped lapsedLate ((f_X5_give (Int32.ofNat r) fm (Int32.ofNat s) fr ap day grace longest spent spentIn spendings urgentSp dropped lapsedLate oldest kept RB p1 p2 p3 p4 p5).2.2.2.2.2.1) ((f_X5_give (Int32.ofNat r) fm (Int32.ofNat s) fr ap day grace longest spent spentIn spendings urgentSp dropped lapsedLate oldest kept RB p1 p2 p3 p4 p5).2.2.2.2.2.2) ((f_X5_give (Int32.ofNat r) fm (Int32.ofNat s) fr ap day grace longest spent spentIn spendings urgentSp dropped lapsedLate oldest kept RB p1 p2 p3 p4 p5).2.2.1) ln tx ((f_X6_give states z hi p1 p2 p3 p4 p5).2.1) rl ((f_X6_give states z hi p1 p2 p3 p4 p5).2.2.1) rd num due hash ((f_X6_give states z hi p1 p2 p3 p4 p5).2.2.2.1) ((f_X6_give states z hi p1 p2 p3 p4 p5).2.2.2.2) rx pa) := fun c t0 hc hf ho hz hzo => by
    have hz2 : f_X6_give_j82 states z hi p1 p2 p3 p4 p5 t0 = (0, states, t0, z, hi) ∧ o_X6_give_j82 states z hi p1 p2 p3 p4 p5 t0 := by
      rw [f_X6_give_j82, o_X6_give_j82]
      rcases hc with ⟨-, h⟩ | ⟨-, h⟩ | ⟨-, h⟩
      · rw [h, if_neg nle1, if_neg nle1]; exact ⟨rfl, trivial⟩
      · rw [h, if_neg nle2, if_neg nle2]; exact ⟨rfl, trivial⟩
      · rw [h, if_neg nle3, if_neg nle3]; exact ⟨rfl, trivial⟩
    have hz3 := hz.trans hz2.1
    have hzo3 := hzo hz2.2
    rw [hf, hz3]
    rcases hc with ⟨h, h'⟩ | ⟨h, h'⟩ | ⟨h, h'⟩
    · subst h; subst h'
      exact ⟨ho, Or.inr (Or.inl rfl), hzo3, rfl, fun q => absurd q (by decide : ¬ (1 : Nat) = 0), RR_mk C H TT⟩
    · subst h; subst h'
      exact ⟨ho, Or.inr (Or.inr (Or.inl rfl)), hzo3, rfl, fun q => absurd q (by decide : ¬ (2 : Nat) = 0), RR_mk C H TT⟩
    · subst h; subst h'
      exact ⟨ho, Or.inr (Or.inr (Or.inr rfl)), hzo3, rfl, fun q => absurd q (by decide : ¬ (3 : Nat) = 0), RR_mk C H TT⟩
  rcases up with ⟨u1, u2, u3, u4⟩ | ⟨u1, u2, u3⟩
  · -- the class on the numbers
    rcases nums with ⟨n1, n2, n3, n4, n5, n6⟩ | ⟨n1, n2, n3⟩
    · have c2 : f_X5_checkRange p2 0 7 = 0 ∧ ¬ p2 < 0 ∧ ¬ 7 < p2 := by
        rcases cr_ p2 0 7 with ⟨q1, -, q3, q4⟩ | ⟨-, q2⟩
        · exact ⟨q1, q3, q4⟩
        · have n1' : f_X6_within p2 0 7 = true := n1
          rw [q2] at n1'; exact absurd n1' (by decide)
      have c3 : f_X5_checkRange p3 1 9999 = 0 ∧ ¬ p3 < 1 ∧ ¬ 9999 < p3 := by
        rcases cr_ p3 1 9999 with ⟨q1, -, q3, q4⟩ | ⟨-, q2⟩
        · exact ⟨q1, q3, q4⟩
        · have n1' : f_X6_within p3 1 9999 = true := n2
          rw [q2] at n1'; exact absurd n1' (by decide)
      have c4 : f_X5_checkRange p4 1 9999 = 0 ∧ ¬ p4 < 1 ∧ ¬ 9999 < p4 := by
        rcases cr_ p4 1 9999 with ⟨q1, -, q3, q4⟩ | ⟨-, q2⟩
        · exact ⟨q1, q3, q4⟩
        · have n1' : f_X6_within p4 1 9999 = true := n3
          rw [q2] at n1'; exact absurd n1' (by decide)
      have c5 : f_X5_checkRange p5 0 3 = 0 ∧ ¬ p5 < 0 ∧ ¬ 3 < p5 := by
        rcases cr_ p5 0 3 with ⟨q1, -, q3, q4⟩ | ⟨-, q2⟩
        · exact ⟨q1, q3, q4⟩
        · rw [q2] at n4; exact absurd n4 (by decide)
      obtain ⟨g1, g2, g3⟩ := mplace M u1 p3 p4 longest z1
      cases hg : f_X6_canGive z p1 p3 p4 with
      | false =>
        rw [hg] at g1
        refine no 3 3 (Or.inr (Or.inr ⟨rfl, rfl⟩)) ?_ ?_ ?_ ?_
        · rw [u2, f_X5_give_j10, c2.1, if_pos rfl, c3.1, if_pos rfl, c4.1, if_pos rfl, c5.1, if_pos rfl, g1, if_pos (vb_f rfl)]
        · apply u3
          rw [o_X5_give_j10, c2.1, if_pos rfl, c3.1, if_pos rfl, c4.1, if_pos rfl, c5.1, if_pos rfl, g1, if_pos (vb_f rfl)]
          trivial
        · rw [n5, (u4 true).1, f_X6_give_j57, if_neg (vb_t rfl : ¬ vm_bi true = 0), hg, if_pos (vb_f rfl)]
        · intro q
          apply n6
          apply (u4 true).2
          rw [o_X6_give_j57, if_neg (vb_t rfl : ¬ vm_bi true = 0), hg, if_pos (vb_f rfl)]
          exact ⟨g2, q⟩
      | true =>
        rw [hg] at g1
        obtain ⟨hr, hst⟩ := g3 hg
        obtain ⟨h, -, h7, rfl⟩ := cr_n (a := 0) (b := 7) (by omega) (by omega) c2.2.1 c2.2.2
        obtain ⟨e, -, -, rfl⟩ := cr_n (a := 1) (b := 9999) (by omega) (by omega) c3.2.1 c3.2.2
        obtain ⟨p, pa1, pa2, rfl⟩ := cr_n (a := 1) (b := 9999) (by omega) (by omega) c4.2.1 c4.2.2
        obtain ⟨n, -, n3', rfl⟩ := cr_n (a := 0) (b := 3) (by omega) (by omega) c5.2.1 c5.2.2
        have B2 := give_ B hr u1 hst (h := h) (e := e) (p := p) (n := n) (by omega) pa1 pa2 n3'
        obtain ⟨RB2, o2, k2, st2, hi2, e1, e2, e3, e4, H2⟩ := hist_ H C
        obtain ⟨b1, b2⟩ := begin_z hr M.2.1.1 p1 (Int32.ofNat h) (Int32.ofNat e) (Int32.ofNat p) (Int32.ofNat n) 0 st2 hi2
        have hf : f_X5_give (Int32.ofNat r) fm (Int32.ofNat s) fr ap day grace longest spent spentIn spendings urgentSp dropped lapsedLate oldest kept RB p1 (Int32.ofNat h) (Int32.ofNat e) (Int32.ofNat p) (Int32.ofNat n) = (0, Int32.ofNat r, RB2, Int32.ofNat (r + 1), bgf r fm p1 (Int32.ofNat h) (Int32.ofNat e) (Int32.ofNat p) (Int32.ofNat n), o2, k2) := by
          rw [u2, f_X5_give_j10, c2.1, if_pos rfl, c3.1, if_pos rfl, c4.1, if_pos rfl, c5.1, if_pos rfl, g1, if_neg (vb_t rfl), e1, f_X5_give_c76, begin_c hr, f_X5_give_c93]
        have ho : o_X5_give (Int32.ofNat r) fm (Int32.ofNat s) fr ap day grace longest spent spentIn spendings urgentSp dropped lapsedLate oldest kept RB p1 (Int32.ofNat h) (Int32.ofNat e) (Int32.ofNat p) (Int32.ofNat n) := by
          apply u3
          rw [o_X5_give_j10, c2.1, if_pos rfl, c3.1, if_pos rfl, c4.1, if_pos rfl, c5.1, if_pos rfl, g1, if_neg (vb_t rfl), o_X5_give_c76, o_X5_give_c93]
          exact ⟨e2, trivial⟩
        have hz : f_X6_give states z hi p1 (Int32.ofNat h) (Int32.ofNat e) (Int32.ofNat p) (Int32.ofNat n) = (Int32.ofNat r, st2, 0, bgz r z p1 (Int32.ofNat h) (Int32.ofNat e) (Int32.ofNat p) (Int32.ofNat n), hi2) := by
          rw [n5, (u4 true).1, f_X6_give_j57, if_neg (vb_t rfl : ¬ vm_bi true = 0), hg, if_neg (vb_t rfl), f_X6_give_j82, if_pos le00, e3]
          exact b1
        have hzo : o_X6_give states z hi p1 (Int32.ofNat h) (Int32.ofNat e) (Int32.ofNat p) (Int32.ofNat n) := by
          apply n6
          apply (u4 true).2
          rw [o_X6_give_j57, if_neg (vb_t rfl : ¬ vm_bi true = 0), hg, if_neg (vb_t rfl), o_X6_give_j82, if_pos le00, e3]
          exact ⟨g2, e4, b2⟩
        rw [hf, hz]
        exact ⟨ho, Or.inl rfl, hzo, rfl, fun _ => rfl, RR_mk ⟨r + 1, s, rfl, rfl, B2⟩ H2 TT⟩
    · refine no 2 2 (Or.inr (Or.inl ⟨rfl, rfl⟩)) ?_ ?_ ?_ ?_
      · rw [u2, f_X5_give_j10]
        rcases cr_ p2 0 7 with ⟨q1, w1, -, -⟩ | ⟨q1, -⟩
        · rw [q1, if_pos rfl]
          rcases cr_ p3 1 9999 with ⟨q1, w2, -, -⟩ | ⟨q1, -⟩
          · rw [q1, if_pos rfl]
            rcases cr_ p4 1 9999 with ⟨q1, w3, -, -⟩ | ⟨q1, -⟩
            · rw [q1, if_pos rfl]
              rcases cr_ p5 0 3 with ⟨q1, w4, -, -⟩ | ⟨q1, -⟩
              · exact absurd ⟨w1, w2, w3, w4⟩ n1
              · rw [q1, if_neg (by decide)]
            · rw [q1, if_neg (by decide)]
          · rw [q1, if_neg (by decide)]
        · rw [q1, if_neg (by decide)]
      · apply u3
        rw [o_X5_give_j10]
        rcases cr_ p2 0 7 with ⟨q1, w1, -, -⟩ | ⟨q1, -⟩
        · rw [q1, if_pos rfl]
          rcases cr_ p3 1 9999 with ⟨q1, w2, -, -⟩ | ⟨q1, -⟩
          · rw [q1, if_pos rfl]
            rcases cr_ p4 1 9999 with ⟨q1, w3, -, -⟩ | ⟨q1, -⟩
            · rw [q1, if_pos rfl]
              rcases cr_ p5 0 3 with ⟨q1, w4, -, -⟩ | ⟨q1, -⟩
              · exact absurd ⟨w1, w2, w3, w4⟩ n1
              · rw [q1, if_neg (by decide)]; trivial
            · rw [q1, if_neg (by decide)]; trivial
          · rw [q1, if_neg (by decide)]; trivial
        · rw [q1, if_neg (by decide)]; trivial
      · rw [n2, (u4 false).1, f_X6_give_j57, if_pos (vb_f rfl : vm_bi false = 0)]
      · intro q
        apply n3
        apply (u4 false).2
        rw [o_X6_give_j57, if_pos (vb_f rfl : vm_bi false = 0)]
        exact q
  · refine no 1 1 (Or.inl ⟨rfl, rfl⟩) ?_ ?_ ?_ ?_
    · rw [f_X5_give, if_neg u2, u1, if_neg (by decide)]
    · rw [o_X5_give, if_neg u2, u1, if_neg (by decide)]
      trivial
    · rcases nums with ⟨-, -, -, -, n5, -⟩ | ⟨-, n2, -⟩
      · rw [n5, f_X6_give_j37, if_neg u2, u3, if_pos (vb_f rfl)]
      · rw [n2, f_X6_give_j37, if_neg u2, u3, if_pos (vb_f rfl)]
    · intro q
      rcases nums with ⟨-, -, -, -, -, n6⟩ | ⟨-, -, n3⟩
      · apply n6
        rw [o_X6_give_j37, if_neg u2, u3, if_pos (vb_f rfl)]
        exact q
      · apply n3
        rw [o_X6_give_j37, if_neg u2, u3, if_pos (vb_f rfl)]
        exact q
