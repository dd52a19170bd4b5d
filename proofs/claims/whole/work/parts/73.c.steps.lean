/-! THE STEPS: spendings, days, settings -/
theorem sim_spend : Sim_spend RRf := by
  intro rm fm rq fr ap day grace longest spent spentIn spendings urgentSp dropped lapsedLate oldest kept RB ln tx states rl thr rd num due hash z hi rx pa p1 p2 hR
  obtain ⟨⟨r, s, rfl, rfl, B⟩, H, TT⟩ := RR_el hR
  have C : CU (Int32.ofNat r) fm (Int32.ofNat s) fr ap day grace longest spent spentIn spendings urgentSp dropped lapsedLate z := ⟨r, s, rfl, rfl, B⟩
  have B0 := B
  obtain ⟨M, R, D, ⟨z0, z1, z2, z5, z6, z7, z8, z9, z10⟩, A⟩ := B0
  have h12 := M.1
  have h6 := R.1
  have ub : vm_bi false = 0 := rfl
  rcases mi_ M p1 with ⟨i1, i2, k, hk, rfl⟩ | ⟨i1, i2, -⟩
  · rcases cr_ p2 1 9999 with ⟨r1, r2, r3, r4⟩ | ⟨r1, r2⟩
    · obtain ⟨n, n1, n2, rfl⟩ := cr_n (a := 1) (b := 9999) (by omega) (by omega) r3 r4
      have w2 : f_X6_isMoney (Int32.ofNat n) = true := r2
      obtain ⟨c1, c2, -⟩ := canask M R hk (Int32.ofNat n) 0
      cases hc : f_X6_canAsk z (Int32.ofNat k) (Int32.ofNat n) 0 with
      | true =>
        rw [hc] at c1
        obtain ⟨RB2, o2, k2, st2, hi2, e1, e2, e3, e4, H2⟩ := hist_ H C
        obtain ⟨s', f', g', z', v, sp, si, sn, us, a1, a2, a3, a4⟩ := ask_ B hk (a := n) n1 n2 false hc
        rw [ub] at a1 a2 a3
        have ha : f_X5_askFor (Int32.ofNat r) fm (Int32.ofNat s) fr ap day grace longest spent spentIn spendings urgentSp dropped lapsedLate oldest kept RB (Int32.ofNat k) (Int32.ofNat n) 0 = (0, v, RB2, sp, si, sn, us, f', Int32.ofNat s', g', o2, k2) := by
          rw [f_X5_askFor, i2, if_pos rfl, r1, if_pos rfl, c1, if_neg (vb_t rfl), e1, f_X5_askFor_c48, a1, f_X5_askFor_c58]
        have hao : o_X5_askFor (Int32.ofNat r) fm (Int32.ofNat s) fr ap day grace longest spent spentIn spendings urgentSp dropped lapsedLate oldest kept RB (Int32.ofNat k) (Int32.ofNat n) 0 := by
          rw [o_X5_askFor, i2, if_pos rfl, r1, if_pos rfl, c1, if_neg (vb_t rfl), o_X5_askFor_c48, o_X5_askFor_c58]
          exact ⟨e2, trivial⟩
        have hf : f_X5_spend (Int32.ofNat r) fm (Int32.ofNat s) fr ap day grace longest spent spentIn spendings urgentSp dropped lapsedLate oldest kept RB (Int32.ofNat k) (Int32.ofNat n) = (0, v, RB2, sp, si, sn, us, f', Int32.ofNat s', g', o2, k2) := by
          rw [f_X5_spend, ha, if_pos rfl]
        have ho : o_X5_spend (Int32.ofNat r) fm (Int32.ofNat s) fr ap day grace longest spent spentIn spendings urgentSp dropped lapsedLate oldest kept RB (Int32.ofNat k) (Int32.ofNat n) := by
          rw [o_X5_spend, ha, if_pos rfl]
          exact ⟨hao, trivial⟩
        have hz : f_X6_spend states z hi (Int32.ofNat k) (Int32.ofNat n) = (v, st2, 0, z', hi2) := by
          rw [f_X6_spend, i1, if_neg (vb_t rfl), w2, if_neg (vb_t rfl), hc, if_neg (vb_t rfl), f_X6_spend_j39, if_pos le00, e3, f_X6_spend_c55, a2, f_X6_spend_c62]
        have hzo : o_X6_spend states z hi (Int32.ofNat k) (Int32.ofNat n) := by
          rw [o_X6_spend, i1, if_neg (vb_t rfl), w2, if_neg (vb_t rfl), hc, if_neg (vb_t rfl), o_X6_spend_j39, if_pos le00, o_X6_spend_c55, o_X6_spend_c62]
          exact ⟨c2, e4, a3, trivial⟩
        rw [hf, hz]
        exact ⟨ho, Or.inl rfl, hzo, rfl, fun _ => rfl, RR_mk ⟨r, s', rfl, rfl, a4⟩ H2 TT⟩
      | false =>
        rw [hc] at c1
        have ha : f_X5_askFor (Int32.ofNat r) fm (Int32.ofNat s) fr ap day grace longest spent spentIn spendings urgentSp dropped lapsedLate oldest kept RB (Int32.ofNat k) (Int32.ofNat n) 0 = (3, 0, RB, spent, spentIn, spendings, urgentSp, fm, Int32.ofNat s, fr, oldest, kept) := by
          rw [f_X5_askFor, i2, if_pos rfl, r1, if_pos rfl, c1, if_pos (vb_f rfl)]
        have hao : o_X5_askFor (Int32.ofNat r) fm (Int32.ofNat s) fr ap day grace longest spent spentIn spendings urgentSp dropped lapsedLate oldest kept RB (Int32.ofNat k) (Int32.ofNat n) 0 := by
          rw [o_X5_askFor, i2, if_pos rfl, r1, if_pos rfl, c1, if_pos (vb_f rfl)]
          trivial
        have h9 : ¬ ((3, 0, RB, spent, spentIn, spendings, urgentSp, fm, Int32.ofNat s, fr, oldest, kept) : Nat × Int32 × (Nat → vm_BK) × Int32 × Int32 × Int32 × Int32 × (Nat → Int32) × Int32 × (Nat → Int32) × Int32 × Int32).1 = 0 := (by decide : ¬ (3 : Nat) = 0)
        have hf : f_X5_spend (Int32.ofNat r) fm (Int32.ofNat s) fr ap day grace longest spent spentIn spendings urgentSp dropped lapsedLate oldest kept RB (Int32.ofNat k) (Int32.ofNat n) = (3, 0, RB, spent, spentIn, spendings, urgentSp, fm, Int32.ofNat s, fr, oldest, kept) := by
          rw [f_X5_spend, ha, if_neg h9]
        have ho : o_X5_spend (Int32.ofNat r) fm (Int32.ofNat s) fr ap day grace longest spent spentIn spendings urgentSp dropped lapsedLate oldest kept RB (Int32.ofNat k) (Int32.ofNat n) := by
          rw [o_X5_spend, ha, if_neg h9]
          exact ⟨hao, trivial⟩
        have hz : f_X6_spend states z hi (Int32.ofNat k) (Int32.ofNat n) = (0, states, 3, z, hi) := by
          rw [f_X6_spend, i1, if_neg (vb_t rfl), w2, if_neg (vb_t rfl), hc, if_pos (vb_f rfl), f_X6_spend_j39, if_neg nle3]
        have hzo : o_X6_spend states z hi (Int32.ofNat k) (Int32.ofNat n) := by
          rw [o_X6_spend, i1, if_neg (vb_t rfl), w2, if_neg (vb_t rfl), hc, if_pos (vb_f rfl), o_X6_spend_j39, if_neg nle3]
          exact ⟨c2, trivial⟩
        rw [hf, hz]
        exact ⟨ho, Or.inr (Or.inr (Or.inr rfl)), hzo, rfl, fun q => absurd q (by decide : ¬ (3 : Nat) = 0), RR_mk C H TT⟩
    · have w2 : f_X6_isMoney p2 = false := r2
      have ha : f_X5_askFor (Int32.ofNat r) fm (Int32.ofNat s) fr ap day grace longest spent spentIn spendings urgentSp dropped lapsedLate oldest kept RB (Int32.ofNat k) p2 0 = (2, 0, RB, spent, spentIn, spendings, urgentSp, fm, Int32.ofNat s, fr, oldest, kept) := by
        rw [f_X5_askFor, i2, if_pos rfl, r1, if_neg (by decide)]
      have hao : o_X5_askFor (Int32.ofNat r) fm (Int32.ofNat s) fr ap day grace longest spent spentIn spendings urgentSp dropped lapsedLate oldest kept RB (Int32.ofNat k) p2 0 := by
        rw [o_X5_askFor, i2, if_pos rfl, r1, if_neg (by decide)]
        trivial
      have h9 : ¬ ((2, 0, RB, spent, spentIn, spendings, urgentSp, fm, Int32.ofNat s, fr, oldest, kept) : Nat × Int32 × (Nat → vm_BK) × Int32 × Int32 × Int32 × Int32 × (Nat → Int32) × Int32 × (Nat → Int32) × Int32 × Int32).1 = 0 := (by decide : ¬ (2 : Nat) = 0)
      have hf : f_X5_spend (Int32.ofNat r) fm (Int32.ofNat s) fr ap day grace longest spent spentIn spendings urgentSp dropped lapsedLate oldest kept RB (Int32.ofNat k) p2 = (2, 0, RB, spent, spentIn, spendings, urgentSp, fm, Int32.ofNat s, fr, oldest, kept) := by
        rw [f_X5_spend, ha, if_neg h9]
      have ho : o_X5_spend (Int32.ofNat r) fm (Int32.ofNat s) fr ap day grace longest spent spentIn spendings urgentSp dropped lapsedLate oldest kept RB (Int32.ofNat k) p2 := by
        rw [o_X5_spend, ha, if_neg h9]
        exact ⟨hao, trivial⟩
      have hz : f_X6_spend states z hi (Int32.ofNat k) p2 = (0, states, 2, z, hi) := by
        rw [f_X6_spend, i1, if_neg (vb_t rfl), w2, if_pos (vb_f rfl), f_X6_spend_j39, if_neg nle2]
      have hzo : o_X6_spend states z hi (Int32.ofNat k) p2 := by
        rw [o_X6_spend, i1, if_neg (vb_t rfl), w2, if_pos (vb_f rfl), o_X6_spend_j39, if_neg nle2]
        trivial
      rw [hf, hz]
      exact ⟨ho, Or.inr (Or.inr (Or.inl rfl)), hzo, rfl, fun q => absurd q (by decide : ¬ (2 : Nat) = 0), RR_mk C H TT⟩
  · skip
    have ha : f_X5_askFor (Int32.ofNat r) fm (Int32.ofNat s) fr ap day grace longest spent spentIn spendings urgentSp dropped lapsedLate oldest kept RB p1 p2 0 = (1, 0, RB, spent, spentIn, spendings, urgentSp, fm, Int32.ofNat s, fr, oldest, kept) := by
      rw [f_X5_askFor, i2, if_neg (by decide)]
    have hao : o_X5_askFor (Int32.ofNat r) fm (Int32.ofNat s) fr ap day grace longest spent spentIn spendings urgentSp dropped lapsedLate oldest kept RB p1 p2 0 := by
      rw [o_X5_askFor, i2, if_neg (by decide)]
      trivial
    have h9 : ¬ ((1, 0, RB, spent, spentIn, spendings, urgentSp, fm, Int32.ofNat s, fr, oldest, kept) : Nat × Int32 × (Nat → vm_BK) × Int32 × Int32 × Int32 × Int32 × (Nat → Int32) × Int32 × (Nat → Int32) × Int32 × Int32).1 = 0 := (by decide : ¬ (1 : Nat) = 0)
    have hf : f_X5_spend (Int32.ofNat r) fm (Int32.ofNat s) fr ap day grace longest spent spentIn spendings urgentSp dropped lapsedLate oldest kept RB p1 p2 = (1, 0, RB, spent, spentIn, spendings, urgentSp, fm, Int32.ofNat s, fr, oldest, kept) := by
      rw [f_X5_spend, ha, if_neg h9]
    have ho : o_X5_spend (Int32.ofNat r) fm (Int32.ofNat s) fr ap day grace longest spent spentIn spendings urgentSp dropped lapsedLate oldest kept RB p1 p2 := by
      rw [o_X5_spend, ha, if_neg h9]
      exact ⟨hao, trivial⟩
    have hz : f_X6_spend states z hi p1 p2 = (0, states, 1, z, hi) := by
      rw [f_X6_spend, i1, if_pos (vb_f rfl), f_X6_spend_j39, if_neg nle1]
    have hzo : o_X6_spend states z hi p1 p2 := by
      rw [o_X6_spend, i1, if_pos (vb_f rfl), o_X6_spend_j39, if_neg nle1]
      trivial
    rw [hf, hz]
    exact ⟨ho, Or.inr (Or.inl rfl), hzo, rfl, fun q => absurd q (by decide : ¬ (1 : Nat) = 0), RR_mk C H TT⟩
theorem sim_urge : Sim_urge RRf := by
  intro rm fm rq fr ap day grace longest spent spentIn spendings urgentSp dropped lapsedLate oldest kept RB ln tx states rl thr rd num due hash z hi rx pa p1 p2 hR
  obtain ⟨⟨r, s, rfl, rfl, B⟩, H, TT⟩ := RR_el hR
  have C : CU (Int32.ofNat r) fm (Int32.ofNat s) fr ap day grace longest spent spentIn spendings urgentSp dropped lapsedLate z := ⟨r, s, rfl, rfl, B⟩
  have B0 := B
  obtain ⟨M, R, D, ⟨z0, z1, z2, z5, z6, z7, z8, z9, z10⟩, A⟩ := B0
  have h12 := M.1
  have h6 := R.1
  have ub : vm_bi true = 1 := rfl
  rcases mi_ M p1 with ⟨i1, i2, k, hk, rfl⟩ | ⟨i1, i2, -⟩
  · rcases cr_ p2 1 9999 with ⟨r1, r2, r3, r4⟩ | ⟨r1, r2⟩
    · obtain ⟨n, n1, n2, rfl⟩ := cr_n (a := 1) (b := 9999) (by omega) (by omega) r3 r4
      have w2 : f_X6_isMoney (Int32.ofNat n) = true := r2
      obtain ⟨c1, c2, -⟩ := canask M R hk (Int32.ofNat n) 1
      cases hc : f_X6_canAsk z (Int32.ofNat k) (Int32.ofNat n) 1 with
      | true =>
        rw [hc] at c1
        obtain ⟨RB2, o2, k2, st2, hi2, e1, e2, e3, e4, H2⟩ := hist_ H C
        obtain ⟨s', f', g', z', v, sp, si, sn, us, a1, a2, a3, a4⟩ := ask_ B hk (a := n) n1 n2 true hc
        rw [ub] at a1 a2 a3
        have ha : f_X5_askFor (Int32.ofNat r) fm (Int32.ofNat s) fr ap day grace longest spent spentIn spendings urgentSp dropped lapsedLate oldest kept RB (Int32.ofNat k) (Int32.ofNat n) 1 = (0, v, RB2, sp, si, sn, us, f', Int32.ofNat s', g', o2, k2) := by
          rw [f_X5_askFor, i2, if_pos rfl, r1, if_pos rfl, c1, if_neg (vb_t rfl), e1, f_X5_askFor_c48, a1, f_X5_askFor_c58]
        have hao : o_X5_askFor (Int32.ofNat r) fm (Int32.ofNat s) fr ap day grace longest spent spentIn spendings urgentSp dropped lapsedLate oldest kept RB (Int32.ofNat k) (Int32.ofNat n) 1 := by
          rw [o_X5_askFor, i2, if_pos rfl, r1, if_pos rfl, c1, if_neg (vb_t rfl), o_X5_askFor_c48, o_X5_askFor_c58]
          exact ⟨e2, trivial⟩
        have hf : f_X5_urge (Int32.ofNat r) fm (Int32.ofNat s) fr ap day grace longest spent spentIn spendings urgentSp dropped lapsedLate oldest kept RB (Int32.ofNat k) (Int32.ofNat n) = (0, v, RB2, sp, si, sn, us, f', Int32.ofNat s', g', o2, k2) := by
          rw [f_X5_urge, ha, if_pos rfl]
        have ho : o_X5_urge (Int32.ofNat r) fm (Int32.ofNat s) fr ap day grace longest spent spentIn spendings urgentSp dropped lapsedLate oldest kept RB (Int32.ofNat k) (Int32.ofNat n) := by
          rw [o_X5_urge, ha, if_pos rfl]
          exact ⟨hao, trivial⟩
        have hz : f_X6_urge states z hi (Int32.ofNat k) (Int32.ofNat n) = (v, st2, 0, z', hi2) := by
          rw [f_X6_urge, i1, if_neg (vb_t rfl), w2, if_neg (vb_t rfl), hc, if_neg (vb_t rfl), f_X6_urge_j39, if_pos le00, e3, f_X6_urge_c55, a2, f_X6_urge_c62]
        have hzo : o_X6_urge states z hi (Int32.ofNat k) (Int32.ofNat n) := by
          rw [o_X6_urge, i1, if_neg (vb_t rfl), w2, if_neg (vb_t rfl), hc, if_neg (vb_t rfl), o_X6_urge_j39, if_pos le00, o_X6_urge_c55, o_X6_urge_c62]
          exact ⟨c2, e4, a3, trivial⟩
        rw [hf, hz]
        exact ⟨ho, Or.inl rfl, hzo, rfl, fun _ => rfl, RR_mk ⟨r, s', rfl, rfl, a4⟩ H2 TT⟩
      | false =>
        rw [hc] at c1
        have ha : f_X5_askFor (Int32.ofNat r) fm (Int32.ofNat s) fr ap day grace longest spent spentIn spendings urgentSp dropped lapsedLate oldest kept RB (Int32.ofNat k) (Int32.ofNat n) 1 = (3, 0, RB, spent, spentIn, spendings, urgentSp, fm, Int32.ofNat s, fr, oldest, kept) := by
          rw [f_X5_askFor, i2, if_pos rfl, r1, if_pos rfl, c1, if_pos (vb_f rfl)]
        have hao : o_X5_askFor (Int32.ofNat r) fm (Int32.ofNat s) fr ap day grace longest spent spentIn spendings urgentSp dropped lapsedLate oldest kept RB (Int32.ofNat k) (Int32.ofNat n) 1 := by
          rw [o_X5_askFor, i2, if_pos rfl, r1, if_pos rfl, c1, if_pos (vb_f rfl)]
          trivial
        have h9 : ¬ ((3, 0, RB, spent, spentIn, spendings, urgentSp, fm, Int32.ofNat s, fr, oldest, kept) : Nat × Int32 × (Nat → vm_BK) × Int32 × Int32 × Int32 × Int32 × (Nat → Int32) × Int32 × (Nat → Int32) × Int32 × Int32).1 = 0 := (by decide : ¬ (3 : Nat) = 0)
        have hf : f_X5_urge (Int32.ofNat r) fm (Int32.ofNat s) fr ap day grace longest spent spentIn spendings urgentSp dropped lapsedLate oldest kept RB (Int32.ofNat k) (Int32.ofNat n) = (3, 0, RB, spent, spentIn, spendings, urgentSp, fm, Int32.ofNat s, fr, oldest, kept) := by
          rw [f_X5_urge, ha, if_neg h9]
        have ho : o_X5_urge (Int32.ofNat r) fm (Int32.ofNat s) fr ap day grace longest spent spentIn spendings urgentSp dropped lapsedLate oldest kept RB (Int32.ofNat k) (Int32.ofNat n) := by
          rw [o_X5_urge, ha, if_neg h9]
          exact ⟨hao, trivial⟩
        have hz : f_X6_urge states z hi (Int32.ofNat k) (Int32.ofNat n) = (0, states, 3, z, hi) := by
          rw [f_X6_urge, i1, if_neg (vb_t rfl), w2, if_neg (vb_t rfl), hc, if_pos (vb_f rfl), f_X6_urge_j39, if_neg nle3]
        have hzo : o_X6_urge states z hi (Int32.ofNat k) (Int32.ofNat n) := by
          rw [o_X6_urge, i1, if_neg (vb_t rfl), w2, if_neg (vb_t rfl), hc, if_pos (vb_f rfl), o_X6_urge_j39, if_neg nle3]
          exact ⟨c2, trivial⟩
        rw [hf, hz]
        exact ⟨ho, Or.inr (Or.inr (Or.inr rfl)), hzo, rfl, fun q => absurd q (by decide : ¬ (3 : Nat) = 0), RR_mk C H TT⟩
    · have w2 : f_X6_isMoney p2 = false := r2
      have ha : f_X5_askFor (Int32.ofNat r) fm (Int32.ofNat s) fr ap day grace longest spent spentIn spendings urgentSp dropped lapsedLate oldest kept RB (Int32.ofNat k) p2 1 = (2, 0, RB, spent, spentIn, spendings, urgentSp, fm, Int32.ofNat s, fr, oldest, kept) := by
        rw [f_X5_askFor, i2, if_pos rfl, r1, if_neg (by decide)]
      have hao : o_X5_askFor (Int32.ofNat r) fm (Int32.ofNat s) fr ap day grace longest spent spentIn spendings urgentSp dropped lapsedLate oldest kept RB (Int32.ofNat k) p2 1 := by
        rw [o_X5_askFor, i2, if_pos rfl, r1, if_neg (by decide)]
        trivial
      have h9 : ¬ ((2, 0, RB, spent, spentIn, spendings, urgentSp, fm, Int32.ofNat s, fr, oldest, kept) : Nat × Int32 × (Nat → vm_BK) × Int32 × Int32 × Int32 × Int32 × (Nat → Int32) × Int32 × (Nat → Int32) × Int32 × Int32).1 = 0 := (by decide : ¬ (2 : Nat) = 0)
      have hf : f_X5_urge (Int32.ofNat r) fm (Int32.ofNat s) fr ap day grace longest spent spentIn spendings urgentSp dropped lapsedLate oldest kept RB (Int32.ofNat k) p2 = (2, 0, RB, spent, spentIn, spendings, urgentSp, fm, Int32.ofNat s, fr, oldest, kept) := by
        rw [f_X5_urge, ha, if_neg h9]
      have ho : o_X5_urge (Int32.ofNat r) fm (Int32.ofNat s) fr ap day grace longest spent spentIn spendings urgentSp dropped lapsedLate oldest kept RB (Int32.ofNat k) p2 := by
        rw [o_X5_urge, ha, if_neg h9]
        exact ⟨hao, trivial⟩
      have hz : f_X6_urge states z hi (Int32.ofNat k) p2 = (0, states, 2, z, hi) := by
        rw [f_X6_urge, i1, if_neg (vb_t rfl), w2, if_pos (vb_f rfl), f_X6_urge_j39, if_neg nle2]
      have hzo : o_X6_urge states z hi (Int32.ofNat k) p2 := by
        rw [o_X6_urge, i1, if_neg (vb_t rfl), w2, if_pos (vb_f rfl), o_X6_urge_j39, if_neg nle2]
        trivial
      rw [hf, hz]
      exact ⟨ho, Or.inr (Or.inr (Or.inl rfl)), hzo, rfl, fun q => absurd q (by decide : ¬ (2 : Nat) = 0), RR_mk C H TT⟩
  · skip
    have ha : f_X5_askFor (Int32.ofNat r) fm (Int32.ofNat s) fr ap day grace longest spent spentIn spendings urgentSp dropped lapsedLate oldest kept RB p1 p2 1 = (1, 0, RB, spent, spentIn, spendings, urgentSp, fm, Int32.ofNat s, fr, oldest, kept) := by
      rw [f_X5_askFor, i2, if_neg (by decide)]
    have hao : o_X5_askFor (Int32.ofNat r) fm (Int32.ofNat s) fr ap day grace longest spent spentIn spendings urgentSp dropped lapsedLate oldest kept RB p1 p2 1 := by
      rw [o_X5_askFor, i2, if_neg (by decide)]
      trivial
    have h9 : ¬ ((1, 0, RB, spent, spentIn, spendings, urgentSp, fm, Int32.ofNat s, fr, oldest, kept) : Nat × Int32 × (Nat → vm_BK) × Int32 × Int32 × Int32 × Int32 × (Nat → Int32) × Int32 × (Nat → Int32) × Int32 × Int32).1 = 0 := (by decide : ¬ (1 : Nat) = 0)
    have hf : f_X5_urge (Int32.ofNat r) fm (Int32.ofNat s) fr ap day grace longest spent spentIn spendings urgentSp dropped lapsedLate oldest kept RB p1 p2 = (1, 0, RB, spent, spentIn, spendings, urgentSp, fm, Int32.ofNat s, fr, oldest, kept) := by
      rw [f_X5_urge, ha, if_neg h9]
    have ho : o_X5_urge (Int32.ofNat r) fm (Int32.ofNat s) fr ap day grace longest spent spentIn spendings urgentSp dropped lapsedLate oldest kept RB p1 p2 := by
      rw [o_X5_urge, ha, if_neg h9]
      exact ⟨hao, trivial⟩
    have hz : f_X6_urge states z hi p1 p2 = (0, states, 1, z, hi) := by
      rw [f_X6_urge, i1, if_pos (vb_f rfl), f_X6_urge_j39, if_neg nle1]
    have hzo : o_X6_urge states z hi p1 p2 := by
      rw [o_X6_urge, i1, if_pos (vb_f rfl), o_X6_urge_j39, if_neg nle1]
      trivial
    rw [hf, hz]
    exact ⟨ho, Or.inr (Or.inl rfl), hzo, rfl, fun q => absurd q (by decide : ¬ (1 : Nat) = 0), RR_mk C H TT⟩
theorem sim_approve : Sim_approve RRf := by
  intro rm fm rq fr ap day grace longest spent spentIn spendings urgentSp dropped lapsedLate oldest kept RB ln tx states rl thr rd num due hash z hi rx pa p1 p2 hR
  obtain ⟨⟨r, s, rfl, rfl, B⟩, H, TT⟩ := RR_el hR
  have C : CU (Int32.ofNat r) fm (Int32.ofNat s) fr ap day grace longest spent spentIn spendings urgentSp dropped lapsedLate z := ⟨r, s, rfl, rfl, B⟩
  have B0 := B
  obtain ⟨M, R, D, ⟨z0, z1, z2, z5, z6, z7, z8, z9, z10⟩, A⟩ := B0
  have h12 := M.1
  have h6 := R.1
  rcases ri_ R p1 with ⟨i1, i2, k, hk, rfl⟩ | ⟨i1, i2⟩
  · rcases cp_ p2 with ⟨r1, r2, q, hq, rfl⟩ | ⟨r1, r2⟩
    · obtain ⟨c1, c2⟩ := rcould M R hk hq
      cases hc : f_X6_canApprove z (Int32.ofNat k) (Int32.ofNat q) with
      | true =>
        rw [hc] at c1
        obtain ⟨RB2, o2, k2, st2, hi2, e1, e2, e3, e4, H2⟩ := hist_ H C
        obtain ⟨s', f', g', ap', z', v, dr, sp, si, sn, a1, a2, a3, a4⟩ := approve_ B hk hq st2 hi2 0
        have hf : f_X5_approve (Int32.ofNat r) fm (Int32.ofNat s) fr ap day grace longest spent spentIn spendings urgentSp dropped lapsedLate oldest kept RB (Int32.ofNat k) (Int32.ofNat q) = (0, v, RB2, dr, sp, si, sn, f', Int32.ofNat s', g', ap', o2, k2) := by
          rw [f_X5_approve, i2, if_pos rfl, r1, if_pos rfl, c1, if_neg (vb_t rfl), e1, f_X5_approve_c42, a1, f_X5_approve_c51]
        have ho : o_X5_approve (Int32.ofNat r) fm (Int32.ofNat s) fr ap day grace longest spent spentIn spendings urgentSp dropped lapsedLate oldest kept RB (Int32.ofNat k) (Int32.ofNat q) := by
          rw [o_X5_approve, i2, if_pos rfl, r1, if_pos rfl, c1, if_neg (vb_t rfl), o_X5_approve_c42, o_X5_approve_c51]
          exact ⟨e2, trivial⟩
        have hz : f_X6_approve states z hi (Int32.ofNat k) (Int32.ofNat q) = (v, st2, 0, z', hi2) := by
          rw [f_X6_approve, i1, if_neg (vb_t rfl), r2, if_neg (vb_t rfl), hc, if_neg (vb_t rfl), f_X6_approve_j34, if_pos le00, e3]
          exact a2
        have hzo : o_X6_approve states z hi (Int32.ofNat k) (Int32.ofNat q) := by
          rw [o_X6_approve, i1, if_neg (vb_t rfl), r2, if_neg (vb_t rfl), hc, if_neg (vb_t rfl), o_X6_approve_j34, if_pos le00, e3]
          exact ⟨c2, e4, a3⟩
        rw [hf, hz]
        exact ⟨ho, Or.inl rfl, hzo, rfl, fun _ => rfl, RR_mk ⟨r, s', rfl, rfl, a4⟩ H2 TT⟩
      | false =>
        rw [hc] at c1
        have hf : f_X5_approve (Int32.ofNat r) fm (Int32.ofNat s) fr ap day grace longest spent spentIn spendings urgentSp dropped lapsedLate oldest kept RB (Int32.ofNat k) (Int32.ofNat q) = (3, 0, RB, dropped, spent, spentIn, spendings, fm, Int32.ofNat s, fr, ap, oldest, kept) := by
          rw [f_X5_approve, i2, if_pos rfl, r1, if_pos rfl, c1, if_pos (vb_f rfl)]
        have ho : o_X5_approve (Int32.ofNat r) fm (Int32.ofNat s) fr ap day grace longest spent spentIn spendings urgentSp dropped lapsedLate oldest kept RB (Int32.ofNat k) (Int32.ofNat q) := by
          rw [o_X5_approve, i2, if_pos rfl, r1, if_pos rfl, c1, if_pos (vb_f rfl)]
          trivial
        have hz : f_X6_approve states z hi (Int32.ofNat k) (Int32.ofNat q) = (0, states, 2, z, hi) := by
          rw [f_X6_approve, i1, if_neg (vb_t rfl), r2, if_neg (vb_t rfl), hc, if_pos (vb_f rfl), f_X6_approve_j34, if_neg nle2]
        have hzo : o_X6_approve states z hi (Int32.ofNat k) (Int32.ofNat q) := by
          rw [o_X6_approve, i1, if_neg (vb_t rfl), r2, if_neg (vb_t rfl), hc, if_pos (vb_f rfl), o_X6_approve_j34, if_neg nle2]
          exact ⟨c2, trivial⟩
        rw [hf, hz]
        exact ⟨ho, Or.inr (Or.inr rfl), hzo, rfl, fun q => absurd q (by decide : ¬ (3 : Nat) = 0), RR_mk C H TT⟩
    · skip
      have hf : f_X5_approve (Int32.ofNat r) fm (Int32.ofNat s) fr ap day grace longest spent spentIn spendings urgentSp dropped lapsedLate oldest kept RB (Int32.ofNat k) p2 = (1, 0, RB, dropped, spent, spentIn, spendings, fm, Int32.ofNat s, fr, ap, oldest, kept) := by
        rw [f_X5_approve, i2, if_pos rfl, r1, if_neg (by decide)]
      have ho : o_X5_approve (Int32.ofNat r) fm (Int32.ofNat s) fr ap day grace longest spent spentIn spendings urgentSp dropped lapsedLate oldest kept RB (Int32.ofNat k) p2 := by
        rw [o_X5_approve, i2, if_pos rfl, r1, if_neg (by decide)]
        trivial
      have hz : f_X6_approve states z hi (Int32.ofNat k) p2 = (0, states, 1, z, hi) := by
        rw [f_X6_approve, i1, if_neg (vb_t rfl), r2, if_pos (vb_f rfl), f_X6_approve_j16, f_X6_approve_j34, if_neg nle1]
      have hzo : o_X6_approve states z hi (Int32.ofNat k) p2 := by
        rw [o_X6_approve, i1, if_neg (vb_t rfl), r2, if_pos (vb_f rfl), o_X6_approve_j16, o_X6_approve_j34, if_neg nle1]
        trivial
      rw [hf, hz]
      exact ⟨ho, Or.inr (Or.inl rfl), hzo, rfl, fun q => absurd q (by decide : ¬ (1 : Nat) = 0), RR_mk C H TT⟩
  · skip
    have hf : f_X5_approve (Int32.ofNat r) fm (Int32.ofNat s) fr ap day grace longest spent spentIn spendings urgentSp dropped lapsedLate oldest kept RB p1 p2 = (1, 0, RB, dropped, spent, spentIn, spendings, fm, Int32.ofNat s, fr, ap, oldest, kept) := by
      rw [f_X5_approve, i2, if_neg (by decide)]
    have ho : o_X5_approve (Int32.ofNat r) fm (Int32.ofNat s) fr ap day grace longest spent spentIn spendings urgentSp dropped lapsedLate oldest kept RB p1 p2 := by
      rw [o_X5_approve, i2, if_neg (by decide)]
      trivial
    have hz : f_X6_approve states z hi p1 p2 = (0, states, 1, z, hi) := by
      rw [f_X6_approve, i1, if_pos (vb_f rfl), f_X6_approve_j16, f_X6_approve_j34, if_neg nle1]
    have hzo : o_X6_approve states z hi p1 p2 := by
      rw [o_X6_approve, i1, if_pos (vb_f rfl), o_X6_approve_j16, o_X6_approve_j34, if_neg nle1]
      trivial
    rw [hf, hz]
    exact ⟨ho, Or.inr (Or.inl rfl), hzo, rfl, fun q => absurd q (by decide : ¬ (1 : Nat) = 0), RR_mk C H TT⟩
theorem sim_takeBack : Sim_takeBack RRf := by
  intro rm fm rq fr ap day grace longest spent spentIn spendings urgentSp dropped lapsedLate oldest kept RB ln tx states rl thr rd num due hash z hi rx pa p1 hR
  obtain ⟨⟨r, s, rfl, rfl, B⟩, H, TT⟩ := RR_el hR
  have C : CU (Int32.ofNat r) fm (Int32.ofNat s) fr ap day grace longest spent spentIn spendings urgentSp dropped lapsedLate z := ⟨r, s, rfl, rfl, B⟩
  have B0 := B
  obtain ⟨M, R, D, ⟨z0, z1, z2, z5, z6, z7, z8, z9, z10⟩, A⟩ := B0
  have h12 := M.1
  have h6 := R.1
  rcases ri_ R p1 with ⟨i1, i2, k, hk, rfl⟩ | ⟨i1, i2⟩
  · obtain ⟨-, -, hu01, -⟩ := R.2.2 k hk
    have hu := rurg (g := fr) h6 hk
    have x3 := ro3 R hk
    rcases hu01 with h0 | h0
    · have hu' : f_X0_isUrgent (Int32.ofNat s) fr (Int32.ofNat k) = false := by rw [hu, h0]; decide
      rw [h0] at x3
      obtain ⟨a1, a2⟩ := rem_z R hk
      have ho : ∀ i : Nat, i ≠ 4 → i < 127 → rmz k s z i = z i := fun i h1 h2 => rmz_out h1 h2
      have B2 : BZ r (s - 1) fm (rmr k s fr) ap day grace longest spent spentIn spendings urgentSp dropped lapsedLate (rmz k s z) := by
        refine ⟨M.toz (rmz_out (by omega) (by omega)) (fun i h1 h2 => rmz_out (by omega) (by omega)), R.rem hk, D, ?_, fun p hp => ?_⟩
        · rw [ho 0 (by omega) (by omega), ho 1 (by omega) (by omega), ho 2 (by omega) (by omega), ho 5 (by omega) (by omega), ho 6 (by omega) (by omega), ho 7 (by omega) (by omega), ho 8 (by omega) (by omega), ho 9 (by omega) (by omega), ho 10 (by omega) (by omega)]
          exact ⟨z0, z1, z2, z5, z6, z7, z8, z9, z10⟩
        · rw [ho _ (by omega) (by omega)]
          exact A p hp
      obtain ⟨RB2, o2, k2, st2, hi2, e1, e2, e3, e4, H2⟩ := hist_ H C
      have hf : f_X5_takeBack (Int32.ofNat r) fm (Int32.ofNat s) fr ap day grace longest spent spentIn spendings urgentSp dropped lapsedLate oldest kept RB (Int32.ofNat k) = (0, fr (6 * k + 1), RB2, Int32.ofNat (s - 1), rmr k s fr, o2, k2) := by
        rw [f_X5_takeBack, i2, if_pos rfl, hu', if_pos (vb_f rfl), e1, f_X5_takeBack_c37, f_X0_removeRequest, rem_c h6 hk, f_X0_removeRequest_c18, p6_1 h6 hk, f_X5_takeBack_c45]
      have ho : o_X5_takeBack (Int32.ofNat r) fm (Int32.ofNat s) fr ap day grace longest spent spentIn spendings urgentSp dropped lapsedLate oldest kept RB (Int32.ofNat k) := by
        rw [o_X5_takeBack, i2, if_pos rfl, hu', if_pos (vb_f rfl), o_X5_takeBack_c37, o_X5_takeBack_c45]
        exact ⟨e2, trivial⟩
      have hz : f_X6_takeBack states z hi (Int32.ofNat k) = (fr (6 * k + 1), st2, 0, rmz k s z, hi2) := by
        rw [f_X6_takeBack, i1, if_neg (vb_t rfl), x3, if_pos rfl, f_X6_takeBack_j27, if_pos le00, e3, f_X6_takeBack_c43, a1, f_X6_takeBack_c55, ro1 R hk]
      have hzo : o_X6_takeBack states z hi (Int32.ofNat k) := by
        rw [o_X6_takeBack, i1, if_neg (vb_t rfl), x3, if_pos rfl, o_X6_takeBack_j27, if_pos le00, o_X6_takeBack_c43, o_X6_takeBack_c55]
        exact ⟨roo3 h6 hk, e4, roo1 h6 hk, a2, trivial⟩
      rw [hf, hz]
      exact ⟨ho, Or.inl rfl, hzo, rfl, fun _ => rfl, RR_mk ⟨r, s - 1, rfl, rfl, B2⟩ H2 TT⟩
    · have hu' : f_X0_isUrgent (Int32.ofNat s) fr (Int32.ofNat k) = true := by rw [hu, h0]; decide
      rw [h0] at x3
      have hf : f_X5_takeBack (Int32.ofNat r) fm (Int32.ofNat s) fr ap day grace longest spent spentIn spendings urgentSp dropped lapsedLate oldest kept RB (Int32.ofNat k) = (3, 0, RB, Int32.ofNat s, fr, oldest, kept) := by
        rw [f_X5_takeBack, i2, if_pos rfl, hu', if_neg (vb_t rfl)]
      have ho : o_X5_takeBack (Int32.ofNat r) fm (Int32.ofNat s) fr ap day grace longest spent spentIn spendings urgentSp dropped lapsedLate oldest kept RB (Int32.ofNat k) := by
        rw [o_X5_takeBack, i2, if_pos rfl, hu', if_neg (vb_t rfl)]
        trivial
      have hz : f_X6_takeBack states z hi (Int32.ofNat k) = (0, states, 2, z, hi) := by
        rw [f_X6_takeBack, i1, if_neg (vb_t rfl), x3, if_neg (by decide), f_X6_takeBack_j27, if_neg nle2]
      have hzo : o_X6_takeBack states z hi (Int32.ofNat k) := by
        rw [o_X6_takeBack, i1, if_neg (vb_t rfl), x3, if_neg (by decide), o_X6_takeBack_j27, if_neg nle2]
        exact ⟨roo3 h6 hk, trivial⟩
      rw [hf, hz]
      exact ⟨ho, Or.inr (Or.inr rfl), hzo, rfl, fun q => absurd q (by decide : ¬ (3 : Nat) = 0), RR_mk C H TT⟩
  · skip
    have hf : f_X5_takeBack (Int32.ofNat r) fm (Int32.ofNat s) fr ap day grace longest spent spentIn spendings urgentSp dropped lapsedLate oldest kept RB p1 = (1, 0, RB, Int32.ofNat s, fr, oldest, kept) := by
      rw [f_X5_takeBack, i2, if_neg (by decide)]
    have ho : o_X5_takeBack (Int32.ofNat r) fm (Int32.ofNat s) fr ap day grace longest spent spentIn spendings urgentSp dropped lapsedLate oldest kept RB p1 := by
      rw [o_X5_takeBack, i2, if_neg (by decide)]
      trivial
    have hz : f_X6_takeBack states z hi p1 = (0, states, 1, z, hi) := by
      rw [f_X6_takeBack, i1, if_pos (vb_f rfl), f_X6_takeBack_j27, if_neg nle1]
    have hzo : o_X6_takeBack states z hi p1 := by
      rw [o_X6_takeBack, i1, if_pos (vb_f rfl), o_X6_takeBack_j27, if_neg nle1]
      trivial
    rw [hf, hz]
    exact ⟨ho, Or.inr (Or.inl rfl), hzo, rfl, fun q => absurd q (by decide : ¬ (1 : Nat) = 0), RR_mk C H TT⟩
section PSS
variable {r : Nat} {ap : Nat → Int32} {grace longest spent spendings urgentSp : Int32}
theorem pass_l {m : Nat} (hm : m ≤ 60) (RB hi : Nat → vm_BK) (hi6 : Nat → Int32) (oldest kept st0 t0 : Int32) : ∀ (n1 n2 i s d : Nat) (f g z : Nat → Int32) (x day spentIn dropped lapsedLate : Int32), i ≤ m → m - i < n1 → m - i < n2 → day = Int32.ofNat d → d + (m - i) ≤ 5000 → BZ r s f g ap day grace longest spent spentIn spendings urgentSp dropped lapsedLate z → ∃ (s' : Nat) (f' g' z' : Nat → Int32) (v dr la dy si : Int32), f_X5_pass_j47 (Int32.ofNat r) grace (Int32.ofNat m) n1 x (Int32.ofNat i) RB dropped lapsedLate day spentIn f (Int32.ofNat s) g oldest kept = (0, v, RB, dr, la, dy, si, f', Int32.ofNat s', g', oldest, kept) ∧ o_X5_pass_j47 (Int32.ofNat r) grace (Int32.ofNat m) n1 x (Int32.ofNat i) RB dropped lapsedLate day spentIn f (Int32.ofNat s) g oldest kept ∧ f_X6_pass_j54 (Int32.ofNat m) n2 x (Int32.ofNat i) st0 t0 z hi6 = (v, st0, t0, z', hi6) ∧ o_X6_pass_j54 (Int32.ofNat m) n2 x (Int32.ofNat i) st0 t0 z hi6 ∧ BZ r s' f' g' ap dy grace longest spent si spendings urgentSp dr la z' := by
  intro n1
  induction n1 with
  | zero => intro n2 i s d f g z x day spentIn dropped lapsedLate h1 h2; omega
  | succ n1 ih =>
    intro n2 i s d f g z x day spentIn dropped lapsedLate h1 h2 h3 hd hdm B
    cases n2 with
    | zero => omega
    | succ n2 =>
      rw [f_X5_pass_j47, o_X5_pass_j47, f_X6_pass_j54, o_X6_pass_j54]
      by_cases him : i = m
      · subst him
        have hle : Int32.ofNat i ≤ Int32.ofNat i := by rw [pn_le (by omega) (by omega)]; omega
        rw [if_pos hle, if_pos hle, if_pos hle, if_pos hle]
        exact ⟨s, f, g, z, x, _, _, _, _, rfl, trivial, rfl, trivial, B⟩
      · have hle : ¬ Int32.ofNat m ≤ Int32.ofNat i := by rw [pn_le (by omega) (by omega)]; omega
        obtain ⟨s', f', g', z', v, dr, la, si, a1, a2, a3, a4⟩ := day_ B ⟨d, by omega, hd⟩
        rw [if_neg hle, if_neg hle, if_neg hle, if_neg hle, a1, a2, f_X5_pass_c60, o_X5_pass_c60, f_X6_pass_c63, o_X6_pass_c63, pn_succ]
        obtain ⟨s'', f'', g'', z'', v2, dr2, la2, dy2, si2, b1, b2, b3, b4, b5⟩ := ih n2 (i + 1) s' (d + 1) f' g' z' (x + v) (day + 1) si dr la (by omega) (by omega) (by omega) (by rw [hd, pn_succ]) (by omega) a4
        exact ⟨s'', f'', g'', z'', v2, dr2, la2, dy2, si2, b1, b2, b3, ⟨a3, b4⟩, b5⟩
end PSS
theorem sim_pass : Sim_pass RRf := by
  intro rm fm rq fr ap day grace longest spent spentIn spendings urgentSp dropped lapsedLate oldest kept RB ln tx states rl thr rd num due hash z hi rx pa p1 hR
  obtain ⟨⟨r, s, rfl, rfl, B⟩, H, TT⟩ := RR_el hR
  obtain ⟨d, hd, rfl⟩ := B.2.2.1
  have C : CU (Int32.ofNat r) fm (Int32.ofNat s) fr ap (Int32.ofNat d) grace longest spent spentIn spendings urgentSp dropped lapsedLate z := ⟨r, s, rfl, rfl, B⟩
  have B0 := B
  obtain ⟨M, R, D, ⟨z0, z1, z2, z5, z6, z7, z8, z9, z10⟩, A⟩ := B0
  have h12 := M.1
  have h6 := R.1
  rcases cr_ p1 1 60 with ⟨r1, r2, r3, r4⟩ | ⟨r1, r2⟩
  · obtain ⟨m, m1, m2, rfl⟩ := cr_n (a := 1) (b := 60) (by omega) (by omega) r3 r4
    have hsum : ((Int32.ofNat d) + (Int32.ofNat m) ≤ 5000) ↔ d + m ≤ 5000 := by
      rw [pn_add, show (5000 : Int32) = Int32.ofNat 5000 from rfl, pn_le (by omega) (by omega)]
    by_cases h5 : d + m ≤ 5000
    · have h5' := hsum.mpr h5
      obtain ⟨RB2, o2, k2, st2, hi2, e1, e2, e3, e4, H2⟩ := hist_ H C
      obtain ⟨s', f', g', z', v, dr, la, dy, si, a1, a2, a3, a4, a5⟩ := pass_l (m := m) (by omega) RB2 RB2 hi2 o2 k2 st2 0 (m + 1) (m + 1) 0 s d fm fr z 0 (Int32.ofNat d) spentIn dropped lapsedLate (by omega) (by omega) (by omega) rfl (by omega) B
      have hf : f_X5_pass (Int32.ofNat r) fm (Int32.ofNat s) fr ap (Int32.ofNat d) grace longest spent spentIn spendings urgentSp dropped lapsedLate oldest kept RB (Int32.ofNat m) = (0, v, RB2, dr, la, dy, si, f', Int32.ofNat s', g', o2, k2) := by
        rw [f_X5_pass, r1, if_pos rfl, if_pos h5', e1, f_X5_pass_c43, toI (by omega)]
        exact a1
      have ho : o_X5_pass (Int32.ofNat r) fm (Int32.ofNat s) fr ap (Int32.ofNat d) grace longest spent spentIn spendings urgentSp dropped lapsedLate oldest kept RB (Int32.ofNat m) := by
        rw [o_X5_pass, r1, if_pos rfl, if_pos h5', e1, o_X5_pass_c43, toI (by omega)]
        exact ⟨e2, a2⟩
      have hz : f_X6_pass states z hi (Int32.ofNat m) = (v, st2, 0, z', hi2) := by
        rw [f_X6_pass, r2, if_neg (vb_t rfl), cn_2, z2, if_pos h5', f_X6_pass_j34, if_pos le00, e3, f_X6_pass_c50, toI (by omega)]
        exact a3
      have hzo : o_X6_pass states z hi (Int32.ofNat m) := by
        rw [o_X6_pass, r2, if_neg (vb_t rfl), cn_2, z2, if_pos h5', o_X6_pass_j34, if_pos le00, e3, o_X6_pass_c50, toI (by omega)]
        exact ⟨e4, a4⟩
      rw [hf, hz]
      exact ⟨ho, Or.inl rfl, hzo, rfl, fun _ => rfl, RR_mk ⟨r, s', rfl, rfl, a5⟩ H2 TT⟩
    · have h5' : ¬ ((Int32.ofNat d) + (Int32.ofNat m) ≤ 5000) := fun q => h5 (hsum.mp q)
      have hf : f_X5_pass (Int32.ofNat r) fm (Int32.ofNat s) fr ap (Int32.ofNat d) grace longest spent spentIn spendings urgentSp dropped lapsedLate oldest kept RB (Int32.ofNat m) = (3, 0, RB, dropped, lapsedLate, Int32.ofNat d, spentIn, fm, Int32.ofNat s, fr, oldest, kept) := by
        rw [f_X5_pass, r1, if_pos rfl, if_neg h5']
      have ho : o_X5_pass (Int32.ofNat r) fm (Int32.ofNat s) fr ap (Int32.ofNat d) grace longest spent spentIn spendings urgentSp dropped lapsedLate oldest kept RB (Int32.ofNat m) := by
        rw [o_X5_pass, r1, if_pos rfl, if_neg h5']
        trivial
      have hz : f_X6_pass states z hi (Int32.ofNat m) = (0, states, 2, z, hi) := by
        rw [f_X6_pass, r2, if_neg (vb_t rfl), cn_2, z2, if_neg h5', f_X6_pass_j34, if_neg nle2]
      have hzo : o_X6_pass states z hi (Int32.ofNat m) := by
        rw [o_X6_pass, r2, if_neg (vb_t rfl), cn_2, z2, if_neg h5', o_X6_pass_j34, if_neg nle2]
        trivial
      rw [hf, hz]
      exact ⟨ho, Or.inr (Or.inr rfl), hzo, rfl, fun q => absurd q (by decide : ¬ (3 : Nat) = 0), RR_mk C H TT⟩
  · skip
    have hf : f_X5_pass (Int32.ofNat r) fm (Int32.ofNat s) fr ap (Int32.ofNat d) grace longest spent spentIn spendings urgentSp dropped lapsedLate oldest kept RB p1 = (2, 0, RB, dropped, lapsedLate, Int32.ofNat d, spentIn, fm, Int32.ofNat s, fr, oldest, kept) := by
      rw [f_X5_pass, r1, if_neg (by decide)]
    have ho : o_X5_pass (Int32.ofNat r) fm (Int32.ofNat s) fr ap (Int32.ofNat d) grace longest spent spentIn spendings urgentSp dropped lapsedLate oldest kept RB p1 := by
      rw [o_X5_pass, r1, if_neg (by decide)]
      trivial
    have hz : f_X6_pass states z hi p1 = (0, states, 1, z, hi) := by
      rw [f_X6_pass, r2, if_pos (vb_f rfl), f_X6_pass_j34, if_neg nle1]
    have hzo : o_X6_pass states z hi p1 := by
      rw [o_X6_pass, r2, if_pos (vb_f rfl), o_X6_pass_j34, if_neg nle1]
      trivial
    rw [hf, hz]
    exact ⟨ho, Or.inr (Or.inl rfl), hzo, rfl, fun q => absurd q (by decide : ¬ (2 : Nat) = 0), RR_mk C H TT⟩
theorem sim_set : Sim_set RRf := by
  intro rm fm rq fr ap day grace longest spent spentIn spendings urgentSp dropped lapsedLate oldest kept RB ln tx states rl thr rd num due hash z hi rx pa p1 p2 hR
  obtain ⟨⟨r, s, rfl, rfl, B⟩, H, TT⟩ := RR_el hR
  have C : CU (Int32.ofNat r) fm (Int32.ofNat s) fr ap day grace longest spent spentIn spendings urgentSp dropped lapsedLate z := ⟨r, s, rfl, rfl, B⟩
  have B0 := B
  obtain ⟨M, R, D, ⟨z0, z1, z2, z5, z6, z7, z8, z9, z10⟩, A⟩ := B0
  have h12 := M.1
  have h6 := R.1
  rcases cs_ p1 with ⟨i1, i2, rfl | rfl⟩ | ⟨i1, i2⟩
  · rcases cr_ p2 0 30 with ⟨r1, r2, r3, r4⟩ | ⟨r1, r2⟩
    · obtain ⟨RB2, o2, k2, st2, hi2, e1, e2, e3, e4, H2⟩ := hist_ H C
      have B2 : BZ r s fm fr ap day p2 longest spent spentIn spendings urgentSp dropped lapsedLate (upd z 0 p2) := by
        refine ⟨M.toz (upd_n _ _ (by omega)) (fun i h1 h2 => upd_n _ _ (by omega)), R.toz (upd_n _ _ (by omega)) (fun i h1 h2 => upd_n _ _ (by omega)), D, ⟨upd_s _ _ _, (upd_n _ _ (by omega)).trans z1, (upd_n _ _ (by omega)).trans z2, (upd_n _ _ (by omega)).trans z5, (upd_n _ _ (by omega)).trans z6, (upd_n _ _ (by omega)).trans z7, (upd_n _ _ (by omega)).trans z8, (upd_n _ _ (by omega)).trans z9, (upd_n _ _ (by omega)).trans z10⟩, fun p hp => ?_⟩
        rw [upd_n _ _ (by omega)]
        exact A p hp
      have hf : f_X5_set (Int32.ofNat r) fm (Int32.ofNat s) fr ap day grace longest spent spentIn spendings urgentSp dropped lapsedLate oldest kept RB 0 p2 = (0, grace, RB2, p2, longest, o2, k2) := by
        rw [f_X5_set, i1, if_pos rfl, if_pos rfl, r1, if_pos rfl, f_X5_set_j25, e1, f_X5_set_c36, f_X0_changeSetting, if_pos rfl, f_X0_settingValue, if_pos rfl, f_X5_set_c45]
      have ho : o_X5_set (Int32.ofNat r) fm (Int32.ofNat s) fr ap day grace longest spent spentIn spendings urgentSp dropped lapsedLate oldest kept RB 0 p2 := by
        rw [o_X5_set, i1, if_pos rfl, if_pos rfl, r1, if_pos rfl, o_X5_set_j25, o_X5_set_c36, o_X5_set_c45]
        exact ⟨e2, trivial⟩
      have hz : f_X6_set states z hi 0 p2 = (grace, st2, 0, upd z 0 p2, hi2) := by
        rw [f_X6_set, i2, if_neg (vb_t rfl), if_pos rfl, r2, if_neg (vb_t rfl), f_X6_set_j41, f_X6_set_j46, if_pos le00, e3, f_X6_set_c62, cn_0, z0]
      have hzo : o_X6_set states z hi 0 p2 := by
        rw [o_X6_set, i2, if_neg (vb_t rfl), if_pos rfl, r2, if_neg (vb_t rfl), o_X6_set_j41, o_X6_set_j46, if_pos le00, o_X6_set_c62]
        exact ⟨e4, pz_vp (i := 0) (by decide) (by decide), pz_vp (i := 0) (by decide) (by decide), trivial⟩
      rw [hf, hz]
      exact ⟨ho, Or.inl rfl, hzo, rfl, fun _ => rfl, RR_mk ⟨r, s, rfl, rfl, B2⟩ H2 TT⟩
    · skip
      have hf : f_X5_set (Int32.ofNat r) fm (Int32.ofNat s) fr ap day grace longest spent spentIn spendings urgentSp dropped lapsedLate oldest kept RB 0 p2 = (2, 0, RB, grace, longest, oldest, kept) := by
        rw [f_X5_set, i1, if_pos rfl, if_pos rfl, r1, if_neg (by decide)]
      have ho : o_X5_set (Int32.ofNat r) fm (Int32.ofNat s) fr ap day grace longest spent spentIn spendings urgentSp dropped lapsedLate oldest kept RB 0 p2 := by
        rw [o_X5_set, i1, if_pos rfl, if_pos rfl, r1, if_neg (by decide)]
        trivial
      have hz : f_X6_set states z hi 0 p2 = (0, states, 2, z, hi) := by
        rw [f_X6_set, i2, if_neg (vb_t rfl), if_pos rfl, r2, if_pos (vb_f rfl), f_X6_set_j26, if_neg (by decide : ¬ (0 : Int32) = 1), f_X6_set_j45, f_X6_set_j46, if_neg nle2]
      have hzo : o_X6_set states z hi 0 p2 := by
        rw [o_X6_set, i2, if_neg (vb_t rfl), if_pos rfl, r2, if_pos (vb_f rfl), o_X6_set_j26, if_neg (by decide : ¬ (0 : Int32) = 1), o_X6_set_j45, o_X6_set_j46, if_neg nle2]
        trivial
      rw [hf, hz]
      exact ⟨ho, Or.inr (Or.inr rfl), hzo, rfl, fun q => absurd q (by decide : ¬ (2 : Nat) = 0), RR_mk C H TT⟩
  · rcases cr_ p2 1 12 with ⟨r1, r2, r3, r4⟩ | ⟨r1, r2⟩
    · obtain ⟨RB2, o2, k2, st2, hi2, e1, e2, e3, e4, H2⟩ := hist_ H C
      have B2 : BZ r s fm fr ap day grace p2 spent spentIn spendings urgentSp dropped lapsedLate (upd z 1 p2) := by
        refine ⟨M.toz (upd_n _ _ (by omega)) (fun i h1 h2 => upd_n _ _ (by omega)), R.toz (upd_n _ _ (by omega)) (fun i h1 h2 => upd_n _ _ (by omega)), D, ⟨(upd_n _ _ (by omega)).trans z0, upd_s _ _ _, (upd_n _ _ (by omega)).trans z2, (upd_n _ _ (by omega)).trans z5, (upd_n _ _ (by omega)).trans z6, (upd_n _ _ (by omega)).trans z7, (upd_n _ _ (by omega)).trans z8, (upd_n _ _ (by omega)).trans z9, (upd_n _ _ (by omega)).trans z10⟩, fun p hp => ?_⟩
        rw [upd_n _ _ (by omega)]
        exact A p hp
      have hf : f_X5_set (Int32.ofNat r) fm (Int32.ofNat s) fr ap day grace longest spent spentIn spendings urgentSp dropped lapsedLate oldest kept RB 1 p2 = (0, longest, RB2, grace, p2, o2, k2) := by
        rw [f_X5_set, i1, if_pos rfl, if_neg (by decide), r1, if_pos rfl, e1, f_X5_set_c36, f_X0_changeSetting, if_neg (by decide), f_X0_settingValue, if_neg (by decide), f_X5_set_c45]
      have ho : o_X5_set (Int32.ofNat r) fm (Int32.ofNat s) fr ap day grace longest spent spentIn spendings urgentSp dropped lapsedLate oldest kept RB 1 p2 := by
        rw [o_X5_set, i1, if_pos rfl, if_neg (by decide), r1, if_pos rfl, o_X5_set_c36, o_X5_set_c45]
        exact ⟨e2, trivial⟩
      have hz : f_X6_set states z hi 1 p2 = (longest, st2, 0, upd z 1 p2, hi2) := by
        rw [f_X6_set, i2, if_neg (vb_t rfl), if_neg (by decide : ¬ (1 : Int32) = 0), f_X6_set_j26, if_pos rfl, r2, if_neg (vb_t rfl), f_X6_set_j41, f_X6_set_j46, if_pos le00, e3, f_X6_set_c62, cn_1, z1]
      have hzo : o_X6_set states z hi 1 p2 := by
        rw [o_X6_set, i2, if_neg (vb_t rfl), if_neg (by decide : ¬ (1 : Int32) = 0), o_X6_set_j26, if_pos rfl, r2, if_neg (vb_t rfl), o_X6_set_j41, o_X6_set_j46, if_pos le00, o_X6_set_c62]
        exact ⟨e4, pz_vp (i := 1) (by decide) (by decide), pz_vp (i := 1) (by decide) (by decide), trivial⟩
      rw [hf, hz]
      exact ⟨ho, Or.inl rfl, hzo, rfl, fun _ => rfl, RR_mk ⟨r, s, rfl, rfl, B2⟩ H2 TT⟩
    · skip
      have hf : f_X5_set (Int32.ofNat r) fm (Int32.ofNat s) fr ap day grace longest spent spentIn spendings urgentSp dropped lapsedLate oldest kept RB 1 p2 = (2, 0, RB, grace, longest, oldest, kept) := by
        rw [f_X5_set, i1, if_pos rfl, if_neg (by decide : ¬ (1 : Int32) = 0), r1, if_neg (by decide)]
      have ho : o_X5_set (Int32.ofNat r) fm (Int32.ofNat s) fr ap day grace longest spent spentIn spendings urgentSp dropped lapsedLate oldest kept RB 1 p2 := by
        rw [o_X5_set, i1, if_pos rfl, if_neg (by decide : ¬ (1 : Int32) = 0), r1, if_neg (by decide)]
        trivial
      have hz : f_X6_set states z hi 1 p2 = (0, states, 2, z, hi) := by
        rw [f_X6_set, i2, if_neg (vb_t rfl), if_neg (by decide : ¬ (1 : Int32) = 0), f_X6_set_j26, if_pos rfl, r2, if_pos (vb_f rfl), f_X6_set_j45, f_X6_set_j46, if_neg nle2]
      have hzo : o_X6_set states z hi 1 p2 := by
        rw [o_X6_set, i2, if_neg (vb_t rfl), if_neg (by decide : ¬ (1 : Int32) = 0), o_X6_set_j26, if_pos rfl, r2, if_pos (vb_f rfl), o_X6_set_j45, o_X6_set_j46, if_neg nle2]
        trivial
      rw [hf, hz]
      exact ⟨ho, Or.inr (Or.inr rfl), hzo, rfl, fun q => absurd q (by decide : ¬ (2 : Nat) = 0), RR_mk C H TT⟩
  · skip
    have hf : f_X5_set (Int32.ofNat r) fm (Int32.ofNat s) fr ap day grace longest spent spentIn spendings urgentSp dropped lapsedLate oldest kept RB p1 p2 = (1, 0, RB, grace, longest, oldest, kept) := by
      rw [f_X5_set, i1, if_neg (by decide)]
    have ho : o_X5_set (Int32.ofNat r) fm (Int32.ofNat s) fr ap day grace longest spent spentIn spendings urgentSp dropped lapsedLate oldest kept RB p1 p2 := by
      rw [o_X5_set, i1, if_neg (by decide)]
      trivial
    have hz : f_X6_set states z hi p1 p2 = (0, states, 1, z, hi) := by
      rw [f_X6_set, i2, if_pos (vb_f rfl), f_X6_set_j46, if_neg nle1]
    have hzo : o_X6_set states z hi p1 p2 := by
      rw [o_X6_set, i2, if_pos (vb_f rfl), o_X6_set_j46, if_neg nle1]
      trivial
    rw [hf, hz]
    exact ⟨ho, Or.inr (Or.inl rfl), hzo, rfl, fun q => absurd q (by decide : ¬ (1 : Nat) = 0), RR_mk C H TT⟩
