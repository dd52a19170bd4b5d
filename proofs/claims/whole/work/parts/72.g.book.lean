/-! THE BOOK: what is asked for, approved, and how days pass -/
def BZ (r s : Nat) (f g ap : Nat → Int32) (day grace longest spent spentIn spendings urgentSp dropped lapsedLate : Int32) (z : Nat → Int32) : Prop := MB r f z ∧ RQ r s g z ∧ (∃ d : Nat, d ≤ 5000 ∧ day = Int32.ofNat d) ∧ (z 0 = grace ∧ z 1 = longest ∧ z 2 = day ∧ z 5 = spent ∧ z 6 = spentIn ∧ z 7 = spendings ∧ z 8 = urgentSp ∧ z 9 = dropped ∧ z 10 = lapsedLate) ∧ (∀ p : Nat, p < 8 → z (11 + p) = ap p)
section BZS
variable {r s k : Nat} {f g ap z : Nat → Int32} {day grace longest spent spentIn spendings urgentSp dropped lapsedLate : Int32}
theorem reason0 {p a : Int32} (h : f_X6_reason z p a = 0) : a ≤ f_X6_gapOf z (f_X6_narrowestOf z p) := by
  rw [f_X6_reason] at h
  by_cases h1 : vm_bi (f_X6_stands z p) = 0
  · rw [if_pos h1] at h; exact absurd h (by decide)
  · rw [if_neg h1] at h
    by_cases h2 : a ≤ f_X6_of z p 2
    · rw [if_pos h2] at h
      by_cases h3 : a ≤ f_X6_gapOf z (f_X6_narrowestOf z p)
      · exact h3
      · rw [if_neg h3] at h; exact absurd h (by decide)
    · rw [if_neg h2] at h; exact absurd h (by decide)
theorem reason_le {p a : Int32} : (f_X6_reason z p a ≤ 0) ↔ f_X6_reason z p a = 0 := by
  rw [f_X6_reason]
  split
  · decide
  · split
    · split <;> decide
    · decide
theorem canask (M : MB r f z) (R : RQ r s g z) {p : Nat} (hp : p < r) (a u : Int32) : f_X0_canAskFor (Int32.ofNat r) f (Int32.ofNat s) (Int32.ofNat p) a u = f_X6_canAsk z (Int32.ofNat p) a u ∧ o_X6_canAsk z (Int32.ofNat p) a u ∧ (f_X6_canAsk z (Int32.ofNat p) a u = true → f_X6_reason z (Int32.ofNat p) a = 0 ∧ (f (8 * p + 4) = 0 ∨ s < 6)) := by
  have h12 := M.1
  have h6 := R.1
  obtain ⟨m1, m2⟩ := mreason M hp a
  have e6 : (6 : Int32) = Int32.ofNat 6 := rfl
  have hfull : f_X3_isFull 6 (Int32.ofNat s) = decide (6 ≤ s) := by
    rw [f_X3_isFull, e6]
    by_cases h : s < 6
    · rw [if_pos ((pn_lt (by omega) (by omega)).mpr h), decide_eq_false (by omega)]
    · rw [if_neg (fun q => h ((pn_lt (by omega) (by omega)).mp q)), decide_eq_true (by omega)]
  have g4 : f_X2_get (Int32.ofNat r) f (Int32.ofNat p) 4 = f (8 * p + 4) := by rw [f_X2_get, p8_4 h12 hp]
  -- with room, and without
  have j25t : (if f_X6_reason z (Int32.ofNat p) a = 0 then (if u = 0 then true else (if a ≤ f (8 * p + 2) / 2 then true else false)) else false) = f_X6_canAsk_j25 z (Int32.ofNat p) a u true := by
    rw [f_X6_canAsk_j25, f_X6_canAsk_j57, if_neg (vb_t rfl : ¬ vm_bi true = 0), mo2 M hp]
    by_cases h1 : f_X6_reason z (Int32.ofNat p) a = 0
    · rw [if_pos h1, if_pos h1]
      by_cases h2 : u = 0
      · rw [if_pos h2, if_pos h2]
      · rw [if_neg h2, if_neg h2]
        by_cases h3 : a ≤ f (8 * p + 2) / 2
        · rw [if_pos h3, if_neg (fun q => absurd h3 (i32_nle.mpr q))]
        · rw [if_neg h3, if_pos (i32_nle.mp h3)]
    · rw [if_neg h1, if_neg h1]
  have j25o : ∀ b : Bool, o_X6_canAsk_j25 z (Int32.ofNat p) a u b := fun b => by
    rw [o_X6_canAsk_j25, o_X6_canAsk_j57]
    refine ⟨m2, ?_⟩
    split
    · split
      · trivial
      · split
        · trivial
        · refine ⟨oo2 h12 hp, ?_⟩
          split <;> trivial
    · trivial
  have j25f : f_X6_canAsk_j25 z (Int32.ofNat p) a u false = false := by
    rw [f_X6_canAsk_j25, if_pos (vb_f rfl : vm_bi false = 0), ite_self]
  have j25r : ∀ b : Bool, f_X6_canAsk_j25 z (Int32.ofNat p) a u b = true → f_X6_reason z (Int32.ofNat p) a = 0 := fun b q => by
    rw [f_X6_canAsk_j25] at q
    by_cases h1 : f_X6_reason z (Int32.ofNat p) a = 0
    · exact h1
    · rw [if_neg h1] at q; exact absurd q (by decide)
  rw [f_X0_canAskFor, f_X6_canAsk, o_X6_canAsk, f_X6_canAsk_j20, o_X6_canAsk_j20, f_X0_canAskFor_j32, f_X0_canAskFor_j54, m1, g4, hfull, mo4 M hp, f_X2_mostUrgent, p8_2 h12 hp, rz4 R, e6]
  by_cases hn : f (8 * p + 4) = 0
  · rw [if_pos hn, if_pos hn, if_pos hn]
    exact ⟨j25t, ⟨oo4 h12 hp, j25o _⟩, fun q => ⟨j25r _ q, Or.inl hn⟩⟩
  · rw [if_neg hn, if_neg hn, if_neg hn]
    by_cases hs : 6 ≤ s
    · have hle : Int32.ofNat 6 ≤ Int32.ofNat s := by rw [pn_le (by omega) (by omega)]; exact hs
      rw [decide_eq_true hs, if_pos hle, if_pos hle, if_neg (vb_t rfl : ¬ vm_bi true = 0), ite_self, ite_self, ite_self, j25f]
      exact ⟨rfl, ⟨oo4 h12 hp, j25o _⟩, fun q => absurd q (by decide)⟩
    · have hle : ¬ Int32.ofNat 6 ≤ Int32.ofNat s := by rw [pn_le (by omega) (by omega)]; exact hs
      rw [decide_eq_false hs, if_neg hle, if_neg hle, if_pos (vb_f rfl : vm_bi false = 0)]
      exact ⟨j25t, ⟨oo4 h12 hp, j25o _⟩, fun q => ⟨j25r _ q, Or.inr (by omega)⟩⟩
/-- it is asked for -/
theorem ask_ (B : BZ r s f g ap day grace longest spent spentIn spendings urgentSp dropped lapsedLate z) {p a : Nat} (hp : p < r) (a1 : 1 ≤ a) (a2 : a ≤ 9999) (u : Bool) (hc : f_X6_canAsk z (Int32.ofNat p) (Int32.ofNat a) (vm_bi u) = true) : ∃ (s' : Nat) (f' g' z' : Nat → Int32) (v sp si sn us : Int32), f_X0_carryOut (Int32.ofNat r) f (Int32.ofNat s) g day spent spentIn spendings urgentSp (Int32.ofNat p) (Int32.ofNat a) (vm_bi u) = (v, sp, si, sn, us, f', Int32.ofNat s', g') ∧ f_X6_asks z (Int32.ofNat p) (Int32.ofNat a) (vm_bi u) = (v, z') ∧ o_X6_asks z (Int32.ofNat p) (Int32.ofNat a) (vm_bi u) ∧ BZ r s' f' g' ap day grace longest sp si sn us dropped lapsedLate z' := by
  obtain ⟨M, R, D, ⟨z0, z1, z2, z5, z6, z7, z8, z9, z10⟩, A⟩ := B
  have h12 := M.1
  have h6 := R.1
  obtain ⟨-, -, k3⟩ := canask M R hp (Int32.ofNat a) (vm_bi u)
  obtain ⟨hr0, hroom⟩ := k3 hc
  obtain ⟨n, n3, hn⟩ := (M.2.2 p hp).2.2.2.1
  obtain ⟨fm, zm, m1, m2, m3, m4, m5, m6, m7, m8, m9⟩ := make_ M hp (a := a) a2 (reason0 hr0)
  have g4 : f_X2_get (Int32.ofNat r) f (Int32.ofNat p) 4 = Int32.ofNat n := by rw [f_X2_get, p8_4 h12 hp, hn]
  have w4 : z (19 + 9 * p + 4) = Int32.ofNat n := by rw [(M.2.1.2 p hp).2.2.2.2.1, hn]
  have w4m : zm (19 + 9 * p + 4) = Int32.ofNat n := by rw [(m4.2.1.2 p hp).2.2.2.2.1, m5, hn]
  have Rm : RQ r s g zm := R.toz (m9 4 (by omega) (by omega) (by omega) (Or.inl (by omega))) (fun i h1 _ => m9 i (by omega) (by omega) (by omega) (Or.inr h1))
  have hle : (Int32.ofNat n ≤ 0) ↔ n = 0 := by
    rw [show (0 : Int32) = Int32.ofNat 0 from rfl, pn_le (by omega) (by omega)]
    omega
  have heq : (Int32.ofNat n = 0) ↔ n = 0 := ⟨fun q => pn_inj (by omega) (by omega) q, fun q => by rw [q]; rfl⟩
  rw [f_X0_carryOut, f_X6_asks, o_X6_asks, mo4 M hp, hn, g4]
  -- what is made, then what waits
  have made : ∃ (us : Int32) (zz : Nat → Int32), f_X0_carryOut_j20 (Int32.ofNat r) f (Int32.ofNat s) g day spent spentIn spendings urgentSp (Int32.ofNat p) (Int32.ofNat a) (vm_bi u) = f_X0_carryOut_j40 (Int32.ofNat r) f (Int32.ofNat s) g day (Int32.ofNat p) (Int32.ofNat a) (vm_bi u) (spent + Int32.ofNat a) (spentIn + Int32.ofNat a) (spendings + 1) us fm ∧ (∀ w : Bool, f_X6_asks_j25 z (Int32.ofNat p) (Int32.ofNat a) (vm_bi u) w = f_X6_asks_j50 (Int32.ofNat p) (Int32.ofNat a) (vm_bi u) w zz ∧ (o_X6_asks_j50 (Int32.ofNat p) (Int32.ofNat a) (vm_bi u) w zz → o_X6_asks_j25 z (Int32.ofNat p) (Int32.ofNat a) (vm_bi u) w)) ∧ BZ r s fm g ap day grace longest (spent + Int32.ofNat a) (spentIn + Int32.ofNat a) (spendings + 1) us dropped lapsedLate zz ∧ zz (19 + 9 * p + 4) = Int32.ofNat n ∧ zz 2 = day := by
    have hB : ∀ us : Int32, BZ r s fm g ap day grace longest (spent + Int32.ofNat a) (spentIn + Int32.ofNat a) (spendings + 1) us dropped lapsedLate (upd zm 8 us) := fun us => by
      refine ⟨m4.toz (upd_n _ _ (by omega)) (fun i h1 h2 => upd_n _ _ (by omega)), Rm.toz (upd_n _ _ (by omega)) (fun i h1 h2 => upd_n _ _ (by omega)), D, ?_, fun q hq => ?_⟩
      · rw [upd_n _ _ (by omega), upd_n _ _ (by omega), upd_n _ _ (by omega), upd_n _ _ (by omega), upd_n _ _ (by omega), upd_n _ _ (by omega), upd_s, upd_n _ _ (by omega), upd_n _ _ (by omega), m6, m7, m8, z5, z6, z7, m9 0 (by omega) (by omega) (by omega) (Or.inl (by omega)), m9 1 (by omega) (by omega) (by omega) (Or.inl (by omega)), m9 2 (by omega) (by omega) (by omega) (Or.inl (by omega)), m9 9 (by omega) (by omega) (by omega) (Or.inl (by omega)), m9 10 (by omega) (by omega) (by omega) (Or.inl (by omega))]
        exact ⟨z0, z1, z2, rfl, rfl, rfl, rfl, z9, z10⟩
      · rw [upd_n _ _ (by omega), m9 _ (by omega) (by omega) (by omega) (Or.inl (by omega))]
        exact A q hq
    have hz8 : zm 8 = urgentSp := (m9 8 (by omega) (by omega) (by omega) (Or.inl (by omega))).trans z8
    have h4z : ∀ us : Int32, (upd zm 8 us) (19 + 9 * p + 4) = Int32.ofNat n := fun us => by rw [upd_n _ _ (by omega)]; exact w4m
    have h2z : ∀ us : Int32, (upd zm 8 us) 2 = day := fun us => by
      rw [upd_n _ _ (by omega), m9 2 (by omega) (by omega) (by omega) (Or.inl (by omega))]
      exact z2
    cases u with
    | true =>
      refine ⟨urgentSp + 1, upd zm 8 (urgentSp + 1), ?_, fun w => ?_, hB _, h4z _, h2z _⟩
      · rw [f_X0_carryOut_j20, f_X0_makeSpending, f_X0_makeSpending_c9, m1, f_X0_carryOut_c26, if_neg (vb_t rfl : ¬ vm_bi true = 0)]
      · rw [f_X6_asks_j25, o_X6_asks_j25, m2, f_X6_asks_c31, o_X6_asks_c31, if_neg (vb_t rfl : ¬ vm_bi true = 0), if_neg (vb_t rfl : ¬ vm_bi true = 0), f_X6_asks_j48, o_X6_asks_j48, cn_8, hz8]
        exact ⟨rfl, fun q => ⟨m3, q⟩⟩
    | false =>
      refine ⟨urgentSp + 0, upd zm 8 (urgentSp + 0), ?_, fun w => ?_, hB _, h4z _, h2z _⟩
      · rw [f_X0_carryOut_j20, f_X0_makeSpending, f_X0_makeSpending_c9, m1, f_X0_carryOut_c26, if_pos (vb_f rfl : vm_bi false = 0), Int32.add_zero]
      · rw [f_X6_asks_j25, o_X6_asks_j25, m2, f_X6_asks_c31, o_X6_asks_c31, if_pos (vb_f rfl : vm_bi false = 0), if_pos (vb_f rfl : vm_bi false = 0), f_X6_asks_j48, o_X6_asks_j48, cn_8, hz8]
        exact ⟨rfl, fun q => ⟨m3, q⟩⟩
  -- what waits
  have waits : ∀ (sp si sn us : Int32) (f1 zz : Nat → Int32), BZ r s f1 g ap day grace longest sp si sn us dropped lapsedLate zz → zz (19 + 9 * p + 4) = Int32.ofNat n → zz 2 = day → ∃ (s' : Nat) (g' z' : Nat → Int32) (v : Int32), f_X0_carryOut_j40 (Int32.ofNat r) f (Int32.ofNat s) g day (Int32.ofNat p) (Int32.ofNat a) (vm_bi u) sp si sn us f1 = (v, sp, si, sn, us, f1, Int32.ofNat s', g') ∧ f_X6_asks_j50 (Int32.ofNat p) (Int32.ofNat a) (vm_bi u) (decide (n ≠ 0)) zz = (v, z') ∧ o_X6_asks_j50 (Int32.ofNat p) (Int32.ofNat a) (vm_bi u) (decide (n ≠ 0)) zz ∧ BZ r s' f1 g' ap day grace longest sp si sn us dropped lapsedLate z' := by
    intro sp si sn us f1 zz B1 hz4 hz2
    rw [f_X0_carryOut_j40, g4, f_X6_asks_j50, o_X6_asks_j50]
    by_cases h0 : n = 0
    · rw [if_pos (heq.mpr h0), decide_eq_false (by simpa using h0), if_pos (vb_f rfl), if_pos (vb_f rfl), f_X6_asks_j70, o_X6_asks_j70, if_pos (vb_f rfl), if_pos (vb_f rfl)]
      exact ⟨s, g, zz, 0, rfl, rfl, trivial, B1⟩
    · have hs6 : s < 6 := by
        rcases hroom with h | h
        · rw [hn] at h; exact absurd (heq.mp h) h0
        · exact h
      obtain ⟨M1, R1, D1, ⟨y0, y1, y2, y5, y6, y7, y8, y9, y10⟩, A1⟩ := B1
      obtain ⟨x1, x2⟩ := addreq_z hs6 R1.2.1.1 (p := p) (by omega) (Int32.ofNat a) (vm_bi u)
      rw [hz4] at x1
      have R2 := R1.add hs6 hp a1 a2 (nd := Int32.ofNat n) u y2
      rw [if_neg (fun q => h0 (heq.mp q)), decide_eq_true h0, if_neg (vb_t rfl), if_neg (vb_t rfl), addreq_c hs6, f_X0_carryOut_c56]
      refine ⟨s + 1, _, arz_ s zz (Int32.ofNat p) (Int32.ofNat a) (vm_bi u) (Int32.ofNat n), 1, rfl, ?_, ?_, M1.toz (arz_out (by omega) (by omega)) (fun i h1 h2 => arz_out (by omega) (by omega)), R2, D1, ?_, fun q hq => ?_⟩
      · cases u with
        | true => rw [if_neg (vb_t rfl), f_X6_asks_j67, x1, f_X6_asks_c70, if_neg (vb_t rfl)]
        | false => rw [if_pos (vb_f rfl), f_X6_asks_j67, x1, f_X6_asks_c70, if_neg (vb_t rfl)]
      · cases u with
        | true =>
          rw [if_neg (vb_t rfl), o_X6_asks_j67, o_X6_asks_c70, if_neg (vb_t rfl)]
          exact ⟨x2, trivial⟩
        | false =>
          rw [if_pos (vb_f rfl), o_X6_asks_j67, o_X6_asks_c70, if_neg (vb_t rfl)]
          exact ⟨x2, trivial⟩
      · rw [arz_out (by omega) (by omega), arz_out (by omega) (by omega), arz_out (by omega) (by omega), arz_out (by omega) (by omega), arz_out (by omega) (by omega), arz_out (by omega) (by omega), arz_out (by omega) (by omega), arz_out (by omega) (by omega), arz_out (by omega) (by omega)]
        exact ⟨y0, y1, y2, y5, y6, y7, y8, y9, y10⟩
      · rw [arz_out (by omega) (by omega)]
        exact A1 q hq
  obtain ⟨us, zz, d1, d2, d3, d4, d5⟩ := made
  -- the four ways
  have viaMake : ∀ w : Bool, w = decide (n ≠ 0) → ∃ (s' : Nat) (f' g' z' : Nat → Int32) (v sp si sn us : Int32), f_X0_carryOut_j20 (Int32.ofNat r) f (Int32.ofNat s) g day spent spentIn spendings urgentSp (Int32.ofNat p) (Int32.ofNat a) (vm_bi u) = (v, sp, si, sn, us, f', Int32.ofNat s', g') ∧ f_X6_asks_j25 z (Int32.ofNat p) (Int32.ofNat a) (vm_bi u) w = (v, z') ∧ o_X6_asks_j25 z (Int32.ofNat p) (Int32.ofNat a) (vm_bi u) w ∧ BZ r s' f' g' ap day grace longest sp si sn us dropped lapsedLate z' := fun w hw => by
    obtain ⟨s', g', z', v, e1, e2, e3, e4⟩ := waits _ _ _ _ _ _ d3 d4 d5
    rw [← hw] at e2 e3
    exact ⟨s', fm, g', z', v, _, _, _, us, d1.trans e1, (d2 w).1.trans e2, (d2 w).2 e3, e4⟩
  by_cases h0 : n = 0
  · rw [if_pos (hle.mpr h0), if_pos (hle.mpr h0), if_pos (heq.mpr h0), ite_self, f_X6_asks_j14, o_X6_asks_j14, if_pos (vb_f rfl : vm_bi false = 0), if_pos (vb_f rfl : vm_bi false = 0), ite_self, ite_self]
    obtain ⟨s', f', g', z', v, sp, si, sn, us, e1, e2, e3, e4⟩ := viaMake false (by rw [decide_eq_false (by simpa using h0)])
    exact ⟨s', f', g', z', v, sp, si, sn, us, e1, e2, ⟨oo4 h12 hp, e3⟩, e4⟩
  · have hnle : ¬ Int32.ofNat n ≤ 0 := fun q => h0 (hle.mp q)
    rw [if_neg hnle, if_neg hnle, if_neg (fun q => h0 (heq.mp q)), f_X6_asks_j14, o_X6_asks_j14]
    cases u with
    | true =>
      rw [if_neg (vb_t rfl), if_neg (vb_t rfl), if_neg (vb_t rfl)]
      obtain ⟨s', f', g', z', v, sp, si, sn, us, e1, e2, e3, e4⟩ := viaMake true (by rw [decide_eq_true h0])
      exact ⟨s', f', g', z', v, sp, si, sn, us, e1, e2, ⟨oo4 h12 hp, e3⟩, e4⟩
    | false =>
      obtain ⟨s', g', z', v, e1, e2, e3, e4⟩ := waits spent spentIn spendings urgentSp f z ⟨M, R, D, ⟨z0, z1, z2, z5, z6, z7, z8, z9, z10⟩, A⟩ w4 z2
      rw [decide_eq_true h0] at e2 e3
      rw [if_pos (vb_f rfl), if_pos (vb_f rfl), if_pos (vb_f rfl), if_neg (vb_t rfl : ¬ vm_bi true = 0), if_neg (vb_t rfl : ¬ vm_bi true = 0), f_X0_carryOut_j26, if_pos (vb_f rfl : vm_bi false = 0)]
      exact ⟨s', f, g', z', v, _, _, _, _, e1, e2, ⟨oo4 h12 hp, e3⟩, e4⟩
/-- a request ends that has all its approvals -/
theorem settle_ (B : BZ r s f g ap day grace longest spent spentIn spendings urgentSp dropped lapsedLate z) {q : Nat} (hq : q < s) : ∃ (s' : Nat) (f' g' z' : Nat → Int32) (v dr sp si sn : Int32), f_X0_settle (Int32.ofNat r) f (Int32.ofNat s) g spent spentIn spendings dropped (Int32.ofNat q) = (v, dr, sp, si, sn, f', Int32.ofNat s', g') ∧ f_X6_end z (Int32.ofNat q) = (v, z') ∧ o_X6_end z (Int32.ofNat q) ∧ BZ r s' f' g' ap day grace longest sp si sn urgentSp dr lapsedLate z' := by
  obtain ⟨M, R, D, ⟨z0, z1, z2, z5, z6, z7, z8, z9, z10⟩, A⟩ := B
  have h12 := M.1
  have h6 := R.1
  obtain ⟨⟨m, hm, hme⟩, ⟨a, a1, a2, hae⟩, hu01, -⟩ := R.2.2 q hq
  obtain ⟨x1, x2⟩ := rem_z R hq
  have M1 : MB r f (rmz q s z) := M.toz (rmz_out (by omega) (by omega)) (fun i h1 h2 => rmz_out (by omega) (by omega))
  have R1 := R.rem hq
  have ho : ∀ i : Nat, i ≠ 4 → i < 127 → rmz q s z i = z i := fun i h1 h2 => rmz_out h1 h2
  obtain ⟨c1, c2⟩ := mreason M hm (Int32.ofNat a)
  obtain ⟨c3, c4⟩ := mreason M1 hm (Int32.ofNat a)
  have hrs : f_X6_reason (rmz q s z) (Int32.ofNat m) (Int32.ofNat a) = f_X6_reason z (Int32.ofNat m) (Int32.ofNat a) := c3.symm.trans c1
  have hB : ∀ dr : Int32, BZ r (s - 1) f (rmr q s g) ap day grace longest spent spentIn spendings urgentSp dr lapsedLate (upd (rmz q s z) 9 dr) := fun dr => by
    refine ⟨M1.toz (upd_n _ _ (by omega)) (fun i h1 h2 => upd_n _ _ (by omega)), R1.toz (upd_n _ _ (by omega)) (fun i h1 h2 => upd_n _ _ (by omega)), D, ?_, fun p hp => ?_⟩
    · rw [upd_n _ _ (by omega), upd_n _ _ (by omega), upd_n _ _ (by omega), upd_n _ _ (by omega), upd_n _ _ (by omega), upd_n _ _ (by omega), upd_n _ _ (by omega), upd_s, upd_n _ _ (by omega), ho 0 (by omega) (by omega), ho 1 (by omega) (by omega), ho 2 (by omega) (by omega), ho 5 (by omega) (by omega), ho 6 (by omega) (by omega), ho 7 (by omega) (by omega), ho 8 (by omega) (by omega), ho 10 (by omega) (by omega)]
      exact ⟨z0, z1, z2, z5, z6, z7, z8, rfl, z10⟩
    · rw [upd_n _ _ (by omega), ho _ (by omega) (by omega)]
      exact A p hp
  have h9 : rmz q s z 9 = dropped := (ho 9 (by omega) (by omega)).trans z9
  have hB0 : BZ r (s - 1) f (rmr q s g) ap day grace longest spent spentIn spendings urgentSp dropped lapsedLate (rmz q s z) := by
    have e : upd (rmz q s z) 9 dropped = rmz q s z := by
      funext i
      by_cases h : i = 9
      · rw [h, upd_s, h9]
      · rw [upd_n _ _ h]
    have := hB dropped
    rwa [e] at this
  rw [f_X0_settle, f_X0_removeRequest, f_X0_removeRequest_c18, rem_c h6 hq, f_X0_settle_c21, rurg h6 hq, p6_0 h6 hq, p6_1 h6 hq, hme, hae, c1, f_X6_end, o_X6_end, f_X6_end_j29, f_X6_end_j29, o_X6_end_j29, o_X6_end_j29, x1, f_X6_end_c36, o_X6_end_c36, f_X6_end_c36, o_X6_end_c36, ro0 R hq, ro1 R hq, ro3 R hq, hme, hae, hrs, if_neg (vb_t rfl : ¬ vm_bi true = 0), if_neg (vb_t rfl : ¬ vm_bi true = 0), if_pos (vb_f rfl : vm_bi false = 0), if_pos (vb_f rfl : vm_bi false = 0)]
  rcases hu01 with hu | hu
  · rw [hu, if_pos (by decide : vm_bi (decide ((0 : Int32) = 1)) = 0), if_neg (by decide : ¬ (0 : Int32) = 1), if_neg (by decide : ¬ (0 : Int32) = 1)]
    by_cases hr : f_X6_reason z (Int32.ofNat m) (Int32.ofNat a) = 0
    · obtain ⟨fm, zm, m1, m2, m3, m4, m5, m6, m7, m8, m9⟩ := make_ M1 hm (a := a) a2 (reason0 (hrs.trans hr))
      -- the class makes it in its own table, which is the same
      rw [if_pos hr, if_pos (reason_le.mpr hr), if_pos (reason_le.mpr hr), f_X0_makeSpending, f_X0_makeSpending_c9, m1, f_X0_settle_c61, m2, f_X6_end_c71]
      refine ⟨s - 1, fm, rmr q s g, zm, 1, _, _, _, _, rfl, rfl, ⟨roo0 h6 hq, roo1 h6 hq, roo3 h6 hq, x2, c4, m3, trivial⟩, m4, R1.toz (m9 4 (by omega) (by omega) (by omega) (Or.inl (by omega))) (fun i h1 _ => m9 i (by omega) (by omega) (by omega) (Or.inr h1)), D, ?_, fun p hp => ?_⟩
      · have hk : ∀ i : Nat, i ≠ 5 → i ≠ 6 → i ≠ 7 → i ≠ 4 → i < 19 → zm i = z i := fun i h1 h2 h3 h4 h5 => (m9 i h1 h2 h3 (Or.inl h5)).trans (ho i h4 (by omega))
        rw [m6, m7, m8, ho 5 (by omega) (by omega), ho 6 (by omega) (by omega), ho 7 (by omega) (by omega), hk 0 (by omega) (by omega) (by omega) (by omega) (by omega), hk 1 (by omega) (by omega) (by omega) (by omega) (by omega), hk 2 (by omega) (by omega) (by omega) (by omega) (by omega), hk 8 (by omega) (by omega) (by omega) (by omega) (by omega), hk 9 (by omega) (by omega) (by omega) (by omega) (by omega), hk 10 (by omega) (by omega) (by omega) (by omega) (by omega), z5, z6, z7]
        exact ⟨z0, z1, z2, rfl, rfl, rfl, z8, z9, z10⟩
      · rw [m9 _ (by omega) (by omega) (by omega) (Or.inl (by omega)), ho _ (by omega) (by omega)]
        exact A p hp
    · have hr2 : ¬ f_X6_reason z (Int32.ofNat m) (Int32.ofNat a) ≤ 0 := fun q => hr (reason_le.mp q)
      rw [if_neg hr, if_neg hr2, if_neg hr2, cn_9, h9]
      exact ⟨s - 1, f, rmr q s g, _, 2, _, _, _, _, rfl, rfl, ⟨roo0 h6 hq, roo1 h6 hq, roo3 h6 hq, x2, c4, trivial⟩, hB _⟩
  · rw [hu, if_neg (by decide : ¬ vm_bi (decide ((1 : Int32) = 1)) = 0), if_pos rfl, if_pos rfl]
    exact ⟨s - 1, f, rmr q s g, _, 1, _, _, _, _, rfl, rfl, ⟨roo0 h6 hq, roo1 h6 hq, roo3 h6 hq, x2, trivial⟩, hB0⟩
end BZS
