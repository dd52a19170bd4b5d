/-! TEXTS: read to their end, and carried out -/
section RUS
variable {n k rd r s : Nat} {tx rx pa f g ap z : Nat → Int32} {num due : Int32} {day grace longest spent spentIn spendings urgentSp dropped lapsedLate : Int32}
theorem ca_ (hn : n ≤ 60) (hk : k < n) : f_X4_codeAt (Int32.ofNat n) tx (Int32.ofNat k) = tx k := by
  rw [f_X4_codeAt, if_neg (pn_nn (by omega)), if_neg (by rw [pn_le (by omega) (by omega)]; omega), if_neg (by rw [show (60 : Int32) = Int32.ofNat 60 from rfl, pn_le (by omega) (by omega)]; omega), pn_clamp (by omega)]
theorem sw_ (c : Int32) : f_X4_stateAfter (-1) c = -1 := by
  rw [f_X4_stateAfter, if_neg (by decide), if_pos (by decide)]
theorem ic_wrong (hn : n ≤ 60) : ∀ (f k : Nat), k ≤ n → n - k < f → f_X4_isComplete_j4 (Int32.ofNat n) tx f (-1) (Int32.ofNat k) = false := by
  intro f
  induction f with
  | zero => intro k h1 h2; omega
  | succ f ih =>
    intro k h1 h2
    rw [f_X4_isComplete_j4]
    by_cases h : k = n
    · subst h
      rw [if_pos (by rw [pn_le (by omega) (by omega)]; omega), if_pos (by decide)]
    · rw [if_neg (by rw [pn_le (by omega) (by omega)]; omega), sw_, pn_succ]
      exact ih (k + 1) (by omega) (by omega)
theorem parse_ (hn : n ≤ 60) (ht : ∀ q : Nat, q < n → rx q = tx q) (hc : ∀ q : Nat, q < n → ∃ c : Nat, c < 127 ∧ tx q = Int32.ofNat c) : ∀ (f1 f2 f3 k st rd : Nat) (num due : Int32) (pa : Nat → Int32), k ≤ n → n - k < f1 → n - k < f2 → n - k < f3 → PS tx pa k rd num due st → o_X6_rightUpTo_j12 (Int32.ofNat n) rx f2 (Int32.ofNat k) (Int32.ofNat rd) num due pa ∧ ((∃ (st' rd' : Nat) (num' due' : Int32) (pa' : Nat → Int32), PS tx pa' n rd' num' due' st' ∧ f_X4_errorIndex_j4 (Int32.ofNat n) tx f1 (Int32.ofNat st) (Int32.ofNat k) = Int32.ofNat n ∧ f_X4_isComplete_j4 (Int32.ofNat n) tx f3 (Int32.ofNat st) (Int32.ofNat k) = decide (5 ≤ st') ∧ f_X6_rightUpTo_j12 (Int32.ofNat n) rx f2 (Int32.ofNat k) (Int32.ofNat rd) num due pa = (Int32.ofNat n, Int32.ofNat rd', num', due', pa')) ∨ (∃ e : Nat, e < n ∧ f_X4_errorIndex_j4 (Int32.ofNat n) tx f1 (Int32.ofNat st) (Int32.ofNat k) = Int32.ofNat e ∧ f_X4_isComplete_j4 (Int32.ofNat n) tx f3 (Int32.ofNat st) (Int32.ofNat k) = false ∧ (f_X6_rightUpTo_j12 (Int32.ofNat n) rx f2 (Int32.ofNat k) (Int32.ofNat rd) num due pa).1 = Int32.ofNat e)) := by
  intro f1
  induction f1 with
  | zero => intro f2 f3 k st rd num due pa h1 h2; omega
  | succ f1 ih =>
    intro f2 f3 k st rd num due pa h1 h2 h3 h4 P
    cases f2 with
    | zero => omega
    | succ f2 =>
    cases f3 with
    | zero => omega
    | succ f3 =>
      rw [f_X4_errorIndex_j4, f_X4_isComplete_j4, f_X6_rightUpTo_j12, o_X6_rightUpTo_j12]
      by_cases hkn : k = n
      · subst hkn
        have hle : Int32.ofNat k ≤ Int32.ofNat k := by rw [pn_le (by omega) (by omega)]; omega
        rw [if_pos hle, if_pos hle, if_pos hle, if_pos hle]
        refine ⟨trivial, Or.inl ⟨st, rd, num, due, pa, P, rfl, ?_, rfl⟩⟩
        have h8 := P.1
        by_cases h5 : 5 ≤ st
        · rw [if_neg (by rw [show (5 : Int32) = Int32.ofNat 5 from rfl, pn_lt (by omega) (by omega)]; omega), decide_eq_true h5]
        · rw [if_pos (by rw [show (5 : Int32) = Int32.ofNat 5 from rfl, pn_lt (by omega) (by omega)]; omega), decide_eq_false h5]
      · have hk : k < n := by omega
        have hle : ¬ Int32.ofNat n ≤ Int32.ofNat k := by rw [pn_le (by omega) (by omega)]; omega
        obtain ⟨c, hc1, hc2⟩ := hc k hk
        rw [if_neg hle, if_neg hle, if_neg hle, if_neg hle, ca_ hn hk, pn_clamp (by omega), ht k hk, pn_succ]
        obtain ⟨o1, hs⟩ := step_ P (by omega) hc1 hc2
        have v60 : vp_in (Int32.ofNat k) 60 := pz_vp (by omega) (by omega)
        rcases hs with ⟨st', rd', num', due', pa', a1, a2, a3⟩ | ⟨a1, a2⟩
        · rw [a1, a2, f_X6_rightUpTo_c30, o_X6_rightUpTo_c30]
          have hne : ¬ Int32.ofNat st' = -1 := pn_nm (by have := a3.1; omega)
          obtain ⟨b1, b2⟩ := ih f2 f3 (k + 1) st' rd' num' due' pa' (by omega) (by omega) (by omega) (by omega) a3
          rw [if_neg hne]
          dsimp only
          rw [if_neg (vb_t rfl : ¬ vm_bi true = 0), if_neg (vb_t rfl : ¬ vm_bi true = 0), pn_succ]
          exact ⟨⟨v60, o1, b1⟩, b2⟩
        · rw [a1, if_pos rfl, f_X6_rightUpTo_c30, o_X6_rightUpTo_c30, a2, if_pos (vb_f rfl : vm_bi false = 0), if_pos (vb_f rfl : vm_bi false = 0)]
          exact ⟨⟨v60, o1, trivial⟩, Or.inr ⟨k, hk, rfl, ic_wrong hn f3 (k + 1) (by omega) (by omega), rfl⟩⟩
theorem ps0 (num : Int32) : PS tx pa 0 0 num 0 0 := ⟨by omega, by decide, fun _ => 0, rfl, fun i hi => absurd hi (by omega), Or.inl ⟨rfl, rfl, rfl⟩⟩
/-! numbers, as the class finds them again -/
theorem isd_c {q : Nat} (h : dg_ tx q) : f_X4_isDigit (tx q) = true := by
  obtain ⟨d, hd, he⟩ := h
  rw [he, isd_ _ (by omega), decide_eq_true (by omega)]
theorem end_ (hn : n ≤ 60) {a m : Nat} (hd : DG tx a m) (hm : a + m ≤ n) (hb : a + m = n ∨ f_X4_isDigit (tx (a + m)) = false) : f_X4_endOfNumber (Int32.ofNat n) tx (Int32.ofNat a) = Int32.ofNat (a + m) := by
  have h : ∀ (f d : Nat), d ≤ m → m - d < f → f_X4_endOfNumber_j2 (Int32.ofNat n) tx f (Int32.ofNat (a + d)) = Int32.ofNat (a + m) := by
    intro f
    induction f with
    | zero => intro d h1 h2; omega
    | succ f ih =>
      intro d h1 h2
      rw [f_X4_endOfNumber_j2]
      by_cases hdm : d = m
      · subst hdm
        rcases hb with hb | hb
        · rw [if_pos (by rw [pn_le (by omega) (by omega)]; omega)]
        · by_cases hlt : a + d < n
          · rw [if_neg (by rw [pn_le (by omega) (by omega)]; omega), ca_ hn hlt, hb, if_pos (vb_f rfl)]
          · rw [if_pos (by rw [pn_le (by omega) (by omega)]; omega)]
      · rw [if_neg (by rw [pn_le (by omega) (by omega)]; omega), ca_ hn (by omega), isd_c (hd d (by omega)), if_neg (vb_t rfl), pn_succ]
        exact ih (d + 1) (by omega) (by omega)
  rw [f_X4_endOfNumber, toI2 (by omega) (by omega)]
  exact h (n - a + 1) 0 (by omega) (by omega)
theorem num_ (hn : n ≤ 60) {a m : Nat} (hd : DG tx a m) (hm : a + m ≤ n) : f_X4_numberIn (Int32.ofNat n) tx (Int32.ofNat a) (Int32.ofNat (a + m)) = Int32.ofNat (nv_ tx a m) := by
  have h : ∀ (f d : Nat), d ≤ m → m - d < f → f_X4_numberIn_j5 (Int32.ofNat n) tx (Int32.ofNat (a + m)) f (Int32.ofNat (nv_ tx a d)) (Int32.ofNat (a + d)) = Int32.ofNat (nv_ tx a m) := by
    intro f
    induction f with
    | zero => intro d h1 h2; omega
    | succ f ih =>
      intro d h1 h2
      rw [f_X4_numberIn_j5]
      by_cases hdm : d = m
      · subst hdm
        rw [if_pos (by rw [pn_le (by omega) (by omega)]; omega)]
      · obtain ⟨e, he, hx⟩ := hd d (by omega)
        have e1 : Int32.ofNat (nv_ tx a d) * 10 + Int32.ofNat (48 + e) - 48 = Int32.ofNat (nv_ tx a (d + 1)) := by
          rw [show (10 : Int32) = Int32.ofNat 10 from rfl, pn_mul, pn_add, sub48 (by omega)]
          congr 1
          show _ = nv_ tx a d * 10 + dv_ tx (a + d)
          unfold dv_
          rw [hx, pn_clamp (by omega)]
          omega
        rw [if_neg (by rw [pn_le (by omega) (by omega)]; omega), ca_ hn (by omega), hx, e1, pn_succ]
        exact ih (d + 1) (by omega) (by omega)
  rw [f_X4_numberIn, toI2 (by omega) (by omega)]
  exact h (a + m - a + 1) 0 (by omega) (by omega)
/-- all of it, when it is complete -/
def AL (tx pa : Nat → Int32) (n rd : Nat) (S : Nat → Nat) : Prop := S 0 = 0 ∧ rd ≤ 11 ∧ ∀ i : Nat, i ≤ rd → ∃ e : Nat, SG tx pa i (S i) e ∧ e ≤ n ∧ (e = n ∨ tx e = 59) ∧ (i < rd → S (i + 1) = e + 1 ∧ e < n) ∧ (i = rd → e = n)
theorem al_ {st : Nat} (hn : n ≤ 60) (P : PS tx pa n rd num due st) (h5 : 5 ≤ st) : due = 2 ∧ ¬ num = -1 ∧ ∃ S : Nat → Nat, AL tx pa n rd S := by
  obtain ⟨h8, hk, S, S0, Sall, L⟩ := P
  have hms : ms_ st = 4 := by
    unfold ms_
    rw [if_neg (by omega), if_neg (by omega), if_neg (by omega), if_neg (by omega)]
  rw [hms] at hk
  rcases L with ⟨rfl, -⟩ | ⟨rfl, -⟩ | ⟨h, -⟩ | ⟨rfl, -⟩ | ⟨-, hdue, hh, m1, m2, hka, hm, h58, ham, hst4, hnum⟩
  · omega
  · omega
  · omega
  · omega
  · have hpow : 10 ^ m2 ≤ 10000 := by
      have h9 : m2 = 1 ∨ m2 = 2 ∨ m2 = 3 ∨ m2 = 4 := by omega
      rcases h9 with rfl | rfl | rfl | rfl <;> decide
    have h9 := ham.2.2.2.2.1
    refine ⟨hdue, by rw [hnum]; exact pn_nm (by omega), S, S0, by omega, fun i hi => ?_⟩
    by_cases hir : i = rd
    · subst hir
      exact ⟨n, ⟨hh, m1, m2, hm, h58, ham, hka⟩, Nat.le_refl _, Or.inl rfl, fun q => absurd q (by omega), fun _ => rfl⟩
    · obtain ⟨e, e1, e2, e3, e4⟩ := Sall i (by omega)
      exact ⟨e, e1, by omega, Or.inr e2, fun _ => ⟨e3, e4⟩, fun q => absurd q hir⟩
theorem ps_not {st : Nat} (P : PS tx pa n rd num due st) (h5 : ¬ 5 ≤ st) : ¬ (due = 2 ∧ ¬ num = -1) := by
  obtain ⟨h8, hk, S, S0, Sall, L⟩ := P
  rintro ⟨h2, hn1⟩
  rcases L with ⟨-, h, -⟩ | ⟨-, h, -⟩ | ⟨-, h, -⟩ | ⟨-, -, h, -⟩ | ⟨h, -⟩
  · rw [h] at h2; exact absurd h2 (by decide)
  · rw [h] at h2; exact absurd h2 (by decide)
  · rw [h] at h2; exact absurd h2 (by decide)
  · exact hn1 h
  · exact h5 h
theorem run_l {S : Nat → Nat} (hn : n ≤ 60) (Q : AL tx pa n rd S) (st0 thr : Int32) (hi : Nat → Int32) : ∀ (d f1 f2 i a s : Nat) (f g z : Nat → Int32) (spent spentIn spendings urgentSp : Int32), i + d = rd + 1 → d < f1 → d < f2 → (i ≤ rd → a = S i) → (rd < i → a = n + 1) → BZ r s f g ap day grace longest spent spentIn spendings urgentSp dropped lapsedLate z → ∃ (v s' : Nat) (f' g' z' : Nat → Int32) (sp si sn us : Int32), f_X5_carryOutText_j6 (Int32.ofNat r) day (Int32.ofNat n) tx f1 (Int32.ofNat i) (Int32.ofNat a) (Int32.ofNat i) spent spentIn spendings urgentSp f (Int32.ofNat s) g = (Int32.ofNat v, sp, si, sn, us, f', Int32.ofNat s', g') ∧ f_X6_run_j66 f2 (Int32.ofNat i) st0 thr (Int32.ofNat rd) num due z hi pa = (Int32.ofNat v, st0, 0, thr, Int32.ofNat rd, num, due, z', hi, pa) ∧ o_X6_run_j66 f2 (Int32.ofNat i) st0 thr (Int32.ofNat rd) num due z hi pa ∧ BZ r s' f' g' ap day grace longest sp si sn us dropped lapsedLate z' := by
  obtain ⟨S0, hrd, Qa⟩ := Q
  intro d
  induction d with
  | zero =>
    intro f1 f2 i a s f g z spent spentIn spendings urgentSp h1 h2 h3 ha ha2 B
    cases f1 with
    | zero => omega
    | succ f1 =>
    cases f2 with
    | zero => omega
    | succ f2 =>
      have ha' := ha2 (by omega)
      have h60 : ¬ (60 : Int32) ≤ Int32.ofNat i := by rw [show (60 : Int32) = Int32.ofNat 60 from rfl, pn_le (by omega) (by omega)]; omega
      have hlt : Int32.ofNat rd < Int32.ofNat i := by rw [pn_lt (by omega) (by omega)]; omega
      rw [f_X5_carryOutText_j6, f_X6_run_j66, o_X6_run_j66, if_neg h60, if_pos (by rw [pn_le (by omega) (by omega)]; omega), if_pos hlt, if_pos hlt]
      exact ⟨i, s, f, g, z, _, _, _, _, rfl, rfl, trivial, B⟩
  | succ d ih =>
    intro f1 f2 i a s f g z spent spentIn spendings urgentSp h1 h2 h3 ha ha2 B
    cases f1 with
    | zero => omega
    | succ f1 =>
    cases f2 with
    | zero => omega
    | succ f2 =>
      have hir : i ≤ rd := by omega
      have ha' := ha hir
      obtain ⟨e, ⟨⟨hk1, hk2⟩, m1, m2, ⟨hm1, hm2, hm3, hm4⟩, h58, ⟨an1, an2, an3, an4, an5, an6⟩, he⟩, hen, hend, hnext, hlast⟩ := Qa i hir
      rw [← ha'] at hk1 hk2 hm2 hm3 hm4 h58 an3 an4 an5 an6 he
      have h60 : ¬ (60 : Int32) ≤ Int32.ofNat i := by rw [show (60 : Int32) = Int32.ofNat 60 from rfl, pn_le (by omega) (by omega)]; omega
      have hlt : ¬ Int32.ofNat rd < Int32.ofNat i := by rw [pn_lt (by omega) (by omega)]; omega
      have hna : ¬ Int32.ofNat n ≤ Int32.ofNat a := by rw [pn_le (by omega) (by omega)]; omega
      have d58 : f_X4_isDigit (58 : Int32) = false := by decide
      have d59 : f_X4_isDigit (59 : Int32) = false := by decide
      have E1 : f_X4_endOfNumber (Int32.ofNat n) tx (Int32.ofNat (a + 1)) = Int32.ofNat (a + 1 + m1) := end_ hn hm2 (by omega) (Or.inr (by rw [h58]; exact d58))
      have E2 : f_X4_endOfNumber (Int32.ofNat n) tx (Int32.ofNat (a + 1 + m1 + 1)) = Int32.ofNat (a + 1 + m1 + 1 + m2) := end_ hn an3 (by omega) (by
        rcases hend with q | q
        · left; omega
        · right; rw [← he, q]; exact d59)
      have N1 := num_ hn hm2 (by omega)
      have N2 := num_ hn an3 (by omega)
      have hp2 : 10 ^ m2 ≤ 10000 := by
        have h9 : m2 = 1 ∨ m2 = 2 ∨ m2 = 3 ∨ m2 = 4 := by omega
        rcases h9 with rfl | rfl | rfl | rfl <;> decide
      have hpos : 1 ≤ nv_ tx (a + 1 + m1 + 1) m2 := Nat.le_trans (Nat.le_trans Nat.one_le_two_pow (Nat.pow_le_pow_left (by decide : 2 ≤ 10) (m2 - 1))) an4
      obtain ⟨v0, c0⟩ := vp420 (rd := i) (by omega)
      obtain ⟨v1, c1⟩ := vp42 (rd := i) (d := 1) (by omega) (by omega)
      obtain ⟨v2, c2⟩ := vp42 (rd := i) (d := 2) (by omega) (by omega)
      have c1' : Int32.toNatClampNeg ((3 * Int32.ofNat i) + 1) = 3 * i + 1 := c1
      have c2' : Int32.toNatClampNeg ((3 * Int32.ofNat i) + 2) = 3 * i + 2 := c2
      have M := B.1
      have R := B.2.1
      have h12 := M.1
      generalize hmd : nv_ tx (a + 1) m1 = md at hm3 hm4 N1
      generalize ham : nv_ tx (a + 1 + m1 + 1) m2 = am at an4 an5 an6 N2 hpos
      -- the kind
      have kind : ∀ u : Bool, u = decide (tx a = 117) → ∃ (v s' : Nat) (f' g' z' : Nat → Int32) (sp si sn us : Int32), f_X5_carryOutText_j41 (Int32.ofNat r) day (Int32.ofNat n) tx (Int32.ofNat i) (Int32.ofNat a) (Int32.ofNat i) spent spentIn spendings urgentSp f (Int32.ofNat s) g (f_X5_carryOutText_j6 (Int32.ofNat r) day (Int32.ofNat n) tx f1) u = (Int32.ofNat v, sp, si, sn, us, f', Int32.ofNat s', g') ∧ f_X6_run_c79 (Int32.ofNat i) st0 thr (Int32.ofNat rd) num due hi pa (f_X6_run_j66 f2) (f_X6_carries_j19 z pa (Int32.ofNat i) u).1 (f_X6_carries_j19 z pa (Int32.ofNat i) u).2 = (Int32.ofNat v, st0, 0, thr, Int32.ofNat rd, num, due, z', hi, pa) ∧ o_X6_carries_j19 z pa (Int32.ofNat i) u ∧ o_X6_run_c79 (Int32.ofNat i) st0 thr (Int32.ofNat rd) num due hi pa (o_X6_run_j66 f2) (f_X6_carries_j19 z pa (Int32.ofNat i) u).1 (f_X6_carries_j19 z pa (Int32.ofNat i) u).2 ∧ BZ r s' f' g' ap day grace longest sp si sn us dropped lapsedLate z' := by
        intro u hu
        have stop : f_X6_carries_j63 z pa (Int32.ofNat i) u = (false, z) ∧ o_X6_carries_j63 z pa (Int32.ofNat i) u := by
          rw [f_X6_carries_j63, o_X6_carries_j63, f_X6_carries_j64, o_X6_carries_j64, if_pos (vb_f rfl), if_pos (vb_f rfl), f_X6_carries_j96, o_X6_carries_j96]
          exact ⟨rfl, trivial⟩
        rw [f_X5_carryOutText_j41, pn_succ, E1, pn_succ, E2, N1, N2, f_X2_total, f_X6_carries_j19, o_X6_carries_j19, c1', c2', hm4, an6]
        rcases mi_ M (Int32.ofNat md) with ⟨i1, -, -⟩ | ⟨i1, -, i3⟩
        · have hmr : md < r := by
            apply Decidable.byContradiction
            intro q
            have := (within_ix (p := Int32.ofNat md) h12)
            rw [f_X6_isMandate, mz3 M] at i1
            rcases this with ⟨-, -, q2, -⟩ | ⟨q1, -⟩
            · rw [pn_lt (by omega) (by omega)] at q2; omega
            · rw [q1] at i1; exact absurd i1 (by decide)
          have hle : ¬ Int32.ofNat r ≤ Int32.ofNat md := by rw [pn_le (by omega) (by omega)]; omega
          obtain ⟨k1, k2, -⟩ := canask M R hmr (Int32.ofNat am) (vm_bi u)
          rw [if_neg hle, i1, if_neg (vb_t rfl : ¬ vm_bi true = 0), if_neg (vb_t rfl : ¬ vm_bi true = 0), k1]
          cases hcan : f_X6_canAsk z (Int32.ofNat md) (Int32.ofNat am) (vm_bi u) with
          | false =>
            rw [if_pos (vb_f rfl : vm_bi false = 0), if_pos (vb_f rfl : vm_bi false = 0), if_pos (vb_f rfl : vm_bi false = 0), stop.1, f_X6_run_c79, o_X6_run_c79, if_pos (vb_f rfl : vm_bi false = 0), if_pos (vb_f rfl : vm_bi false = 0)]
            exact ⟨i, s, f, g, z, _, _, _, _, rfl, rfl, ⟨v1, v1, v2, k2, stop.2⟩, trivial, B⟩
          | true =>
            obtain ⟨s', f', g', z', vv, sp, si, sn, us, b1, b2, b3, b4⟩ := ask_ B hmr (a := am) hpos (by omega) u hcan
            rw [if_neg (vb_t rfl : ¬ vm_bi true = 0), if_neg (vb_t rfl : ¬ vm_bi true = 0), if_neg (vb_t rfl : ¬ vm_bi true = 0), f_X6_carries_j64, o_X6_carries_j64, if_neg (vb_t rfl : ¬ vm_bi true = 0), if_neg (vb_t rfl : ¬ vm_bi true = 0), c1', c2', hm4, an6, b2, f_X6_carries_c92, o_X6_carries_c92, f_X6_carries_j96, o_X6_carries_j96, b1, f_X5_carryOutText_c144, f_X6_run_c79, o_X6_run_c79]
            simp only [pn_succ, E1, E2]
            rw [if_neg (vb_t rfl : ¬ vm_bi true = 0), if_neg (vb_t rfl : ¬ vm_bi true = 0)]
            obtain ⟨v, s'', f'', g'', z'', sp2, si2, sn2, us2, d1, d2, d3, d4⟩ := ih f1 f2 (i + 1) (a + 1 + m1 + 1 + m2 + 1) s' f' g' z' sp si sn us (by omega) (by omega) (by omega) (fun q => by rw [(hnext (by omega)).1, he]) (fun q => by have := hlast (by omega); omega) b4
            exact ⟨v, s'', f'', g'', z'', sp2, si2, sn2, us2, d1, d2, ⟨v1, v1, v2, k2, v1, v2, b3, trivial⟩, d3, d4⟩
        · have hmr : r ≤ md := by
            apply Decidable.byContradiction
            intro q
            exact i3 ⟨md, by omega, rfl⟩
          have hle : Int32.ofNat r ≤ Int32.ofNat md := by rw [pn_le (by omega) (by omega)]; omega
          rw [if_pos hle, i1, if_pos (vb_f rfl : vm_bi false = 0), if_pos (vb_f rfl : vm_bi false = 0), stop.1, f_X6_run_c79, o_X6_run_c79, if_pos (vb_f rfl : vm_bi false = 0), if_pos (vb_f rfl : vm_bi false = 0)]
          exact ⟨i, s, f, g, z, _, _, _, _, rfl, rfl, ⟨v1, stop.2⟩, trivial, B⟩
      rw [f_X5_carryOutText_j6, f_X6_run_j66, o_X6_run_j66, if_neg h60, if_neg hna, if_neg hlt, if_neg hlt, ca_ hn (by omega), f_X6_carries, o_X6_carries, c0, hk2]
      by_cases h117 : tx a = 117
      · obtain ⟨v, s', f', g', z', sp, si, sn, us, b1, b2, b3, b4, b5⟩ := kind true (decide_eq_true h117).symm
        rw [if_pos h117, decide_eq_true h117, if_pos (by decide : vm_bi true = 1), if_pos (by decide : vm_bi true = 1)]
        exact ⟨v, s', f', g', z', sp, si, sn, us, b1, b2, ⟨⟨v0, b3⟩, b4⟩, b5⟩
      · obtain ⟨v, s', f', g', z', sp, si, sn, us, b1, b2, b3, b4, b5⟩ := kind false (decide_eq_false h117).symm
        rw [if_neg h117, decide_eq_false h117, if_neg (by decide : ¬ vm_bi false = 1), if_neg (by decide : ¬ vm_bi false = 1)]
        exact ⟨v, s', f', g', z', sp, si, sn, us, b1, b2, ⟨⟨v0, b3⟩, b4⟩, b5⟩
end RUS
