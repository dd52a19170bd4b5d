/-! THE DIGEST -/
section DIG
variable {r s k n : Nat} {f g ap z tx rx : Nat → Int32} {day grace longest spent spentIn spendings urgentSp dropped lapsedLate kept : Int32}
theorem mixm_ (B : BZ r s f g ap day grace longest spent spentIn spendings urgentSp dropped lapsedLate z) (hk : k < r) : ∀ (n1 n2 c : Nat) (h : Int64), c ≤ 12 → 12 - c < n1 → 12 - c < n2 → f_X5_mixMandate_j6 (Int32.ofNat r) f (Int32.ofNat s) g day grace (Int32.ofNat k) n1 h (Int32.ofNat c) = f_X6_mixMandate_j2 z (Int32.ofNat k) n2 (Int32.ofNat c) h ∧ o_X5_mixMandate_j6 (Int32.ofNat r) f (Int32.ofNat s) g day grace (Int32.ofNat k) n1 h (Int32.ofNat c) ∧ o_X6_mixMandate_j2 z (Int32.ofNat k) n2 (Int32.ofNat c) h := by
  have M := B.1
  have R := B.2.1
  have z0 := B.2.2.2.1.1
  have z2 := B.2.2.2.1.2.2.1
  intro n1
  induction n1 with
  | zero => intro n2 c h h1 h2; omega
  | succ n1 ih =>
    intro n2 c h h1 h2 h3
    cases n2 with
    | zero => omega
    | succ n2 =>
      rw [f_X5_mixMandate_j6, f_X6_mixMandate_j2, o_X5_mixMandate_j6, o_X6_mixMandate_j2]
      by_cases hc : c = 12
      · subst hc
        obtain ⟨a1, a2⟩ := mreason M hk 100
        have b1 := mroom M hk 0
        have b2 := mroom M hk 1
        have b3 := mroom_o M hk 0
        have b4 := mroom_o M hk 1
        obtain ⟨c1, -⟩ := mlapse M hk
        have c2 := mlapsing_o M hk
        obtain ⟨d1, d2, -⟩ := mnarrow M hk
        obtain ⟨e1, e2⟩ := rdaysLeft M R hk z2 z0
        obtain ⟨s1, s2, s3, s4⟩ := mshare M hk
        obtain ⟨t1, t2⟩ := mbits s4
        rw [if_pos (by decide), if_pos (by decide), if_pos (by decide), if_pos (by decide), f_X6_mixMandate_c37, f_X6_mixMandate_c48, f_X6_mixMandate_c59, f_X6_mixMandate_c69, f_X6_mixMandate_c79, f_X6_mixMandate_c89, f_X6_mixMandate_c101, o_X6_mixMandate_c37, o_X6_mixMandate_c48, o_X6_mixMandate_c59, o_X6_mixMandate_c69, o_X6_mixMandate_c79, o_X6_mixMandate_c89, o_X6_mixMandate_c101, a1, b1, b2, c1, d1, e1, s1, t1]
        exact ⟨rfl, ⟨s2, t2, trivial⟩, a2, b3, b4, c2, d2, e2, s3, trivial⟩
      · have hle := le12 (s := c) (by omega)
        obtain ⟨p1, p2⟩ := mprop B hk (c := c) (by omega)
        rw [if_neg hle, if_neg hle, if_neg hle, if_neg hle, f_X6_mixMandate_c19, o_X6_mixMandate_c19, p1, pn_succ]
        obtain ⟨q1, q2, q3⟩ := ih n2 (c + 1) (f_X5_mix h (Int32.toInt64 (f_X6_mandateNow z (Int32.ofNat k) (Int32.ofNat c)))) (by omega) (by omega) (by omega)
        exact ⟨q1, q2, p2, q3⟩
theorem mixm (B : BZ r s f g ap day grace longest spent spentIn spendings urgentSp dropped lapsedLate z) (hk : k < r) (h : Int64) : f_X5_mixMandate (Int32.ofNat r) f (Int32.ofNat s) g day grace h (Int32.ofNat k) = f_X6_mixMandate h z (Int32.ofNat k) ∧ o_X5_mixMandate (Int32.ofNat r) f (Int32.ofNat s) g day grace h (Int32.ofNat k) ∧ o_X6_mixMandate h z (Int32.ofNat k) := mixm_ B hk 13 13 0 h (by omega) (by omega) (by omega)
/-- the text -/
theorem dig_t (hn : n ≤ 60) (ht : ∀ q : Nat, q < n → rx q = tx q) : ∀ (n1 n2 k : Nat) (h : Int64), k ≤ n → n - k < n1 → n - k < n2 → f_X5_digest_n_j198 (Int32.ofNat n) tx n1 h (Int32.ofNat k) = (f_X6_digest_j159 (Int32.ofNat n) rx n2 (Int32.ofNat k) h).1 ∧ o_X5_digest_n_j198 (Int32.ofNat n) tx n1 h (Int32.ofNat k) ∧ o_X6_digest_j159 (Int32.ofNat n) rx n2 (Int32.ofNat k) h := by
  intro n1
  induction n1 with
  | zero => intro n2 k h h1 h2; omega
  | succ n1 ih =>
    intro n2 k h h1 h2 h3
    cases n2 with
    | zero => omega
    | succ n2 =>
      rw [f_X5_digest_n_j198, f_X6_digest_j159, o_X5_digest_n_j198, o_X6_digest_j159]
      by_cases hk : k = n
      · subst hk
        have hle : Int32.ofNat k ≤ Int32.ofNat k := by rw [pn_le (by omega) (by omega)]; omega
        rw [if_pos hle, if_pos hle, if_pos hle, if_pos hle]
        exact ⟨rfl, trivial, trivial⟩
      · have hle : ¬ Int32.ofNat n ≤ Int32.ofNat k := by rw [pn_le (by omega) (by omega)]; omega
        rw [if_neg hle, if_neg hle, if_neg hle, if_neg hle, ca_ hn (by omega), pn_clamp (by omega), ht k (by omega), f_X6_digest_c178, o_X6_digest_c178, pn_succ]
        obtain ⟨q1, q2, q3⟩ := ih n2 (k + 1) (f_X5_mix h (Int32.toInt64 (tx k))) (by omega) (by omega) (by omega)
        exact ⟨q1, q2, pz_vp (by omega) (by omega), q3⟩
theorem dm4 : ∀ i : Nat, i < 8 → ∀ c : Nat, c < 4 → Int32.ofNat (4 * i + c) / 4 = Int32.ofNat i ∧ Int32.ofNat (4 * i + c) - Int32.ofNat (4 * i + c) / 4 * 4 = Int32.ofNat c := by decide +kernel
theorem dm7 : ∀ i : Nat, i < 6 → ∀ c : Nat, c < 7 → Int32.ofNat (7 * i + c) / 7 = Int32.ofNat i ∧ Int32.ofNat (7 * i + c) - Int32.ofNat (7 * i + c) / 7 * 7 = Int32.ofNat c := by decide +kernel
/-- the persons -/
theorem dig_p (B : BZ r s f g ap day grace longest spent spentIn spendings urgentSp dropped lapsedLate z) (hn : n ≤ 60) (ht : ∀ q : Nat, q < n → rx q = tx q) : ∀ (n1 i : Nat), i ≤ 8 → 8 - i < n1 → ∀ (n2 : Nat) (h : Int64), 32 - 4 * i < n2 → f_X5_digest_n_j140 (Int32.ofNat r) f (Int32.ofNat s) g ap (Int32.ofNat n) tx n1 h (Int32.ofNat i) = (f_X6_digest_j121 (Int32.ofNat n) z rx n2 (Int32.ofNat (4 * i)) h).1 ∧ o_X5_digest_n_j140 (Int32.ofNat r) f (Int32.ofNat s) g ap (Int32.ofNat n) tx n1 h (Int32.ofNat i) ∧ o_X6_digest_j121 (Int32.ofNat n) z rx n2 (Int32.ofNat (4 * i)) h := by
  intro n1
  induction n1 with
  | zero => intro i h1 h2; omega
  | succ n1 ih =>
    intro i h1 h2
    by_cases hi : i = 8
    · intro n2 h h3
      subst hi
      cases n2 with
      | zero => omega
      | succ n2 =>
        rw [f_X5_digest_n_j140, f_X6_digest_j121, o_X5_digest_n_j140, o_X6_digest_j121, if_pos (by decide), if_pos (by decide), if_pos (by decide), if_pos (by decide), f_X6_digest_c157, o_X6_digest_c157, toI (by omega)]
        exact dig_t hn ht (n + 1) (n + 1) 0 _ (by omega) (by omega) (by omega)
    · have hi8 : i < 8 := by omega
      -- the numbers of one person
      have one : ∀ (n3 c n2 : Nat) (h : Int64), c ≤ 4 → 4 - c < n3 → 32 - (4 * i + c) < n2 → f_X5_digest_n_j149 (Int32.ofNat r) f (Int32.ofNat s) g ap (Int32.ofNat i) (f_X5_digest_n_j140 (Int32.ofNat r) f (Int32.ofNat s) g ap (Int32.ofNat n) tx n1) n3 h (Int32.ofNat c) = (f_X6_digest_j121 (Int32.ofNat n) z rx n2 (Int32.ofNat (4 * i + c)) h).1 ∧ o_X5_digest_n_j149 (Int32.ofNat r) f (Int32.ofNat s) g ap (Int32.ofNat i) (o_X5_digest_n_j140 (Int32.ofNat r) f (Int32.ofNat s) g ap (Int32.ofNat n) tx n1) n3 h (Int32.ofNat c) ∧ o_X6_digest_j121 (Int32.ofNat n) z rx n2 (Int32.ofNat (4 * i + c)) h := by
        intro n3
        induction n3 with
        | zero => intro c n2 h q1 q2; omega
        | succ n3 ih3 =>
          intro c n2 h q1 q2 q3
          rw [f_X5_digest_n_j149, o_X5_digest_n_j149]
          by_cases hc : c = 4
          · subst hc
            rw [if_pos (by decide), if_pos (by decide), pn_succ]
            exact ih (i + 1) (by omega) (by omega) n2 h (by omega)
          · cases n2 with
            | zero => omega
            | succ n2 =>
              have h4 : ¬ (4 : Int32) ≤ Int32.ofNat c := by rw [show (4 : Int32) = Int32.ofNat 4 from rfl, pn_le (by omega) (by omega)]; omega
              have h32 : ¬ (32 : Int32) ≤ Int32.ofNat (4 * i + c) := by rw [show (32 : Int32) = Int32.ofNat 32 from rfl, pn_le (by omega) (by omega)]; omega
              obtain ⟨x1, x2⟩ := dm4 i hi8 c (by omega)
              obtain ⟨p1, p2⟩ := pprop B hi8 (c := c) (by omega)
              rw [f_X6_digest_j121, o_X6_digest_j121, if_neg h4, if_neg h4, if_neg h32, if_neg h32, x2, x1, p1, f_X6_digest_c142, o_X6_digest_c142, pn_succ, pn_succ]
              obtain ⟨y1, y2, y3⟩ := ih3 (c + 1) n2 (f_X5_mix h (Int32.toInt64 (f_X6_personNow z (Int32.ofNat i) (Int32.ofNat c)))) (by omega) (by omega) (by omega)
              exact ⟨y1, y2, p2, y3⟩
      intro n2 h h3
      rw [f_X5_digest_n_j140, o_X5_digest_n_j140, if_neg (le8c hi8), if_neg (le8c hi8)]
      exact one 5 0 n2 h (by omega) (by omega) (by omega)
/-- the requests -/
theorem dig_r (B : BZ r s f g ap day grace longest spent spentIn spendings urgentSp dropped lapsedLate z) (hn : n ≤ 60) (ht : ∀ q : Nat, q < n → rx q = tx q) : ∀ (n1 i : Nat), i ≤ s → s - i < n1 → ∀ (n2 : Nat) (h : Int64), 7 * s - 7 * i < n2 → f_X5_digest_n_j86 (Int32.ofNat r) f (Int32.ofNat s) g ap (Int32.ofNat n) tx n1 h (Int32.ofNat i) = (f_X6_digest_j83 (Int32.ofNat n) z rx n2 (Int32.ofNat (7 * i)) h).1 ∧ o_X5_digest_n_j86 (Int32.ofNat r) f (Int32.ofNat s) g ap (Int32.ofNat n) tx n1 h (Int32.ofNat i) ∧ o_X6_digest_j83 (Int32.ofNat n) z rx n2 (Int32.ofNat (7 * i)) h := by
  have R := B.2.1
  have h6 := R.1
  have e7 : (7 : Int32) * Int32.ofNat s = Int32.ofNat (7 * s) := by rw [show (7 : Int32) = Int32.ofNat 7 from rfl, pn_mul]
  intro n1
  induction n1 with
  | zero => intro i h1 h2; omega
  | succ n1 ih =>
    intro i h1 h2
    by_cases hi : i = s
    · intro n2 h h3
      subst hi
      cases n2 with
      | zero => omega
      | succ n2 =>
        have hle : Int32.ofNat i ≤ Int32.ofNat i := by rw [pn_le (by omega) (by omega)]; omega
        have hle7 : Int32.ofNat (7 * i) ≤ Int32.ofNat (7 * i) := by rw [pn_le (by omega) (by omega)]; omega
        rw [f_X5_digest_n_j86, f_X6_digest_j83, o_X5_digest_n_j86, o_X6_digest_j83, rz4 R, e7, if_pos hle, if_pos hle, if_pos hle7, if_pos hle7]
        exact dig_p B hn ht 9 0 (by omega) (by omega) 33 h (by omega)
    · have his : i < s := by omega
      have one : ∀ (n3 c n2 : Nat) (h : Int64), c ≤ 7 → 7 - c < n3 → 7 * s - (7 * i + c) < n2 → f_X5_digest_n_j103 (Int32.ofNat r) f (Int32.ofNat s) g (Int32.ofNat i) (f_X5_digest_n_j86 (Int32.ofNat r) f (Int32.ofNat s) g ap (Int32.ofNat n) tx n1) n3 h (Int32.ofNat c) = (f_X6_digest_j83 (Int32.ofNat n) z rx n2 (Int32.ofNat (7 * i + c)) h).1 ∧ o_X5_digest_n_j103 (Int32.ofNat r) f (Int32.ofNat s) g (Int32.ofNat i) (o_X5_digest_n_j86 (Int32.ofNat r) f (Int32.ofNat s) g ap (Int32.ofNat n) tx n1) n3 h (Int32.ofNat c) ∧ o_X6_digest_j83 (Int32.ofNat n) z rx n2 (Int32.ofNat (7 * i + c)) h := by
        intro n3
        induction n3 with
        | zero => intro c n2 h q1 q2; omega
        | succ n3 ih3 =>
          intro c n2 h q1 q2 q3
          rw [f_X5_digest_n_j103, o_X5_digest_n_j103]
          by_cases hc : c = 7
          · subst hc
            rw [if_pos (by decide), if_pos (by decide), pn_succ]
            exact ih (i + 1) (by omega) (by omega) n2 h (by omega)
          · cases n2 with
            | zero => omega
            | succ n2 =>
              have h7 : ¬ (7 : Int32) ≤ Int32.ofNat c := by rw [show (7 : Int32) = Int32.ofNat 7 from rfl, pn_le (by omega) (by omega)]; omega
              have hle : ¬ Int32.ofNat (7 * s) ≤ Int32.ofNat (7 * i + c) := by rw [pn_le (by omega) (by omega)]; omega
              obtain ⟨x1, x2⟩ := dm7 i (by omega) c (by omega)
              obtain ⟨p1, p2⟩ := rprop B his (c := c) (by omega)
              rw [f_X6_digest_j83, o_X6_digest_j83, rz4 R, e7, if_neg h7, if_neg h7, if_neg hle, if_neg hle, x2, x1, p1, f_X6_digest_c113, o_X6_digest_c113, pn_succ, pn_succ]
              obtain ⟨y1, y2, y3⟩ := ih3 (c + 1) n2 (f_X5_mix h (Int32.toInt64 (f_X6_requestNow z (Int32.ofNat i) (Int32.ofNat c)))) (by omega) (by omega) (by omega)
              exact ⟨y1, y2, p2, y3⟩
      intro n2 h h3
      have hle : ¬ Int32.ofNat s ≤ Int32.ofNat i := by rw [pn_le (by omega) (by omega)]; omega
      rw [f_X5_digest_n_j86, o_X5_digest_n_j86, if_neg hle, if_neg hle]
      exact one 8 0 n2 h (by omega) (by omega) (by omega)
/-- the mandates -/
theorem dig_m (B : BZ r s f g ap day grace longest spent spentIn spendings urgentSp dropped lapsedLate z) (hn : n ≤ 60) (ht : ∀ q : Nat, q < n → rx q = tx q) : ∀ (n1 n2 i : Nat) (h : Int64), i ≤ r → r - i < n1 → r - i < n2 → f_X5_digest_n_j57 (Int32.ofNat r) f (Int32.ofNat s) g ap day grace (Int32.ofNat n) tx n1 h (Int32.ofNat i) = (f_X6_digest_j60 (Int32.ofNat n) z rx n2 (Int32.ofNat i) h).1 ∧ o_X5_digest_n_j57 (Int32.ofNat r) f (Int32.ofNat s) g ap day grace (Int32.ofNat n) tx n1 h (Int32.ofNat i) ∧ o_X6_digest_j60 (Int32.ofNat n) z rx n2 (Int32.ofNat i) h := by
  have M := B.1
  have R := B.2.1
  have h12 := M.1
  have h6 := R.1
  have e7 : (7 : Int32) * Int32.ofNat s = Int32.ofNat (7 * s) := by rw [show (7 : Int32) = Int32.ofNat 7 from rfl, pn_mul]
  intro n1
  induction n1 with
  | zero => intro n2 i h h1 h2; omega
  | succ n1 ih =>
    intro n2 i h h1 h2 h3
    cases n2 with
    | zero => omega
    | succ n2 =>
      rw [f_X5_digest_n_j57, f_X6_digest_j60, o_X5_digest_n_j57, o_X6_digest_j60, f_X2_total, mz3 M]
      by_cases hi : i = r
      · subst hi
        have hle := lez h12 (Nat.le_refl i) (by omega)
        rw [if_pos hle, if_pos hle, if_pos hle, if_pos hle, rz4 R, e7, toI (by omega), toI (by omega)]
        exact dig_r B hn ht (s + 1) 0 (by omega) (by omega) (7 * s + 1) h (by omega)
      · have hir : i < r := by omega
        obtain ⟨m1, m2, m3⟩ := mixm B hir h
        rw [if_neg (ltz h12 hir), if_neg (ltz h12 hir), if_neg (ltz h12 hir), if_neg (ltz h12 hir), m1, f_X6_digest_c75, o_X6_digest_c75, pn_succ]
        obtain ⟨q1, q2, q3⟩ := ih n2 (i + 1) (f_X6_mixMandate h z (Int32.ofNat i)) (by omega) (by omega) (by omega)
        exact ⟨q1, ⟨m2, q2⟩, m3, q3⟩
theorem ocn_ {c : Nat} (hc : c < 12) : o_X5_count_n (Int32.ofNat r) f (Int32.ofNat s) day spent spentIn spendings urgentSp dropped lapsedLate kept (Int32.ofNat c) := by
  rw [o_X5_count_n, o_X5_checkRange_n]
  refine ⟨?_, ?_⟩
  · rw [if_neg (pn_nn (by omega)), if_pos (by rw [show (11 : Int32) = Int32.ofNat 11 from rfl, pn_le (by omega) (by omega)]; omega)]
    trivial
  · split <;> trivial
theorem dig_ (B : BZ r s f g ap day grace longest spent spentIn spendings urgentSp dropped lapsedLate z) (hn : n ≤ 60) (ht : ∀ q : Nat, q < n → rx q = tx q) : ∀ (n1 n2 c : Nat) (h : Int64), c ≤ 12 → 12 - c < n1 → 12 - c < n2 → f_X5_digest_n_j6 (Int32.ofNat r) f (Int32.ofNat s) g ap day grace longest spent spentIn spendings urgentSp dropped lapsedLate kept (Int32.ofNat n) tx n1 h (Int32.ofNat c) = (f_X6_digest_j14 kept (Int32.ofNat n) z rx n2 (Int32.ofNat c) h).1 ∧ o_X5_digest_n_j6 (Int32.ofNat r) f (Int32.ofNat s) g ap day grace longest spent spentIn spendings urgentSp dropped lapsedLate kept (Int32.ofNat n) tx n1 h (Int32.ofNat c) ∧ o_X6_digest_j14 kept (Int32.ofNat n) z rx n2 (Int32.ofNat c) h := by
  have M := B.1
  have h12 := M.1
  have z0 := B.2.2.2.1.1
  have z1 := B.2.2.2.1.2.1
  intro n1
  induction n1 with
  | zero => intro n2 c h h1 h2; omega
  | succ n1 ih =>
    intro n2 c h h1 h2 h3
    cases n2 with
    | zero => omega
    | succ n2 =>
      rw [f_X5_digest_n_j6, f_X6_digest_j14, o_X5_digest_n_j6, o_X6_digest_j14]
      by_cases hc : c = 12
      · subst hc
        rw [if_pos (by decide), if_pos (by decide), if_pos (by decide), if_pos (by decide), f_X6_digest_c47, o_X6_digest_c47, f_X6_digest_c58, o_X6_digest_c58, cn_0, cn_1, z0, z1, f_X2_total, mz3 M, toI (by omega)]
        exact dig_m B hn ht (r + 1) (r + 1) 0 _ (by omega) (by omega) (by omega)
      · have hle := le12 (s := c) (by omega)
        obtain ⟨p1, p2, -⟩ := cprop B kept (c := c) (by omega)
        rw [if_neg hle, if_neg hle, if_neg hle, if_neg hle, p1, f_X6_digest_c30, o_X6_digest_c30, pn_succ]
        obtain ⟨q1, q2, q3⟩ := ih n2 (c + 1) (f_X5_mix h (Int32.toInt64 (f_X6_counted kept z (Int32.ofNat c)))) (by omega) (by omega) (by omega)
        exact ⟨q1, ⟨ocn_ (by omega), q2⟩, p2, q3⟩
end DIG
