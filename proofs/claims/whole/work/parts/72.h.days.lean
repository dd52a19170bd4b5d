/-! APPROVALS; LIMITS; DAYS -/
section DYS
variable {r s k : Nat} {f g ap z : Nat → Int32} {day grace longest spent spentIn spendings urgentSp dropped lapsedLate : Int32}
theorem tb_up2 (T : tb_ r f z) {i : Nat} (v : Int32) (hi : i < r) (h12 : r ≤ 12) : tb_ r (upd f (8 * i + 2) v) (upd z (19 + 9 * i + 2) v) := by
  refine ⟨by rw [upd_n _ _ (by omega)]; exact T.1, fun k hk => ?_⟩
  obtain ⟨c0, c1, c2, c3, c4, c5, c6, c7, c8⟩ := T.2 k hk
  refine ⟨by rw [(upd_n z (k := 19 + 9 * i + 2) (j := 19 + 9 * k) v (by omega)), (upd_n f (k := 8 * i + 2) (j := 8 * k) v (by omega))]; exact c0, by rw [(upd_n z (k := 19 + 9 * i + 2) (j := 19 + 9 * k + 1) v (by omega)), (upd_n f (k := 8 * i + 2) (j := 8 * k + 1) v (by omega))]; exact c1, ?_, by rw [(upd_n z (k := 19 + 9 * i + 2) (j := 19 + 9 * k + 3) v (by omega)), (upd_n f (k := 8 * i + 2) (j := 8 * k + 3) v (by omega))]; exact c3, by rw [(upd_n z (k := 19 + 9 * i + 2) (j := 19 + 9 * k + 4) v (by omega)), (upd_n f (k := 8 * i + 2) (j := 8 * k + 4) v (by omega))]; exact c4, by rw [(upd_n z (k := 19 + 9 * i + 2) (j := 19 + 9 * k + 5) v (by omega)), (upd_n f (k := 8 * i + 2) (j := 8 * k + 5) v (by omega))]; exact c5, by rw [(upd_n z (k := 19 + 9 * i + 2) (j := 19 + 9 * k + 6) v (by omega)), (upd_n f (k := 8 * i + 2) (j := 8 * k + 6) v (by omega))]; exact c6, by rw [(upd_n z (k := 19 + 9 * i + 2) (j := 19 + 9 * k + 7) v (by omega)), (upd_n f (k := 8 * i + 2) (j := 8 * k + 7) v (by omega))]; exact c7, by rw [(upd_n z (k := 19 + 9 * i + 2) (j := 19 + 9 * k + 8) v (by omega)), (upd_n f (k := 8 * i + 2) (j := 8 * k + 5) v (by omega))]; exact c8⟩
  by_cases h : k = i
  · subst h; rw [upd_s, upd_s]
  · rw [upd_n _ _ (by omega), upd_n _ _ (by omega)]; exact c2
theorem tb_up3 (T : tb_ r f z) {i : Nat} (v : Int32) (hi : i < r) (h12 : r ≤ 12) : tb_ r (upd f (8 * i + 3) v) (upd z (19 + 9 * i + 3) v) := by
  refine ⟨by rw [upd_n _ _ (by omega)]; exact T.1, fun k hk => ?_⟩
  obtain ⟨c0, c1, c2, c3, c4, c5, c6, c7, c8⟩ := T.2 k hk
  refine ⟨by rw [(upd_n z (k := 19 + 9 * i + 3) (j := 19 + 9 * k) v (by omega)), (upd_n f (k := 8 * i + 3) (j := 8 * k) v (by omega))]; exact c0, by rw [(upd_n z (k := 19 + 9 * i + 3) (j := 19 + 9 * k + 1) v (by omega)), (upd_n f (k := 8 * i + 3) (j := 8 * k + 1) v (by omega))]; exact c1, by rw [(upd_n z (k := 19 + 9 * i + 3) (j := 19 + 9 * k + 2) v (by omega)), (upd_n f (k := 8 * i + 3) (j := 8 * k + 2) v (by omega))]; exact c2, ?_, by rw [(upd_n z (k := 19 + 9 * i + 3) (j := 19 + 9 * k + 4) v (by omega)), (upd_n f (k := 8 * i + 3) (j := 8 * k + 4) v (by omega))]; exact c4, by rw [(upd_n z (k := 19 + 9 * i + 3) (j := 19 + 9 * k + 5) v (by omega)), (upd_n f (k := 8 * i + 3) (j := 8 * k + 5) v (by omega))]; exact c5, by rw [(upd_n z (k := 19 + 9 * i + 3) (j := 19 + 9 * k + 6) v (by omega)), (upd_n f (k := 8 * i + 3) (j := 8 * k + 6) v (by omega))]; exact c6, by rw [(upd_n z (k := 19 + 9 * i + 3) (j := 19 + 9 * k + 7) v (by omega)), (upd_n f (k := 8 * i + 3) (j := 8 * k + 7) v (by omega))]; exact c7, by rw [(upd_n z (k := 19 + 9 * i + 3) (j := 19 + 9 * k + 8) v (by omega)), (upd_n f (k := 8 * i + 3) (j := 8 * k + 5) v (by omega))]; exact c8⟩
  by_cases h : k = i
  · subst h; rw [upd_s, upd_s]
  · rw [upd_n _ _ (by omega), upd_n _ _ (by omega)]; exact c3
theorem tb_up4 (T : tb_ r f z) {i : Nat} (v : Int32) (hi : i < r) (h12 : r ≤ 12) : tb_ r (upd f (8 * i + 4) v) (upd z (19 + 9 * i + 4) v) := by
  refine ⟨by rw [upd_n _ _ (by omega)]; exact T.1, fun k hk => ?_⟩
  obtain ⟨c0, c1, c2, c3, c4, c5, c6, c7, c8⟩ := T.2 k hk
  refine ⟨by rw [(upd_n z (k := 19 + 9 * i + 4) (j := 19 + 9 * k) v (by omega)), (upd_n f (k := 8 * i + 4) (j := 8 * k) v (by omega))]; exact c0, by rw [(upd_n z (k := 19 + 9 * i + 4) (j := 19 + 9 * k + 1) v (by omega)), (upd_n f (k := 8 * i + 4) (j := 8 * k + 1) v (by omega))]; exact c1, by rw [(upd_n z (k := 19 + 9 * i + 4) (j := 19 + 9 * k + 2) v (by omega)), (upd_n f (k := 8 * i + 4) (j := 8 * k + 2) v (by omega))]; exact c2, by rw [(upd_n z (k := 19 + 9 * i + 4) (j := 19 + 9 * k + 3) v (by omega)), (upd_n f (k := 8 * i + 4) (j := 8 * k + 3) v (by omega))]; exact c3, ?_, by rw [(upd_n z (k := 19 + 9 * i + 4) (j := 19 + 9 * k + 5) v (by omega)), (upd_n f (k := 8 * i + 4) (j := 8 * k + 5) v (by omega))]; exact c5, by rw [(upd_n z (k := 19 + 9 * i + 4) (j := 19 + 9 * k + 6) v (by omega)), (upd_n f (k := 8 * i + 4) (j := 8 * k + 6) v (by omega))]; exact c6, by rw [(upd_n z (k := 19 + 9 * i + 4) (j := 19 + 9 * k + 7) v (by omega)), (upd_n f (k := 8 * i + 4) (j := 8 * k + 7) v (by omega))]; exact c7, by rw [(upd_n z (k := 19 + 9 * i + 4) (j := 19 + 9 * k + 8) v (by omega)), (upd_n f (k := 8 * i + 4) (j := 8 * k + 5) v (by omega))]; exact c8⟩
  by_cases h : k = i
  · subst h; rw [upd_s, upd_s]
  · rw [upd_n _ _ (by omega), upd_n _ _ (by omega)]; exact c4
theorem tb_up6 (T : tb_ r f z) {i : Nat} (v : Int32) (hi : i < r) (h12 : r ≤ 12) : tb_ r (upd f (8 * i + 6) v) (upd z (19 + 9 * i + 6) v) := by
  refine ⟨by rw [upd_n _ _ (by omega)]; exact T.1, fun k hk => ?_⟩
  obtain ⟨c0, c1, c2, c3, c4, c5, c6, c7, c8⟩ := T.2 k hk
  refine ⟨by rw [(upd_n z (k := 19 + 9 * i + 6) (j := 19 + 9 * k) v (by omega)), (upd_n f (k := 8 * i + 6) (j := 8 * k) v (by omega))]; exact c0, by rw [(upd_n z (k := 19 + 9 * i + 6) (j := 19 + 9 * k + 1) v (by omega)), (upd_n f (k := 8 * i + 6) (j := 8 * k + 1) v (by omega))]; exact c1, by rw [(upd_n z (k := 19 + 9 * i + 6) (j := 19 + 9 * k + 2) v (by omega)), (upd_n f (k := 8 * i + 6) (j := 8 * k + 2) v (by omega))]; exact c2, by rw [(upd_n z (k := 19 + 9 * i + 6) (j := 19 + 9 * k + 3) v (by omega)), (upd_n f (k := 8 * i + 6) (j := 8 * k + 3) v (by omega))]; exact c3, by rw [(upd_n z (k := 19 + 9 * i + 6) (j := 19 + 9 * k + 4) v (by omega)), (upd_n f (k := 8 * i + 6) (j := 8 * k + 4) v (by omega))]; exact c4, by rw [(upd_n z (k := 19 + 9 * i + 6) (j := 19 + 9 * k + 5) v (by omega)), (upd_n f (k := 8 * i + 6) (j := 8 * k + 5) v (by omega))]; exact c5, ?_, by rw [(upd_n z (k := 19 + 9 * i + 6) (j := 19 + 9 * k + 7) v (by omega)), (upd_n f (k := 8 * i + 6) (j := 8 * k + 7) v (by omega))]; exact c7, by rw [(upd_n z (k := 19 + 9 * i + 6) (j := 19 + 9 * k + 8) v (by omega)), (upd_n f (k := 8 * i + 6) (j := 8 * k + 5) v (by omega))]; exact c8⟩
  by_cases h : k = i
  · subst h; rw [upd_s, upd_s]
  · rw [upd_n _ _ (by omega), upd_n _ _ (by omega)]; exact c6
/-- an approval is written -/
theorem cl_11 {p : Nat} (hp : p < 8) : Int32.toNatClampNeg (11 + Int32.ofNat p) = 11 + p ∧ vp_in (11 + Int32.ofNat p) 163 := by
  have e : (11 : Int32) + Int32.ofNat p = Int32.ofNat (11 + p) := by rw [show (11 : Int32) = Int32.ofNat 11 from rfl, pn_add]
  rw [e, pn_clamp (by omega)]
  exact ⟨rfl, pz_vp (by omega) (by omega)⟩
def apz_ (q p : Nat) (z : Nat → Int32) : Nat → Int32 := upd (upd z (11 + p) (z (11 + p) + 1)) (127 + 6 * q + 5) (z (127 + 6 * q + 5) ||| (1 <<< (Int32.ofNat p &&& 31)))
def apg_ (q p : Nat) (g : Nat → Int32) : Nat → Int32 := upd g (6 * q + 5) (g (6 * q + 5) ||| (1 <<< (Int32.ofNat p &&& 31)))
theorem or_256 {w p : Nat} (hw : w < 256) (hp : p < 8) : ∃ w2 : Nat, w2 < 256 ∧ Int32.ofNat w ||| (1 <<< (Int32.ofNat p &&& 31)) = Int32.ofNat w2 := by
  refine ⟨w ||| 2 ^ p, Nat.or_lt_two_pow (n := 8) hw (Nat.pow_lt_pow_right (by decide) hp), ?_⟩
  rw [bt_pw p (by omega), of_or]
theorem BZ.appr (B : BZ r s f g ap day grace longest spent spentIn spendings urgentSp dropped lapsedLate z) {q p : Nat} (hq : q < s) (hp : p < 8) : BZ r s f (apg_ q p g) (upd ap p (ap p + 1)) day grace longest spent spentIn spendings urgentSp dropped lapsedLate (apz_ q p z) := by
  obtain ⟨M, R, D, ⟨z0, z1, z2, z5, z6, z7, z8, z9, z10⟩, A⟩ := B
  have h6 := R.1
  have out : ∀ i : Nat, i ≠ 11 + p → i ≠ 127 + 6 * q + 5 → apz_ q p z i = z i := fun i h1 h2 => by
    unfold apz_
    rw [upd_n _ _ h2, upd_n _ _ h1]
  refine ⟨M.toz (out 3 (by omega) (by omega)) (fun i h1 h2 => out i (by omega) (by omega)), ⟨h6, ⟨(out 4 (by omega) (by omega)).trans R.2.1.1, fun k hk c hc => ?_⟩, fun k hk => ?_⟩, D, ?_, fun i hi => ?_⟩
  · by_cases h : k = q ∧ c = 5
    · obtain ⟨rfl, rfl⟩ := h
      unfold apz_ apg_
      rw [upd_s, upd_s, R.2.1.2 k hk 5 hc]
    · rw [out _ (by omega) (by omega)]
      unfold apg_
      rw [upd_n _ _ (by omega)]
      exact R.2.1.2 k hk c hc
  · obtain ⟨v0, v1, v3, v5⟩ := R.2.2 k hk
    unfold apg_
    rw [upd_n _ _ (by omega), upd_n _ _ (by omega), upd_n _ _ (by omega)]
    refine ⟨v0, v1, v3, ?_⟩
    by_cases h : k = q
    · subst h
      obtain ⟨w, hw, hwe⟩ := v5
      rw [upd_s, hwe]
      exact or_256 hw hp
    · rw [upd_n _ _ (by omega)]
      exact v5
  · rw [out 0 (by omega) (by omega), out 1 (by omega) (by omega), out 2 (by omega) (by omega), out 5 (by omega) (by omega), out 6 (by omega) (by omega), out 7 (by omega) (by omega), out 8 (by omega) (by omega), out 9 (by omega) (by omega), out 10 (by omega) (by omega)]
    exact ⟨z0, z1, z2, z5, z6, z7, z8, z9, z10⟩
  · by_cases h : i = p
    · subst h
      unfold apz_
      rw [upd_n _ _ (by omega), upd_s, upd_s, A i hi]
    · rw [out _ (by omega) (by omega), upd_n _ _ h]
      exact A i hi
theorem approve_ (B : BZ r s f g ap day grace longest spent spentIn spendings urgentSp dropped lapsedLate z) {q p : Nat} (hq : q < s) (hp : p < 8) (states : Int32) (hi : Nat → Int32) (t0 : Int32) : ∃ (s' : Nat) (f' g' ap' z' : Nat → Int32) (v dr sp si sn : Int32), f_X0_addApproval (Int32.ofNat r) f (Int32.ofNat s) g ap spent spentIn spendings dropped (Int32.ofNat q) (Int32.ofNat p) = (v, dr, sp, si, sn, f', Int32.ofNat s', g', ap') ∧ f_X6_approve_c50 z (Int32.ofNat q) (Int32.ofNat p) t0 states hi = (v, states, t0, z', hi) ∧ o_X6_approve_c50 z (Int32.ofNat q) (Int32.ofNat p) t0 states hi ∧ BZ r s' f' g' ap' day grace longest sp si sn urgentSp dr lapsedLate z' := by
  have B1 := B.appr hq hp
  obtain ⟨M, R, D, -, -⟩ := B
  have h6 := R.1
  obtain ⟨e11, v11⟩ := cl_11 hp
  have e5 : Int32.toNatClampNeg ((127 + (6 * Int32.ofNat q)) + 5) = 127 + 6 * q + 5 := cl_127 (c := 5) (by omega) (by omega)
  have v5 : vp_in ((127 + (6 * Int32.ofNat q)) + 5) 163 := vp_127 (c := 5) (by omega) (by omega)
  have hz : upd (upd z (Int32.toNatClampNeg (11 + Int32.ofNat p)) ((z (Int32.toNatClampNeg (11 + Int32.ofNat p))) + 1)) (Int32.toNatClampNeg ((127 + (6 * Int32.ofNat q)) + 5)) (((upd z (Int32.toNatClampNeg (11 + Int32.ofNat p)) ((z (Int32.toNatClampNeg (11 + Int32.ofNat p))) + 1)) (Int32.toNatClampNeg ((127 + (6 * Int32.ofNat q)) + 5))) ||| (1 <<< (Int32.ofNat p &&& 31))) = apz_ q p z := by
    rw [e11, e5, upd_n z (k := 11 + p) (j := 127 + 6 * q + 5) _ (by omega)]
    rfl
  have hg : f_X3_put 6 (Int32.ofNat s) 36 g (Int32.ofNat q) 5 (g (6 * q + 5) ||| (1 <<< (Int32.ofNat p &&& 31))) = apg_ q p g := pp_6 (c := 5) h6 hq (by omega)
  have e8 : ¬ (8 : Int32) ≤ Int32.ofNat p := le8c hp
  have R1 := B1.2.1
  obtain ⟨-, -, -, ⟨w, hw, hwe⟩⟩ := R1.2.2 q hq
  have g5 : apg_ q p g (6 * q + 5) = g (6 * q + 5) ||| (1 <<< (Int32.ofNat p &&& 31)) := by unfold apg_; rw [upd_s]
  have hbc : f_J6_bitCount_0f7a4 (g (6 * q + 5) ||| (1 <<< (Int32.ofNat p &&& 31))) = f_X6_ones (apg_ q p g (6 * q + 5)) := by
    rw [← g5, hwe, bc_ones w (by omega)]
  obtain ⟨s', f', g', z', v, dr, sp, si, sn, a1, a2, a3, a4⟩ := settle_ B1 hq
  rw [f_X0_addApproval, if_neg (pn_nn (by omega)), if_neg e8, pn_clamp (by omega), f_X0_addApproval_j23, p6_5 h6 hq, hg, f_X0_addApproval_c47, p6_4 h6 hq, p6_5 h6 hq, hbc, f_X6_approve_c50, o_X6_approve_c50, hz, ro4 R1 hq, ro5 R1 hq]
  by_cases hle : apg_ q p g (6 * q + 4) ≤ f_X6_ones (apg_ q p g (6 * q + 5))
  · rw [if_pos hle, if_pos hle, if_pos hle, a1, f_X0_addApproval_c70, a2, f_X6_approve_c110]
    exact ⟨s', f', g', _, z', v, dr, sp, si, sn, rfl, rfl, ⟨v11, v11, v5, v5, roo5 h6 hq, roo4 h6 hq, a3, trivial⟩, a4⟩
  · rw [if_neg hle, if_neg hle, if_neg hle]
    exact ⟨s, f, _, _, _, 0, dropped, spent, spentIn, spendings, rfl, rfl, ⟨v11, v11, v5, v5, roo5 h6 hq, roo4 h6 hq, trivial⟩, B1⟩
/-! a day comes -/
theorem clr_ (h12 : r ≤ 12) : ∀ (n1 n2 i : Nat) (f z : Nat → Int32), i ≤ r → r - i < n1 → r - i < n2 → tb_ r f z → ∃ f' z' : Nat → Int32, f_X2_clearSums_j2 (Int32.ofNat r) n1 (Int32.ofNat i) f = f' ∧ f_X6_dayPasses_j32 n2 (Int32.ofNat i) z = f_X6_dayPasses_j56 z' ∧ (o_X6_dayPasses_j56 z' → o_X6_dayPasses_j32 n2 (Int32.ofNat i) z) ∧ tb_ r f' z' ∧ (∀ k : Nat, k < r → ∀ c : Nat, c < 8 → c ≠ 6 → f' (8 * k + c) = f (8 * k + c)) ∧ (∀ k : Nat, k < r → f' (8 * k + 6) = f (8 * k + 6) ∨ f' (8 * k + 6) = 0) ∧ (∀ q : Nat, q < 19 ∨ 127 ≤ q → z' q = z q) := by
  intro n1
  induction n1 with
  | zero => intro n2 i f z h1 h2; omega
  | succ n1 ih =>
    intro n2 i f z h1 h2 h3 T
    cases n2 with
    | zero => omega
    | succ n2 =>
      rw [f_X2_clearSums_j2, f_X6_dayPasses_j32, o_X6_dayPasses_j32, f_X2_total, cn_3, T.1]
      by_cases hi : i = r
      · subst hi
        rw [if_pos (lez h12 (Nat.le_refl _) (by omega)), if_pos (lez h12 (Nat.le_refl _) (by omega)), if_pos (lez h12 (Nat.le_refl _) (by omega))]
        exact ⟨f, z, rfl, rfl, id, T, fun k hk c hc h6 => rfl, fun k hk => Or.inl rfl, fun q _ => rfl⟩
      · have hir : i < r := by omega
        have e6 : f_X3_put 8 (Int32.ofNat r) 96 f (Int32.ofNat i) 6 0 = upd f (8 * i + 6) 0 := pp_8 (c := 6) h12 hir (by omega)
        rw [if_neg (ltz h12 hir), if_neg (ltz h12 hir), if_neg (ltz h12 hir), f_X2_clearSums_c21, f_X6_dayPasses_c50, o_X6_dayPasses_c50, pn_succ, e6, mp6 h12 hir]
        obtain ⟨f', z', a1, a2, a3, a4, a5, a6, a7⟩ := ih n2 (i + 1) (upd f (8 * i + 6) 0) (upd z (19 + 9 * i + 6) 0) (by omega) (by omega) (by omega) (tb_up6 T 0 hir h12)
        refine ⟨f', z', a1, a2, fun q => ⟨op6 h12 hir, a3 q⟩, a4, fun k hk c hc h6 => ?_, fun k hk => ?_, fun q hq => ?_⟩
        · rw [a5 k hk c hc h6, upd_n _ _ (by omega)]
        · rcases a6 k hk with h | h
          · by_cases hki : k = i
            · right; rw [h, hki, upd_s]
            · left; rw [h, upd_n _ _ (by omega)]
          · exact Or.inr h
        · rw [a7 q hq, upd_n _ _ (by omega)]
/-- those too late, one by one -/
theorem late_ : ∀ (n2 n1 t s : Nat) (f g z : Nat → Int32) (x1 dropped day0 : Int32), s < n2 → 6 - t < n1 → t + s ≤ 6 → day = day0 + 1 → BZ r s f g ap day grace longest spent spentIn spendings urgentSp dropped lapsedLate z → ∃ (s' : Nat) (f' g' z' : Nat → Int32) (v dr : Int32), f_X0_nextDay_j36 (Int32.ofNat r) day0 grace lapsedLate n1 x1 (Int32.ofNat t) dropped spentIn f (Int32.ofNat s) g = (v, dr, lapsedLate + v, day, spentIn, f', Int32.ofNat s', g') ∧ f_X6_dayPasses_j63 n2 x1 (f_X6_tooLate z) z = (v, upd z' 10 (lapsedLate + v)) ∧ o_X6_dayPasses_j63 n2 x1 (f_X6_tooLate z) z ∧ BZ r s' f' g' ap day grace longest spent spentIn spendings urgentSp dr lapsedLate z' := by
  intro n2
  induction n2 with
  | zero => intro n1 t s f g z x1 dropped day0 h1; omega
  | succ n2 ih =>
    intro n1 t s f g z x1 dropped day0 h1 h2 h3 hday B
    cases n1 with
    | zero => omega
    | succ n1 =>
      have B0 := B
      obtain ⟨M, R, ⟨d, hd, hde⟩, ⟨z0, z1, z2, z5, z6, z7, z8, z9, z10⟩, A⟩ := B
      have h12 := M.1
      have h6 := R.1
      obtain ⟨l1, l2, l3⟩ := rfirst R z2 z0
      rw [f_X0_nextDay_j36, f_X6_dayPasses_j63, o_X6_dayPasses_j63, ← hday, l1, f_X0_nextDay_j89, ← hday]
      rcases l3 with hq | ⟨q, hq, hqe⟩
      · rw [if_pos hq, if_pos hq, if_pos hq, ite_self, cn_10, z10]
        exact ⟨s, f, g, z, x1, dropped, rfl, rfl, trivial, B0⟩
      · obtain ⟨⟨m, hm, hme⟩, -, -, -⟩ := R.2.2 q hq
        obtain ⟨x1z, x2z⟩ := rem_z R hq
        have M1 : MB r f (rmz q s z) := M.toz (rmz_out (by omega) (by omega)) (fun i h1 h2 => rmz_out (by omega) (by omega))
        have R1 := R.rem hq
        have ho : ∀ i : Nat, i ≠ 4 → i < 127 → rmz q s z i = z i := fun i h1 h2 => rmz_out h1 h2
        obtain ⟨s1, s2⟩ := ms_z M1 hm
        have h6t : ¬ (6 : Int32) ≤ Int32.ofNat t := le6c (by omega)
        rw [hqe, if_neg h6t, if_neg (pn_nm (by omega)), if_neg (pn_nm (by omega)), if_neg (pn_nm (by omega)), rem_c h6 hq, f_X0_nextDay_c74, ← hday, l1, hqe, p6_0 h6 hq, hme, f_X0_nextDay_c81, pn_succ, x1z, f_X6_dayPasses_c80, o_X6_dayPasses_c80, ro0 R hq, hme, s1, f_X6_dayPasses_j97, o_X6_dayPasses_j97]
        dsimp only
        by_cases hst : f (8 * m + 5) = -1
        · rw [decide_eq_true hst, if_neg (vb_t rfl : ¬ vm_bi true = 0), if_neg (vb_t rfl : ¬ vm_bi true = 0), hde]
          obtain ⟨s', f', g', z', dr', v, a1, a2, a3, a4, a5, a6, a7, a8⟩ := lap_ M1 R1 hm hst hd (by rw [ho 2 (by omega) (by omega), z2, hde]) (dr := dropped) (by rw [ho 9 (by omega) (by omega), z9])
          rw [a1, a2, f_X6_dayPasses_c93, o_X6_dayPasses_c93, f_X6_dayPasses_j97, o_X6_dayPasses_j97]
          have hk : ∀ i : Nat, i ≠ 4 → i ≠ 9 → i < 19 → z' i = z i := fun i h1 h2 h3 => (a8 i h1 h2 h3).trans (ho i h1 (by omega))
          have B2 : BZ r s' f' g' ap day grace longest spent spentIn spendings urgentSp dr' lapsedLate z' := by
            refine ⟨a4, a5, ⟨d, hd, hde⟩, ?_, fun p hp => ?_⟩
            · rw [hk 0 (by omega) (by omega) (by omega), hk 1 (by omega) (by omega) (by omega), hk 2 (by omega) (by omega) (by omega), hk 5 (by omega) (by omega) (by omega), hk 6 (by omega) (by omega) (by omega), hk 7 (by omega) (by omega) (by omega), hk 8 (by omega) (by omega) (by omega), hk 10 (by omega) (by omega) (by omega)]
              exact ⟨z0, z1, z2, z5, z6, z7, z8, a6, z10⟩
            · rw [hk _ (by omega) (by omega) (by omega)]
              exact A p hp
          obtain ⟨s'', f'', g'', z'', v2, dr2, b1, b2, b3, b4⟩ := ih n1 (t + 1) s' f' g' z' (x1 + v) dr' day0 (by omega) (by omega) (by omega) hday B2
          rw [hde] at b1 b4
          exact ⟨s'', f'', g'', z'', v2, dr2, b1, b2, ⟨roo0 h6 hq, x2z, s2, a3, (rfirst a5 B2.2.2.2.1.2.2.1 B2.2.2.2.1.1).2.1, b3⟩, b4⟩
        · rw [decide_eq_false hst, if_pos (vb_f rfl : vm_bi false = 0), if_pos (vb_f rfl : vm_bi false = 0), lap_no M1 R1 hm hst, Int32.add_zero]
          have B2 : BZ r (s - 1) f (rmr q s g) ap day grace longest spent spentIn spendings urgentSp dropped lapsedLate (rmz q s z) := by
            refine ⟨M1, R1, ⟨d, hd, hde⟩, ?_, fun p hp => ?_⟩
            · rw [ho 0 (by omega) (by omega), ho 1 (by omega) (by omega), ho 2 (by omega) (by omega), ho 5 (by omega) (by omega), ho 6 (by omega) (by omega), ho 7 (by omega) (by omega), ho 8 (by omega) (by omega), ho 9 (by omega) (by omega), ho 10 (by omega) (by omega)]
              exact ⟨z0, z1, z2, z5, z6, z7, z8, z9, z10⟩
            · rw [ho _ (by omega) (by omega)]
              exact A p hp
          obtain ⟨s'', f'', g'', z'', v2, dr2, b1, b2, b3, b4⟩ := ih n1 (t + 1) (s - 1) f (rmr q s g) (rmz q s z) x1 dropped day0 (by omega) (by omega) (by omega) hday B2
          exact ⟨s'', f'', g'', z'', v2, dr2, b1, b2, ⟨roo0 h6 hq, x2z, s2, (rfirst R1 B2.2.2.2.1.2.2.1 B2.2.2.2.1.1).2.1, b3⟩, b4⟩
theorem day_ (B : BZ r s f g ap day grace longest spent spentIn spendings urgentSp dropped lapsedLate z) (hd1 : ∃ d : Nat, d + 1 ≤ 5000 ∧ day = Int32.ofNat d) : ∃ (s' : Nat) (f' g' z' : Nat → Int32) (v dr la si : Int32), f_X0_nextDay (Int32.ofNat r) f (Int32.ofNat s) g day grace spentIn dropped lapsedLate = (v, dr, la, day + 1, si, f', Int32.ofNat s', g') ∧ f_X6_dayPasses z = (v, z') ∧ o_X6_dayPasses z ∧ BZ r s' f' g' ap (day + 1) grace longest spent si spendings urgentSp dr la z' := by
  obtain ⟨M, R, -, ⟨z0, z1, z2, z5, z6, z7, z8, z9, z10⟩, A⟩ := B
  obtain ⟨d, hd, hde⟩ := hd1
  have h12 := M.1
  have h6 := R.1
  have D1 : ∃ d : Nat, d ≤ 5000 ∧ day + 1 = Int32.ofNat d := ⟨d + 1, hd, by rw [hde, pn_succ]⟩
  -- the end, at either way
  have fin : ∀ (si : Int32) (f1 zz : Nat → Int32), BZ r s f1 g ap (day + 1) grace longest spent si spendings urgentSp dropped lapsedLate zz → ∃ (s' : Nat) (f' g' z' : Nat → Int32) (v dr la si' : Int32), f_X0_nextDay_j32 (Int32.ofNat r) (Int32.ofNat s) g day grace dropped lapsedLate si f1 = (v, dr, la, day + 1, si', f', Int32.ofNat s', g') ∧ f_X6_dayPasses_j56 zz = (v, z') ∧ o_X6_dayPasses_j56 zz ∧ BZ r s' f' g' ap (day + 1) grace longest spent si' spendings urgentSp dr la z' := fun si f1 zz B1 => by
    obtain ⟨s', f', g', z', v, dr, a1, a2, a3, a4⟩ := late_ (day := day + 1) 1000 7 0 s f1 g zz 0 dropped day (by omega) (by omega) (by omega) rfl B1
    obtain ⟨M2, R2, D2, ⟨y0, y1, y2, y5, y6, y7, y8, y9, y10⟩, A2⟩ := a4
    refine ⟨s', f', g', upd z' 10 (lapsedLate + v), v, dr, lapsedLate + v, si, a1, a2, ⟨(rfirst B1.2.1 B1.2.2.2.1.2.2.1 B1.2.2.2.1.1).2.1, a3⟩, M2.toz (upd_n _ _ (by omega)) (fun i h1 h2 => upd_n _ _ (by omega)), R2.toz (upd_n _ _ (by omega)) (fun i h1 h2 => upd_n _ _ (by omega)), D2, ?_, fun p hp => ?_⟩
    · rw [upd_n _ _ (by omega), upd_n _ _ (by omega), upd_n _ _ (by omega), upd_n _ _ (by omega), upd_n _ _ (by omega), upd_n _ _ (by omega), upd_n _ _ (by omega), upd_n _ _ (by omega), upd_s]
      exact ⟨y0, y1, y2, y5, y6, y7, y8, y9, rfl⟩
    · rw [upd_n _ _ (by omega)]
      exact A2 p hp
  rw [f_X0_nextDay, f_X6_dayPasses, o_X6_dayPasses, cn_2, cn_6, upd_s, z2]
  by_cases hc : ((day + 1) - (day + 1) / 10 * 10) = 0
  · rw [if_pos hc, if_pos hc, if_pos hc, f_X0_nextDay_c27, f_X2_clearSums, f_X2_total, toI (by omega)]
    have T1 : tb_ r f (upd (upd z 2 (day + 1)) 6 0) := (M.toz (z' := upd (upd z 2 (day + 1)) 6 0) (by rw [upd_n _ _ (by omega), upd_n _ _ (by omega)]) (fun i h1 h2 => by rw [upd_n _ _ (by omega), upd_n _ _ (by omega)])).2.1
    obtain ⟨f', z', a1, a2, a3, a4, a5, a6, a7⟩ := clr_ h12 (r + 1) 1000 0 f (upd (upd z 2 (day + 1)) 6 0) (by omega) (by omega) (by omega) T1
    have a1' : f_X2_clearSums_j2 (Int32.ofNat r) (r + 1) 0 f = f' := a1
    have a2' : f_X6_dayPasses_j32 1000 0 (upd (upd z 2 (day + 1)) 6 0) = f_X6_dayPasses_j56 z' := a2
    have hlow : ∀ i : Nat, i ≠ 2 → i ≠ 6 → (i < 19 ∨ 127 ≤ i) → z' i = z i := fun i h1 h2 h3 => by rw [a7 i h3, upd_n _ _ h2, upd_n _ _ h1]
    rw [a1', a2']
    have B1 : BZ r s f' g ap (day + 1) grace longest spent 0 spendings urgentSp dropped lapsedLate z' := by
      refine ⟨⟨h12, a4, fun k hk => ?_⟩, R.toz (hlow 4 (by omega) (by omega) (Or.inl (by omega))) (fun i h1 h2 => hlow i (by omega) (by omega) (Or.inr h1)), D1, ?_, fun p hp => ?_⟩
      · have e0 := a5 k hk 0 (by omega) (by omega)
        have e1 := a5 k hk 1 (by omega) (by omega)
        have e3 := a5 k hk 3 (by omega) (by omega)
        have e4 := a5 k hk 4 (by omega) (by omega)
        have e5 := a5 k hk 5 (by omega) (by omega)
        rw [Nat.add_zero] at e0
        obtain ⟨v0, v1, v3, v4, v6, v5⟩ := M.2.2 k hk
        rw [e0, e1, e3, e4, e5]
        refine ⟨v0, v1, v3, v4, ?_, fun h5 j hj hu => ?_⟩
        · rcases a6 k hk with h | h
          · rw [h]; exact v6
          · exact ⟨0, by omega, h⟩
        · rw [a5 j (by omega) 5 (by omega) (by omega)]
          exact v5 h5 j hj hu
      · rw [hlow 0 (by omega) (by omega) (Or.inl (by omega)), hlow 1 (by omega) (by omega) (Or.inl (by omega)), hlow 5 (by omega) (by omega) (Or.inl (by omega)), hlow 7 (by omega) (by omega) (Or.inl (by omega)), hlow 8 (by omega) (by omega) (Or.inl (by omega)), hlow 9 (by omega) (by omega) (Or.inl (by omega)), hlow 10 (by omega) (by omega) (Or.inl (by omega)), a7 2 (Or.inl (by omega)), a7 6 (Or.inl (by omega)), upd_s, upd_n _ _ (by omega), upd_s]
        exact ⟨z0, z1, rfl, z5, rfl, z7, z8, z9, z10⟩
      · rw [hlow _ (by omega) (by omega) (Or.inl (by omega))]
        exact A p hp
    obtain ⟨s', f'', g', z'', v, dr, la, si, b1, b2, b3, b4⟩ := fin 0 f' z' B1
    exact ⟨s', f'', g', z'', v, dr, la, si, b1, b2, a3 b3, b4⟩
  · rw [if_neg hc, if_neg hc, if_neg hc]
    refine fin spentIn f (upd z 2 (day + 1)) ⟨M.toz (upd_n _ _ (by omega)) (fun i h1 h2 => upd_n _ _ (by omega)), R.toz (upd_n _ _ (by omega)) (fun i h1 h2 => upd_n _ _ (by omega)), D1, ?_, fun p hp => ?_⟩
    · rw [upd_n _ _ (by omega), upd_n _ _ (by omega), upd_s, upd_n _ _ (by omega), upd_n _ _ (by omega), upd_n _ _ (by omega), upd_n _ _ (by omega), upd_n _ _ (by omega), upd_n _ _ (by omega)]
      exact ⟨z0, z1, rfl, z5, z6, z7, z8, z9, z10⟩
    · rw [upd_n _ _ (by omega)]
      exact A p hp
end DYS
