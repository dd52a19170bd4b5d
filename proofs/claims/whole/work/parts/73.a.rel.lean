/-! WHAT HOLDS BETWEEN THE TWO -/
def TXR (ln : Int32) (tx : Nat → Int32) (rl : Int32) (rx : Nat → Int32) : Prop := ∃ n : Nat, n ≤ 60 ∧ ln = Int32.ofNat n ∧ rl = Int32.ofNat n ∧ (∀ q : Nat, q < n → rx q = tx q) ∧ ∀ q : Nat, q < n → ∃ c : Nat, c < 127 ∧ tx q = Int32.ofNat c
def RRf : vm_RT := fun rm fm rq fr ap day grace longest spent spentIn spendings urgentSp dropped lapsedLate oldest kept RB ln tx states rl _ _ _ _ _ z hi rx _ => CU rm fm rq fr ap day grace longest spent spentIn spendings urgentSp dropped lapsedLate z ∧ HI oldest kept RB states hi ∧ TXR ln tx rl rx
theorem RR_mk {rm : Int32} {fm : Nat → Int32} {rq : Int32} {fr ap : Nat → Int32} {day grace longest spent spentIn spendings urgentSp dropped lapsedLate oldest kept : Int32} {RB : Nat → vm_BK} {ln : Int32} {tx : Nat → Int32} {states rl thr rd num due : Int32} {hash : Int64} {z hi rx pa : Nat → Int32} (C : CU rm fm rq fr ap day grace longest spent spentIn spendings urgentSp dropped lapsedLate z) (H : HI oldest kept RB states hi) (T : TXR ln tx rl rx) : RRf rm fm rq fr ap day grace longest spent spentIn spendings urgentSp dropped lapsedLate oldest kept RB ln tx states rl thr rd num due hash z hi rx pa := ⟨C, H, T⟩
theorem RR_el {rm : Int32} {fm : Nat → Int32} {rq : Int32} {fr ap : Nat → Int32} {day grace longest spent spentIn spendings urgentSp dropped lapsedLate oldest kept : Int32} {RB : Nat → vm_BK} {ln : Int32} {tx : Nat → Int32} {states rl thr rd num due : Int32} {hash : Int64} {z hi rx pa : Nat → Int32} (h : RRf rm fm rq fr ap day grace longest spent spentIn spendings urgentSp dropped lapsedLate oldest kept RB ln tx states rl thr rd num due hash z hi rx pa) : CU rm fm rq fr ap day grace longest spent spentIn spendings urgentSp dropped lapsedLate z ∧ HI oldest kept RB states hi ∧ TXR ln tx rl rx := h
section RRS
variable {r s k : Nat} {f g ap z : Nat → Int32} {day grace longest spent spentIn spendings urgentSp dropped lapsedLate : Int32}
theorem cr_ (p lo hi : Int32) : (f_X5_checkRange p lo hi = 0 ∧ f_X6_within p lo hi = true ∧ ¬ p < lo ∧ ¬ hi < p) ∨ (f_X5_checkRange p lo hi = 2 ∧ f_X6_within p lo hi = false) := by
  rw [f_X5_checkRange, f_X6_within, f_X5_checkRange_j10]
  by_cases h1 : p < lo
  · right
    rw [if_pos h1, if_pos h1]
    exact ⟨rfl, rfl⟩
  · rw [if_neg h1, if_neg h1]
    by_cases h2 : hi < p
    · right
      rw [if_pos h2, if_neg (i32_nle.mpr h2)]
      exact ⟨rfl, rfl⟩
    · left
      rw [if_neg h2, if_pos (i32_nlt.mp h2)]
      exact ⟨rfl, rfl, h1, h2⟩
theorem cr_n {p : Int32} {a b : Nat} (ha : a < 2147483648) (hb : b < 2147483648) (h1 : ¬ p < Int32.ofNat a) (h2 : ¬ Int32.ofNat b < p) : ∃ c : Nat, a ≤ c ∧ c ≤ b ∧ p = Int32.ofNat c := by
  have h0 : ¬ p < 0 := fun q => h1 (by
    rw [Int32.lt_iff_toInt_lt] at *
    rw [pn_toInt ha]
    have : (0 : Int32).toInt = 0 := rfl
    omega)
  obtain ⟨c, hc, rfl⟩ := pn_of h0
  rw [pn_lt hc ha] at h1
  rw [pn_lt hb hc] at h2
  exact ⟨c, by omega, by omega, rfl⟩
theorem cp_ (p : Int32) : (f_X5_checkPerson p = 0 ∧ f_X6_isPerson p = true ∧ ∃ q : Nat, q < 8 ∧ p = Int32.ofNat q) ∨ (f_X5_checkPerson p = 1 ∧ f_X6_isPerson p = false) := by
  rw [f_X5_checkPerson, f_X6_isPerson, f_X6_within, f_X5_checkPerson_j10]
  by_cases h1 : p < 0
  · right
    rw [if_pos h1, if_pos h1]
    exact ⟨rfl, rfl⟩
  · obtain ⟨c, hc, rfl⟩ := pn_of h1
    rw [if_neg h1, if_neg h1, show (8 : Int32) = Int32.ofNat 8 from rfl, show (7 : Int32) = Int32.ofNat 7 from rfl]
    by_cases h2 : c < 8
    · left
      rw [if_pos ((pn_lt hc (by omega)).mpr h2), if_neg (fun q => by have := (pn_lt (by omega) hc).mp q; omega)]
      exact ⟨rfl, rfl, c, h2, rfl⟩
    · right
      rw [if_neg (fun q => h2 ((pn_lt hc (by omega)).mp q)), if_pos ((pn_lt (by omega) hc).mpr (by omega))]
      exact ⟨rfl, rfl⟩
theorem cs_ (p : Int32) : (f_X5_checkSetting p = 0 ∧ f_X6_isSetting p = true ∧ (p = 0 ∨ p = 1)) ∨ (f_X5_checkSetting p = 1 ∧ f_X6_isSetting p = false) := by
  rw [f_X5_checkSetting, f_X6_isSetting, f_X6_within]
  by_cases h1 : p < 0
  · right
    have n0 : ¬ p = 0 := fun q => by rw [q] at h1; exact absurd h1 (by decide)
    have n1 : ¬ p = 1 := fun q => by rw [q] at h1; exact absurd h1 (by decide)
    rw [if_neg n0, if_neg n1, if_pos h1]
    exact ⟨rfl, rfl⟩
  · obtain ⟨c, hc, rfl⟩ := pn_of h1
    rw [if_neg h1, show (1 : Int32) = Int32.ofNat 1 from rfl, show (0 : Int32) = Int32.ofNat 0 from rfl]
    by_cases h2 : c ≤ 1
    · left
      have h3 : c = 0 ∨ c = 1 := by omega
      rcases h3 with rfl | rfl
      · exact ⟨by decide, by decide, Or.inl rfl⟩
      · exact ⟨by decide, by decide, Or.inr rfl⟩
    · right
      have n0 : ¬ Int32.ofNat c = Int32.ofNat 0 := fun q => by have := pn_inj hc (by omega) q; omega
      have n1 : ¬ Int32.ofNat c = Int32.ofNat 1 := fun q => by have := pn_inj hc (by omega) q; omega
      rw [if_neg n0, if_neg n1, if_pos ((pn_lt (by omega) hc).mpr (by omega))]
      exact ⟨rfl, rfl⟩
theorem BZ.mb (B : BZ r s f g ap day grace longest spent spentIn spendings urgentSp dropped lapsedLate z) {f' z' : Nat → Int32} (M : MB r f' z') (h : ∀ i : Nat, i < 19 ∨ 127 ≤ i → z' i = z i) : BZ r s f' g ap day grace longest spent spentIn spendings urgentSp dropped lapsedLate z' := by
  obtain ⟨-, R, D, ⟨z0, z1, z2, z5, z6, z7, z8, z9, z10⟩, A⟩ := B
  refine ⟨M, R.toz (h 4 (Or.inl (by omega))) (fun i h1 _ => h i (Or.inr h1)), D, ?_, fun p hp => ?_⟩
  · rw [h 0 (Or.inl (by omega)), h 1 (Or.inl (by omega)), h 2 (Or.inl (by omega)), h 5 (Or.inl (by omega)), h 6 (Or.inl (by omega)), h 7 (Or.inl (by omega)), h 8 (Or.inl (by omega)), h 9 (Or.inl (by omega)), h 10 (Or.inl (by omega))]
    exact ⟨z0, z1, z2, z5, z6, z7, z8, z9, z10⟩
  · rw [h _ (Or.inl (by omega))]
    exact A p hp
/-! limits and approvals needed -/
theorem limit_ (B : BZ r s f g ap day grace longest spent spentIn spendings urgentSp dropped lapsedLate z) (hk : k < r) (e : Int32) {p : Nat} (p1 : 1 ≤ p) (p2 : p ≤ 9999) : ∃ f' : Nat → Int32, f_X2_changeLimits (Int32.ofNat r) f (Int32.ofNat k) e (Int32.ofNat p) = (f (8 * k + 3), f') ∧ f_X6_put (f_X6_put z (Int32.ofNat k) 2 e) (Int32.ofNat k) 3 (Int32.ofNat p) = upd (upd z (19 + 9 * k + 2) e) (19 + 9 * k + 3) (Int32.ofNat p) ∧ BZ r s f' g ap day grace longest spent spentIn spendings urgentSp dropped lapsedLate (upd (upd z (19 + 9 * k + 2) e) (19 + 9 * k + 3) (Int32.ofNat p)) := by
  have M := B.1
  have h12 := M.1
  have e2 : ∀ (h : Nat → Int32) (v : Int32), f_X3_put 8 (Int32.ofNat r) 96 h (Int32.ofNat k) 2 v = upd h (8 * k + 2) v := fun h v => pp_8 (c := 2) h12 hk (by omega)
  have e3 : ∀ (h : Nat → Int32) (v : Int32), f_X3_put 8 (Int32.ofNat r) 96 h (Int32.ofNat k) 3 v = upd h (8 * k + 3) v := fun h v => pp_8 (c := 3) h12 hk (by omega)
  refine ⟨upd (upd f (8 * k + 2) e) (8 * k + 3) (Int32.ofNat p), ?_, ?_, ?_⟩
  · rw [f_X2_changeLimits, f_X2_changeLimits_c10, f_X2_exchange, f_X2_exchange_c21, f_X2_changeLimits_c17, e2, e3, p8_3 h12 hk, upd_n f (k := 8 * k + 2) (j := 8 * k + 3) _ (by omega)]
  · rw [mp2 h12 hk, mp3 h12 hk]
  · refine B.mb ⟨h12, tb_up3 (tb_up2 M.2.1 e hk h12) (Int32.ofNat p) hk h12, fun j hj => ?_⟩ (fun i hi => by rw [upd_n _ _ (by omega), upd_n _ _ (by omega)])
    obtain ⟨v0, v1, v3, v4, v6, v5⟩ := M.2.2 j hj
    have q0 : upd (upd f (8 * k + 2) e) (8 * k + 3) (Int32.ofNat p) (8 * j) = f (8 * j) := by rw [upd_n _ _ (by omega), upd_n _ _ (by omega)]
    have q1 : upd (upd f (8 * k + 2) e) (8 * k + 3) (Int32.ofNat p) (8 * j + 1) = f (8 * j + 1) := by rw [upd_n _ _ (by omega), upd_n _ _ (by omega)]
    have q4 : upd (upd f (8 * k + 2) e) (8 * k + 3) (Int32.ofNat p) (8 * j + 4) = f (8 * j + 4) := by rw [upd_n _ _ (by omega), upd_n _ _ (by omega)]
    have q5 : ∀ i : Nat, upd (upd f (8 * k + 2) e) (8 * k + 3) (Int32.ofNat p) (8 * i + 5) = f (8 * i + 5) := fun i => by rw [upd_n _ _ (by omega), upd_n _ _ (by omega)]
    have q6 : upd (upd f (8 * k + 2) e) (8 * k + 3) (Int32.ofNat p) (8 * j + 6) = f (8 * j + 6) := by rw [upd_n _ _ (by omega), upd_n _ _ (by omega)]
    rw [q0, q1, q4, q5, q6]
    refine ⟨v0, v1, ?_, v4, v6, fun h5 i hi hu => by rw [q5]; exact v5 h5 i hi hu⟩
    by_cases hjk : j = k
    · subst hjk
      exact ⟨p, p1, p2, upd_s _ _ _⟩
    · rw [upd_n _ _ (by omega), upd_n _ _ (by omega)]
      exact v3
theorem need_ (B : BZ r s f g ap day grace longest spent spentIn spendings urgentSp dropped lapsedLate z) (hk : k < r) {p : Nat} (p2 : p ≤ 3) : ∃ f' : Nat → Int32, f_X2_exchange (Int32.ofNat r) f (Int32.ofNat k) 4 (Int32.ofNat p) = (f (8 * k + 4), f') ∧ f_X6_put z (Int32.ofNat k) 4 (Int32.ofNat p) = upd z (19 + 9 * k + 4) (Int32.ofNat p) ∧ BZ r s f' g ap day grace longest spent spentIn spendings urgentSp dropped lapsedLate (upd z (19 + 9 * k + 4) (Int32.ofNat p)) := by
  have M := B.1
  have h12 := M.1
  have e4 : f_X3_put 8 (Int32.ofNat r) 96 f (Int32.ofNat k) 4 (Int32.ofNat p) = upd f (8 * k + 4) (Int32.ofNat p) := pp_8 (c := 4) h12 hk (by omega)
  refine ⟨upd f (8 * k + 4) (Int32.ofNat p), ?_, ?_, ?_⟩
  · rw [f_X2_exchange, f_X2_exchange_c21, e4, p8_4 h12 hk]
  · rw [mp4 h12 hk]
  · refine B.mb ⟨h12, tb_up4 M.2.1 (Int32.ofNat p) hk h12, fun j hj => ?_⟩ (fun i hi => by rw [upd_n _ _ (by omega)])
    obtain ⟨v0, v1, v3, v4, v6, v5⟩ := M.2.2 j hj
    have q0 : upd f (8 * k + 4) (Int32.ofNat p) (8 * j) = f (8 * j) := upd_n _ _ (by omega)
    have q1 : upd f (8 * k + 4) (Int32.ofNat p) (8 * j + 1) = f (8 * j + 1) := upd_n _ _ (by omega)
    have q3 : upd f (8 * k + 4) (Int32.ofNat p) (8 * j + 3) = f (8 * j + 3) := upd_n _ _ (by omega)
    have q5 : ∀ i : Nat, upd f (8 * k + 4) (Int32.ofNat p) (8 * i + 5) = f (8 * i + 5) := fun i => upd_n _ _ (by omega)
    have q6 : upd f (8 * k + 4) (Int32.ofNat p) (8 * j + 6) = f (8 * j + 6) := upd_n _ _ (by omega)
    rw [q0, q1, q3, q5, q6]
    refine ⟨v0, v1, v3, ?_, v6, fun h5 i hi hu => by rw [q5]; exact v5 h5 i hi hu⟩
    by_cases hjk : j = k
    · subst hjk
      exact ⟨p, p2, upd_s _ _ _⟩
    · rw [upd_n _ _ (by omega)]
      exact v4
/-! a mandate more -/
def bgf (r : Nat) (f : Nat → Int32) (p1 p2 p3 p4 p5 : Int32) : Nat → Int32 := upd (upd (upd (upd (upd (upd (fun i => if 8 * r ≤ i ∧ i < 8 * r + 8 then 0 else f i) (8 * r + 0) p1) (8 * r + 1) p2) (8 * r + 2) p3) (8 * r + 3) p4) (8 * r + 4) p5) (8 * r + 5) (-1)
def bgz (r : Nat) (z : Nat → Int32) (p1 p2 p3 p4 p5 : Int32) : Nat → Int32 := upd (upd (upd (upd (upd (upd (upd (upd (upd (upd z 3 (Int32.ofNat (r + 1))) (19 + 9 * r + 0) p1) (19 + 9 * r + 1) p2) (19 + 9 * r + 2) p3) (19 + 9 * r + 3) p4) (19 + 9 * r + 4) p5) (19 + 9 * r + 5) 1) (19 + 9 * r + 6) 0) (19 + 9 * r + 7) 0) (19 + 9 * r + 8) (-1)
theorem begin_c (hr : r < 12) (p1 p2 p3 p4 p5 : Int32) : f_X2_begin (Int32.ofNat r) f p1 p2 p3 p4 p5 = (Int32.ofNat r, Int32.ofNat (r + 1), bgf r f p1 p2 p3 p4 p5) := by
  have e0 : ∀ (h : Nat → Int32) (v : Int32), f_X3_put 8 (Int32.ofNat (r + 1)) 96 h (Int32.ofNat r) 0 v = upd h (8 * r + 0) v := fun h v => pp_8 (c := 0) (by omega) (by omega) (by omega)
  have e1 : ∀ (h : Nat → Int32) (v : Int32), f_X3_put 8 (Int32.ofNat (r + 1)) 96 h (Int32.ofNat r) 1 v = upd h (8 * r + 1) v := fun h v => pp_8 (c := 1) (by omega) (by omega) (by omega)
  have e2 : ∀ (h : Nat → Int32) (v : Int32), f_X3_put 8 (Int32.ofNat (r + 1)) 96 h (Int32.ofNat r) 2 v = upd h (8 * r + 2) v := fun h v => pp_8 (c := 2) (by omega) (by omega) (by omega)
  have e3 : ∀ (h : Nat → Int32) (v : Int32), f_X3_put 8 (Int32.ofNat (r + 1)) 96 h (Int32.ofNat r) 3 v = upd h (8 * r + 3) v := fun h v => pp_8 (c := 3) (by omega) (by omega) (by omega)
  have e4 : ∀ (h : Nat → Int32) (v : Int32), f_X3_put 8 (Int32.ofNat (r + 1)) 96 h (Int32.ofNat r) 4 v = upd h (8 * r + 4) v := fun h v => pp_8 (c := 4) (by omega) (by omega) (by omega)
  have e5 : ∀ (h : Nat → Int32) (v : Int32), f_X3_put 8 (Int32.ofNat (r + 1)) 96 h (Int32.ofNat r) 5 v = upd h (8 * r + 5) v := fun h v => pp_8 (c := 5) (by omega) (by omega) (by omega)
  rw [f_X2_begin, addRow8 hr, f_X2_begin_c7, f_X2_begin_c20, f_X2_begin_c31, f_X2_begin_c42, f_X2_begin_c54, f_X2_begin_c66, f_X2_begin_c77, e0, e1, e2, e3, e4, e5]
  rfl
theorem begin_z (hr : r < 12) (h3 : z 3 = Int32.ofNat r) (p1 p2 p3 p4 p5 t0 st : Int32) (hi : Nat → Int32) : f_X6_give_c98 z p1 p2 p3 p4 p5 t0 st hi = (Int32.ofNat r, st, t0, bgz r z p1 p2 p3 p4 p5, hi) ∧ o_X6_give_c98 z p1 p2 p3 p4 p5 t0 st hi := by
  have e0 : ∀ (h : Nat → Int32) (v : Int32), f_X6_put h (Int32.ofNat r) 0 v = upd h (19 + 9 * r + 0) v := fun h v => pz_put (c := 0) hr (by omega)
  have q0 : ∀ (h : Nat → Int32) (v : Int32), o_X6_put h (Int32.ofNat r) 0 v := fun h v => pz_oput (c := 0) hr (by omega)
  have e1 : ∀ (h : Nat → Int32) (v : Int32), f_X6_put h (Int32.ofNat r) 1 v = upd h (19 + 9 * r + 1) v := fun h v => pz_put (c := 1) hr (by omega)
  have q1 : ∀ (h : Nat → Int32) (v : Int32), o_X6_put h (Int32.ofNat r) 1 v := fun h v => pz_oput (c := 1) hr (by omega)
  have e2 : ∀ (h : Nat → Int32) (v : Int32), f_X6_put h (Int32.ofNat r) 2 v = upd h (19 + 9 * r + 2) v := fun h v => pz_put (c := 2) hr (by omega)
  have q2 : ∀ (h : Nat → Int32) (v : Int32), o_X6_put h (Int32.ofNat r) 2 v := fun h v => pz_oput (c := 2) hr (by omega)
  have e3 : ∀ (h : Nat → Int32) (v : Int32), f_X6_put h (Int32.ofNat r) 3 v = upd h (19 + 9 * r + 3) v := fun h v => pz_put (c := 3) hr (by omega)
  have q3 : ∀ (h : Nat → Int32) (v : Int32), o_X6_put h (Int32.ofNat r) 3 v := fun h v => pz_oput (c := 3) hr (by omega)
  have e4 : ∀ (h : Nat → Int32) (v : Int32), f_X6_put h (Int32.ofNat r) 4 v = upd h (19 + 9 * r + 4) v := fun h v => pz_put (c := 4) hr (by omega)
  have q4 : ∀ (h : Nat → Int32) (v : Int32), o_X6_put h (Int32.ofNat r) 4 v := fun h v => pz_oput (c := 4) hr (by omega)
  have e5 : ∀ (h : Nat → Int32) (v : Int32), f_X6_put h (Int32.ofNat r) 5 v = upd h (19 + 9 * r + 5) v := fun h v => pz_put (c := 5) hr (by omega)
  have q5 : ∀ (h : Nat → Int32) (v : Int32), o_X6_put h (Int32.ofNat r) 5 v := fun h v => pz_oput (c := 5) hr (by omega)
  have e6 : ∀ (h : Nat → Int32) (v : Int32), f_X6_put h (Int32.ofNat r) 6 v = upd h (19 + 9 * r + 6) v := fun h v => pz_put (c := 6) hr (by omega)
  have q6 : ∀ (h : Nat → Int32) (v : Int32), o_X6_put h (Int32.ofNat r) 6 v := fun h v => pz_oput (c := 6) hr (by omega)
  have e7 : ∀ (h : Nat → Int32) (v : Int32), f_X6_put h (Int32.ofNat r) 7 v = upd h (19 + 9 * r + 7) v := fun h v => pz_put (c := 7) hr (by omega)
  have q7 : ∀ (h : Nat → Int32) (v : Int32), o_X6_put h (Int32.ofNat r) 7 v := fun h v => pz_oput (c := 7) hr (by omega)
  have e8 : ∀ (h : Nat → Int32) (v : Int32), f_X6_put h (Int32.ofNat r) 8 v = upd h (19 + 9 * r + 8) v := fun h v => pz_put (c := 8) hr (by omega)
  have q8 : ∀ (h : Nat → Int32) (v : Int32), o_X6_put h (Int32.ofNat r) 8 v := fun h v => pz_oput (c := 8) hr (by omega)
  rw [f_X6_give_c98, o_X6_give_c98, f_X6_give_c124, o_X6_give_c124, f_X6_give_c132, o_X6_give_c132, f_X6_give_c140, o_X6_give_c140, f_X6_give_c149, o_X6_give_c149, f_X6_give_c158, o_X6_give_c158, f_X6_give_c166, o_X6_give_c166, f_X6_give_c175, o_X6_give_c175, f_X6_give_c184, o_X6_give_c184, f_X6_give_c193, o_X6_give_c193, cn_3, h3, pn_succ, e0, e1, e2, e3, e4, e5, e6, e7, e8]
  exact ⟨rfl, q0 _ _, q1 _ _, q2 _ _, q3 _ _, q4 _ _, q5 _ _, q6 _ _, q7 _ _, q8 _ _, trivial⟩
theorem bgz_out {p1 p2 p3 p4 p5 : Int32} {i : Nat} (h3 : i ≠ 3) (h : i < 19 + 9 * r ∨ 19 + 9 * r + 9 ≤ i) : bgz r z p1 p2 p3 p4 p5 i = z i := by
  unfold bgz
  rw [upd_n _ _ (by omega), upd_n _ _ (by omega), upd_n _ _ (by omega), upd_n _ _ (by omega), upd_n _ _ (by omega), upd_n _ _ (by omega), upd_n _ _ (by omega), upd_n _ _ (by omega), upd_n _ _ (by omega), upd_n _ _ (by omega)]
theorem bgf_out {p1 p2 p3 p4 p5 : Int32} {i : Nat} (h : i < 8 * r) : bgf r f p1 p2 p3 p4 p5 i = f i := by
  unfold bgf
  rw [upd_n _ _ (by omega), upd_n _ _ (by omega), upd_n _ _ (by omega), upd_n _ _ (by omega), upd_n _ _ (by omega), upd_n _ _ (by omega), if_neg (by omega)]
theorem bgf_0 {p1 p2 p3 p4 p5 : Int32} : bgf r f p1 p2 p3 p4 p5 (8 * r) = p1 := by
  unfold bgf
  rw [upd_n _ _ (by omega), upd_n _ _ (by omega), upd_n _ _ (by omega), upd_n _ _ (by omega), upd_n _ _ (by omega)]
  exact upd_s _ _ _
theorem bgf_1 {p1 p2 p3 p4 p5 : Int32} : bgf r f p1 p2 p3 p4 p5 (8 * r + 1) = p2 := by
  unfold bgf
  rw [upd_n _ _ (by omega), upd_n _ _ (by omega), upd_n _ _ (by omega), upd_n _ _ (by omega)]
  exact upd_s _ _ _
theorem bgf_2 {p1 p2 p3 p4 p5 : Int32} : bgf r f p1 p2 p3 p4 p5 (8 * r + 2) = p3 := by
  unfold bgf
  rw [upd_n _ _ (by omega), upd_n _ _ (by omega), upd_n _ _ (by omega)]
  exact upd_s _ _ _
theorem bgf_3 {p1 p2 p3 p4 p5 : Int32} : bgf r f p1 p2 p3 p4 p5 (8 * r + 3) = p4 := by
  unfold bgf
  rw [upd_n _ _ (by omega), upd_n _ _ (by omega)]
  exact upd_s _ _ _
theorem bgf_4 {p1 p2 p3 p4 p5 : Int32} : bgf r f p1 p2 p3 p4 p5 (8 * r + 4) = p5 := by
  unfold bgf
  rw [upd_n _ _ (by omega)]
  exact upd_s _ _ _
theorem bgf_5 {p1 p2 p3 p4 p5 : Int32} : bgf r f p1 p2 p3 p4 p5 (8 * r + 5) = -1 := by
  unfold bgf
  exact upd_s _ _ _
theorem bgf_6 {p1 p2 p3 p4 p5 : Int32} : bgf r f p1 p2 p3 p4 p5 (8 * r + 6) = 0 := by
  unfold bgf
  rw [upd_n _ _ (by omega), upd_n _ _ (by omega), upd_n _ _ (by omega), upd_n _ _ (by omega), upd_n _ _ (by omega), upd_n _ _ (by omega)]
  rw [if_pos (by omega)]
theorem bgf_7 {p1 p2 p3 p4 p5 : Int32} : bgf r f p1 p2 p3 p4 p5 (8 * r + 7) = 0 := by
  unfold bgf
  rw [upd_n _ _ (by omega), upd_n _ _ (by omega), upd_n _ _ (by omega), upd_n _ _ (by omega), upd_n _ _ (by omega), upd_n _ _ (by omega)]
  rw [if_pos (by omega)]
theorem bgz_0 {p1 p2 p3 p4 p5 : Int32} : bgz r z p1 p2 p3 p4 p5 (19 + 9 * r) = p1 := by
  unfold bgz
  rw [upd_n _ _ (by omega), upd_n _ _ (by omega), upd_n _ _ (by omega), upd_n _ _ (by omega), upd_n _ _ (by omega), upd_n _ _ (by omega), upd_n _ _ (by omega), upd_n _ _ (by omega)]
  exact upd_s _ _ _
theorem bgz_1 {p1 p2 p3 p4 p5 : Int32} : bgz r z p1 p2 p3 p4 p5 (19 + 9 * r + 1) = p2 := by
  unfold bgz
  rw [upd_n _ _ (by omega), upd_n _ _ (by omega), upd_n _ _ (by omega), upd_n _ _ (by omega), upd_n _ _ (by omega), upd_n _ _ (by omega), upd_n _ _ (by omega)]
  exact upd_s _ _ _
theorem bgz_2 {p1 p2 p3 p4 p5 : Int32} : bgz r z p1 p2 p3 p4 p5 (19 + 9 * r + 2) = p3 := by
  unfold bgz
  rw [upd_n _ _ (by omega), upd_n _ _ (by omega), upd_n _ _ (by omega), upd_n _ _ (by omega), upd_n _ _ (by omega), upd_n _ _ (by omega)]
  exact upd_s _ _ _
theorem bgz_3 {p1 p2 p3 p4 p5 : Int32} : bgz r z p1 p2 p3 p4 p5 (19 + 9 * r + 3) = p4 := by
  unfold bgz
  rw [upd_n _ _ (by omega), upd_n _ _ (by omega), upd_n _ _ (by omega), upd_n _ _ (by omega), upd_n _ _ (by omega)]
  exact upd_s _ _ _
theorem bgz_4 {p1 p2 p3 p4 p5 : Int32} : bgz r z p1 p2 p3 p4 p5 (19 + 9 * r + 4) = p5 := by
  unfold bgz
  rw [upd_n _ _ (by omega), upd_n _ _ (by omega), upd_n _ _ (by omega), upd_n _ _ (by omega)]
  exact upd_s _ _ _
theorem bgz_5 {p1 p2 p3 p4 p5 : Int32} : bgz r z p1 p2 p3 p4 p5 (19 + 9 * r + 5) = 1 := by
  unfold bgz
  rw [upd_n _ _ (by omega), upd_n _ _ (by omega), upd_n _ _ (by omega)]
  exact upd_s _ _ _
theorem bgz_6 {p1 p2 p3 p4 p5 : Int32} : bgz r z p1 p2 p3 p4 p5 (19 + 9 * r + 6) = 0 := by
  unfold bgz
  rw [upd_n _ _ (by omega), upd_n _ _ (by omega)]
  exact upd_s _ _ _
theorem bgz_7 {p1 p2 p3 p4 p5 : Int32} : bgz r z p1 p2 p3 p4 p5 (19 + 9 * r + 7) = 0 := by
  unfold bgz
  rw [upd_n _ _ (by omega)]
  exact upd_s _ _ _
theorem bgz_8 {p1 p2 p3 p4 p5 : Int32} : bgz r z p1 p2 p3 p4 p5 (19 + 9 * r + 8) = -1 := by
  unfold bgz
  exact upd_s _ _ _
theorem give_ (B : BZ r s f g ap day grace longest spent spentIn spendings urgentSp dropped lapsedLate z) (hr : r < 12) {p1 : Int32} (hp : up_ r p1) (hst : ∀ k : Nat, p1 = Int32.ofNat k → k < r → f (8 * k + 5) = -1) {h e p n : Nat} (h8 : h < 8) (pa : 1 ≤ p) (pb : p ≤ 9999) (n3 : n ≤ 3) : BZ (r + 1) s (bgf r f p1 (Int32.ofNat h) (Int32.ofNat e) (Int32.ofNat p) (Int32.ofNat n)) g ap day grace longest spent spentIn spendings urgentSp dropped lapsedLate (bgz r z p1 (Int32.ofNat h) (Int32.ofNat e) (Int32.ofNat p) (Int32.ofNat n)) := by
  obtain ⟨M, ⟨h6, ⟨RT1, RT2⟩, RV⟩, D, ⟨z0, z1, z2, z5, z6, z7, z8, z9, z10⟩, A⟩ := B
  have out : ∀ i : Nat, i ≠ 3 → (i < 19 + 9 * r ∨ 19 + 9 * r + 9 ≤ i) → bgz r z p1 (Int32.ofNat h) (Int32.ofNat e) (Int32.ofNat p) (Int32.ofNat n) i = z i := fun i a b => bgz_out a b
  have outf : ∀ i : Nat, i < 8 * r → bgf r f p1 (Int32.ofNat h) (Int32.ofNat e) (Int32.ofNat p) (Int32.ofNat n) i = f i := fun i a => bgf_out a
  refine ⟨⟨by omega, ⟨?_, fun k hk => ?_⟩, fun k hk => ?_⟩, ⟨h6, ⟨(out 4 (by omega) (by omega)).trans RT1, fun k hk c hc => ?_⟩, fun k hk => ?_⟩, D, ?_, fun q hq => ?_⟩
  · unfold bgz
    rw [upd_n _ _ (by omega), upd_n _ _ (by omega), upd_n _ _ (by omega), upd_n _ _ (by omega), upd_n _ _ (by omega), upd_n _ _ (by omega), upd_n _ _ (by omega), upd_n _ _ (by omega), upd_n _ _ (by omega), upd_s]
  · by_cases hkr : k < r
    · rw [out _ (by omega) (by omega), out _ (by omega) (by omega), out _ (by omega) (by omega), out _ (by omega) (by omega), out _ (by omega) (by omega), out _ (by omega) (by omega), out _ (by omega) (by omega), out _ (by omega) (by omega), out _ (by omega) (by omega), outf _ (by omega), outf _ (by omega), outf _ (by omega), outf _ (by omega), outf _ (by omega), outf _ (by omega), outf _ (by omega), outf _ (by omega)]
      exact M.2.1.2 k hkr
    · have hkk : k = r := by omega
      subst hkk
      rw [bgz_0, bgz_1, bgz_2, bgz_3, bgz_4, bgz_5, bgz_6, bgz_7, bgz_8, bgf_0, bgf_1, bgf_2, bgf_3, bgf_4, bgf_5, bgf_6, bgf_7]
      exact ⟨rfl, rfl, rfl, rfl, rfl, by decide, rfl, rfl, rfl⟩
  · by_cases hkr : k < r
    · obtain ⟨v0, v1, v3, v4, v6, v5⟩ := M.2.2 k hkr
      rw [outf _ (by omega), outf _ (by omega), outf _ (by omega), outf _ (by omega), outf _ (by omega), outf _ (by omega)]
      refine ⟨v0, v1, v3, v4, v6, fun h5 j hj hu => ?_⟩
      rw [outf _ (by omega)]
      exact v5 h5 j hj hu
    · have hkk : k = r := by omega
      subst hkk
      rw [bgf_0, bgf_1, bgf_3, bgf_4, bgf_5, bgf_6]
      refine ⟨hp, ⟨h, h8, rfl⟩, ⟨p, pa, pb, rfl⟩, ⟨n, n3, rfl⟩, ⟨0, by omega, rfl⟩, fun _ j hj hu => ?_⟩
      rw [outf _ (by omega)]
      exact hst j hu hj
  · rw [out _ (by omega) (by omega)]
    exact RT2 k hk c hc
  · obtain ⟨⟨m, hm, hme⟩, v1, v3, v5⟩ := RV k hk
    exact ⟨⟨m, by omega, hme⟩, v1, v3, v5⟩
  · rw [out _ (by omega) (by omega), out _ (by omega) (by omega), out _ (by omega) (by omega), out _ (by omega) (by omega), out _ (by omega) (by omega), out _ (by omega) (by omega), out _ (by omega) (by omega), out _ (by omega) (by omega), out _ (by omega) (by omega)]
    exact ⟨z0, z1, z2, z5, z6, z7, z8, z9, z10⟩
  · rw [out _ (by omega) (by omega)]
    exact A q hq
theorem le00 : (0 : Int32) ≤ 0 := by decide
theorem nle1 : ¬ (1 : Int32) ≤ 0 := by decide
theorem nle2 : ¬ (2 : Int32) ≤ 0 := by decide
theorem nle3 : ¬ (3 : Int32) ≤ 0 := by decide
theorem bil0 : vm_bi false ≤ 0 := by decide
theorem bil1 : ¬ vm_bi true ≤ 0 := by decide
end RRS
