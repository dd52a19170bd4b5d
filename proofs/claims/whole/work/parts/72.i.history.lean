/-! WHAT IS KEPT -/
section HIS
variable {r s k : Nat} {z : Nat → Int32} {rm : Int32} {fm : Nat → Int32} {rq : Int32} {fr ap : Nat → Int32} {day grace longest spent spentIn spendings urgentSp dropped lapsedLate : Int32}
def cf_ (N : Nat) (a b : Nat → Int32) : Nat → Int32 := fun i => if i < N then a i else b i
theorem cpf_l {N : Nat} (hN : N ≤ 978) (r2 : Int32) (f2 : Nat → Int32) : ∀ (n c : Nat) (f : Nat → Int32), c ≤ N → N - c < n → f_X3_copyFrom_j15 N r2 N f2 n (Int32.ofNat c) f = (r2, fun i => if c ≤ i ∧ i < N then f2 i else f i) := by
  intro n
  induction n with
  | zero => intro c f h1 h2; omega
  | succ n ih =>
    intro c f h1 h2
    rw [f_X3_copyFrom_j15]
    by_cases h : c = N
    · subst h
      rw [if_pos (by rw [pn_le (by omega) (by omega)]; omega)]
      congr 1
      funext i
      rw [if_neg (by omega)]
    · have hle : ¬ Int32.ofNat N ≤ Int32.ofNat c := by rw [pn_le (by omega) (by omega)]; omega
      rw [if_neg hle, if_neg hle, pn_succ, pn_clamp (by omega), ih (c + 1) _ (by omega) (by omega)]
      congr 1
      funext i
      by_cases hi : i = c
      · rw [if_neg (by omega), if_pos (by omega), hi, upd_s]
      · rw [upd_n _ _ hi]
        by_cases hh : c + 1 ≤ i ∧ i < N
        · rw [if_pos hh, if_pos (by omega)]
        · rw [if_neg hh, if_neg (by omega)]
theorem cpf_ {N : Nat} (hN : N ≤ 978) (f : Nat → Int32) (r2 : Int32) (f2 : Nat → Int32) : f_X3_copyFrom N f r2 N f2 = (r2, cf_ N f2 f) := by
  rw [f_X3_copyFrom, toI (by omega)]
  have h := cpf_l hN r2 f2 (N + 1) 0 f (by omega) (by omega)
  refine h.trans ?_
  congr 1
  funext i
  unfold cf_
  by_cases hi : i < N
  · rw [if_pos hi, if_pos (by omega)]
  · rw [if_neg hi, if_neg (by omega)]
theorem cpa_ (oap : Nat → Int32) (d1 d2 d3 d4 d5 d6 d7 d8 d9 : Int32) (m1 : Int32) (m2 : Nat → Int32) (m3 : Int32) (m4 : Nat → Int32) : ∀ (n c : Nat) (f : Nat → Int32), c ≤ 8 → 8 - c < n → f_X0_copyFrom_j35 oap d1 d2 d3 d4 d5 d6 d7 d8 d9 n (Int32.ofNat c) m1 m2 m3 m4 f = (d8, d9, d1, d2, d3, d4, d5, d6, d7, m1, m2, m3, m4, fun i => if c ≤ i ∧ i < 8 then oap i else f i) := by
  intro n
  induction n with
  | zero => intro c f h1 h2; omega
  | succ n ih =>
    intro c f h1 h2
    rw [f_X0_copyFrom_j35]
    by_cases h : c = 8
    · subst h
      rw [if_pos (by decide), f_X0_copyFrom_j71]
      have e : (fun i => if 8 ≤ i ∧ i < 8 then oap i else f i) = f := by
        funext i
        rw [if_neg (by omega)]
      rw [e]
    · rw [if_neg (le8c (by omega)), if_neg (le8c (by omega)), pn_succ, pn_clamp (by omega), ih (c + 1) _ (by omega) (by omega)]
      have e : (fun i => if c + 1 ≤ i ∧ i < 8 then oap i else upd f c (oap c) i) = (fun i => if c ≤ i ∧ i < 8 then oap i else f i) := by
        funext i
        by_cases hi : i = c
        · rw [if_neg (by omega), if_pos (by omega), hi, upd_s]
        · rw [upd_n _ _ hi]
          by_cases hh : c + 1 ≤ i ∧ i < 8
          · rw [if_pos hh, if_pos (by omega)]
          · rw [if_neg hh, if_neg (by omega)]
      rw [e]
theorem copy_ (fm fr ap : Nat → Int32) (orm : Int32) (ofm : Nat → Int32) (orq : Int32) (ofr : Nat → Int32) (oap : Nat → Int32) (oday ograce olongest ospent ospentIn ospendings ourgentSp odropped olapsedLate : Int32) : f_X1_copy fm fr ap orm ofm orq ofr oap oday ograce olongest ospent ospentIn ospendings ourgentSp odropped olapsedLate = (odropped, olapsedLate, oday, ograce, olongest, ospent, ospentIn, ospendings, ourgentSp, orm, cf_ 96 ofm fm, orq, cf_ 36 ofr fr, cf_ 8 oap ap) := by
  have e : f_X0_copyFrom fm fr ap orm ofm orq ofr oap oday ograce olongest ospent ospentIn ospendings ourgentSp odropped olapsedLate = (odropped, olapsedLate, oday, ograce, olongest, ospent, ospentIn, ospendings, ourgentSp, orm, cf_ 96 ofm fm, orq, cf_ 36 ofr fr, cf_ 8 oap ap) := by
    rw [f_X0_copyFrom, cpf_ (by decide), f_X0_copyFrom_c22, cpf_ (by decide), f_X0_copyFrom_c33]
    have h := cpa_ oap oday ograce olongest ospent ospentIn ospendings ourgentSp odropped olapsedLate orm (cf_ 96 ofm fm) orq (cf_ 36 ofr fr) 9 0 ap (by omega) (by omega)
    refine h.trans ?_
    have e : (fun i => if 0 ≤ i ∧ i < 8 then oap i else ap i) = cf_ 8 oap ap := by
      funext i
      unfold cf_
      by_cases hi : i < 8
      · rw [if_pos hi, if_pos (by omega)]
      · rw [if_neg hi, if_neg (by omega)]
    rw [e]
  rw [f_X1_copy, e, f_X1_copy_c13]
theorem md6 : ∀ a : Nat, a < 6 → ∀ n : Nat, n < 7 → (Int32.ofNat a + Int32.ofNat n) - (Int32.ofNat a + Int32.ofNat n) / 6 * 6 = Int32.ofNat ((a + n) % 6) := by decide +kernel
theorem c6_ {j : Nat} (h : j < 6) : j = 0 ∨ j = 1 ∨ j = 2 ∨ j = 3 ∨ j = 4 ∨ j = 5 := by omega
def cpy_ (b : vm_BK) (rm : Int32) (fm : Nat → Int32) (rq : Int32) (fr ap : Nat → Int32) (day grace longest spent spentIn spendings urgentSp dropped lapsedLate : Int32) : vm_BK := (rm, cf_ 96 fm (bk_fm b), rq, cf_ 36 fr (bk_fr b), cf_ 8 ap (bk_ap b), day, grace, longest, spent, spentIn, spendings, urgentSp, dropped, lapsedLate)
theorem ko_1 (a b : Int32) (c : Nat → vm_BK) : o_X1_keep_c2001 a b c := by
  unfold o_X1_keep_c2001
  split <;> trivial
theorem ko_2 (a b : Int32) (c : Nat → vm_BK) : o_X1_keep_c2002 a b c := by
  unfold o_X1_keep_c2002
  split <;> trivial
theorem ko_3 (a b : Int32) (c : Nat → vm_BK) : o_X1_keep_c2003 a b c := by
  unfold o_X1_keep_c2003
  split <;> trivial
theorem ko_4 (a b : Int32) (c : Nat → vm_BK) : o_X1_keep_c2004 a b c := by
  unfold o_X1_keep_c2004
  split <;> trivial
theorem ko_5 (a b : Int32) (c : Nat → vm_BK) : o_X1_keep_c2005 a b c := by
  unfold o_X1_keep_c2005
  split <;> trivial
theorem ko_6 (a b : Int32) (c : Nat → vm_BK) : o_X1_keep_c2006 a b c := by
  unfold o_X1_keep_c2006
  split <;> trivial
theorem keep_o {a n : Nat} (ha : a < 6) (hn : n ≤ 6) (RB : Nat → vm_BK) : o_X1_keep (Int32.ofNat a) (Int32.ofNat n) rm fm rq fr ap day grace longest spent spentIn spendings urgentSp dropped lapsedLate RB := by
  have hx := md6 a ha n (by omega)
  have hj : (a + n) % 6 < 6 := Nat.mod_lt _ (by decide)
  rw [o_X1_keep, hx]
  refine ⟨?_, ?_⟩
  · rcases c6_ hj with h | h | h | h | h | h <;> rw [h] <;> decide
  · split
    · exact ko_1 _ _ _
    · split
      · exact ko_2 _ _ _
      · split
        · exact ko_3 _ _ _
        · split
          · exact ko_4 _ _ _
          · split
            · exact ko_5 _ _ _
            · exact ko_6 _ _ _
theorem keep_f {a n : Nat} (ha : a < 6) (hn : n ≤ 6) (RB : Nat → vm_BK) : f_X1_keep (Int32.ofNat a) (Int32.ofNat n) rm fm rq fr ap day grace longest spent spentIn spendings urgentSp dropped lapsedLate RB = (va_up RB ((a + n) % 6) (cpy_ (RB ((a + n) % 6)) rm fm rq fr ap day grace longest spent spentIn spendings urgentSp dropped lapsedLate), (if n = 6 then Int32.ofNat ((a + 1) % 6) else Int32.ofNat a), (if n = 6 then Int32.ofNat n else Int32.ofNat (n + 1))) := by
  have hx := md6 a ha n (by omega)
  have hx1 : (Int32.ofNat a + 1) - (Int32.ofNat a + 1) / 6 * 6 = Int32.ofNat ((a + 1) % 6) := md6 a ha 1 (by omega)
  have hj : (a + n) % 6 < 6 := Nat.mod_lt _ (by decide)
  have h6 : ((6 : Int32) ≤ Int32.ofNat n) ↔ n = 6 := by
    rw [show (6 : Int32) = Int32.ofNat 6 from rfl, pn_le (by omega) (by omega)]
    omega
  rw [f_X1_keep, hx]
  rcases c6_ hj with h | h | h | h | h | h
  · rw [h, if_pos (by decide : Int32.ofNat 0 = 0), copy_, f_X1_keep_c2001, hx1, pn_succ]
    by_cases hn6 : n = 6
    · rw [if_pos (h6.mpr hn6), if_pos hn6, if_pos hn6]; rfl
    · rw [if_neg (fun q => hn6 (h6.mp q)), if_neg hn6, if_neg hn6]; rfl
  · rw [h, if_neg (by decide : ¬ Int32.ofNat 1 = 0), if_pos (by decide : Int32.ofNat 1 = 1), copy_, f_X1_keep_c2002, hx1, pn_succ]
    by_cases hn6 : n = 6
    · rw [if_pos (h6.mpr hn6), if_pos hn6, if_pos hn6]; rfl
    · rw [if_neg (fun q => hn6 (h6.mp q)), if_neg hn6, if_neg hn6]; rfl
  · rw [h, if_neg (by decide : ¬ Int32.ofNat 2 = 0), if_neg (by decide : ¬ Int32.ofNat 2 = 1), if_pos (by decide : Int32.ofNat 2 = 2), copy_, f_X1_keep_c2003, hx1, pn_succ]
    by_cases hn6 : n = 6
    · rw [if_pos (h6.mpr hn6), if_pos hn6, if_pos hn6]; rfl
    · rw [if_neg (fun q => hn6 (h6.mp q)), if_neg hn6, if_neg hn6]; rfl
  · rw [h, if_neg (by decide : ¬ Int32.ofNat 3 = 0), if_neg (by decide : ¬ Int32.ofNat 3 = 1), if_neg (by decide : ¬ Int32.ofNat 3 = 2), if_pos (by decide : Int32.ofNat 3 = 3), copy_, f_X1_keep_c2004, hx1, pn_succ]
    by_cases hn6 : n = 6
    · rw [if_pos (h6.mpr hn6), if_pos hn6, if_pos hn6]; rfl
    · rw [if_neg (fun q => hn6 (h6.mp q)), if_neg hn6, if_neg hn6]; rfl
  · rw [h, if_neg (by decide : ¬ Int32.ofNat 4 = 0), if_neg (by decide : ¬ Int32.ofNat 4 = 1), if_neg (by decide : ¬ Int32.ofNat 4 = 2), if_neg (by decide : ¬ Int32.ofNat 4 = 3), if_pos (by decide : Int32.ofNat 4 = 4), copy_, f_X1_keep_c2005, hx1, pn_succ]
    by_cases hn6 : n = 6
    · rw [if_pos (h6.mpr hn6), if_pos hn6, if_pos hn6]; rfl
    · rw [if_neg (fun q => hn6 (h6.mp q)), if_neg hn6, if_neg hn6]; rfl
  · rw [h, if_neg (by decide : ¬ Int32.ofNat 5 = 0), if_neg (by decide : ¬ Int32.ofNat 5 = 1), if_neg (by decide : ¬ Int32.ofNat 5 = 2), if_neg (by decide : ¬ Int32.ofNat 5 = 3), if_neg (by decide : ¬ Int32.ofNat 5 = 4), copy_, f_X1_keep_c2006, hx1, pn_succ]
    by_cases hn6 : n = 6
    · rw [if_pos (h6.mpr hn6), if_pos hn6, if_pos hn6]; rfl
    · rw [if_neg (fun q => hn6 (h6.mp q)), if_neg hn6, if_neg hn6]; rfl
/-! the reference's rows -/
theorem sv_l (z : Nat → Int32) {t : Nat} (ht : t ≤ 5) : ∀ (n x : Nat) (hi : Nat → Int32), x ≤ 163 → 163 - x < n → f_X6_save_j54 z n (Int32.ofNat x) (Int32.ofNat t) hi = (Int32.ofNat (t + 1), fun q => if 163 * t + x ≤ q ∧ q < 163 * t + 163 then z (q - 163 * t) else hi q) ∧ o_X6_save_j54 z n (Int32.ofNat x) (Int32.ofNat t) hi := by
  intro n
  induction n with
  | zero => intro x hi h1 h2; omega
  | succ n ih =>
    intro x hi h1 h2
    rw [f_X6_save_j54, o_X6_save_j54, show (163 : Int32) = Int32.ofNat 163 from rfl]
    by_cases h : x = 163
    · subst h
      rw [if_pos (by rw [pn_le (by omega) (by omega)]; omega), if_pos (by rw [pn_le (by omega) (by omega)]; omega), pn_succ]
      refine ⟨?_, trivial⟩
      congr 1
      funext q
      rw [if_neg (by omega)]
    · have hle : ¬ Int32.ofNat 163 ≤ Int32.ofNat x := by rw [pn_le (by omega) (by omega)]; omega
      rw [if_neg hle, if_neg hle, pn_mul, pn_add, pn_succ, pn_clamp (by omega), pn_clamp (by omega)]
      obtain ⟨a1, a2⟩ := ih (x + 1) (upd hi (163 * t + x) (z x)) (by omega) (by omega)
      refine ⟨?_, pz_vp (by omega) (by omega), a2⟩
      rw [a1]
      congr 1
      funext q
      by_cases hq : q = 163 * t + x
      · rw [if_neg (by omega), if_pos (by omega), hq, upd_s]
        exact congrArg z (by omega)
      · rw [upd_n _ _ hq]
        by_cases hh : 163 * t + (x + 1) ≤ q ∧ q < 163 * t + 163
        · rw [if_pos hh, if_pos (by omega)]
        · rw [if_neg hh, if_neg (by omega)]
theorem sv_j52 (z : Nat → Int32) {t : Nat} (ht : t ≤ 5) (hi : Nat → Int32) : f_X6_save_j52 z (Int32.ofNat t) hi = (Int32.ofNat (t + 1), fun q => if 163 * t ≤ q ∧ q < 163 * t + 163 then z (q - 163 * t) else hi q) ∧ o_X6_save_j52 z (Int32.ofNat t) hi := by
  rw [f_X6_save_j52, o_X6_save_j52]
  exact sv_l z ht 164 0 hi (by omega) (by omega)
theorem sv_s (z : Nat → Int32) : ∀ (n x : Nat) (hi : Nat → Int32), 163 ≤ x → x ≤ 978 → 978 - x < n → f_X6_save_j13 6 z n (Int32.ofNat x) hi = f_X6_save_j52 z (Int32.ofNat 5) (fun q => if x - 163 ≤ q ∧ q < 815 then hi (q + 163) else hi q) ∧ o_X6_save_j13 6 z n (Int32.ofNat x) hi := by
  intro n
  induction n with
  | zero => intro x hi h1 h2 h3; omega
  | succ n ih =>
    intro x hi h1 h2 h3
    rw [f_X6_save_j13, o_X6_save_j13, show (978 : Int32) = Int32.ofNat 978 from rfl, show (163 : Int32) = Int32.ofNat 163 from rfl, show (6 : Int32) - 1 = Int32.ofNat 5 by decide]
    by_cases h : x = 978
    · subst h
      rw [if_pos (by rw [pn_le (by omega) (by omega)]; omega), if_pos (by rw [pn_le (by omega) (by omega)]; omega)]
      have e : (fun q => if 978 - 163 ≤ q ∧ q < 815 then hi (q + 163) else hi q) = hi := by
        funext q
        rw [if_neg (by omega)]
      rw [e]
      exact ⟨rfl, (sv_j52 z (by omega) _).2⟩
    · have hle : ¬ Int32.ofNat 978 ≤ Int32.ofNat x := by rw [pn_le (by omega) (by omega)]; omega
      have e : Int32.ofNat x - Int32.ofNat 163 = Int32.ofNat (x - 163) := (Int32.ofNat_sub x 163 h1).symm
      rw [if_neg hle, if_neg hle, e, pn_succ, pn_clamp (by omega), pn_clamp (by omega)]
      obtain ⟨a1, a2⟩ := ih (x + 1) (upd hi (x - 163) (hi x)) (by omega) (by omega) (by omega)
      refine ⟨?_, pz_vp (by omega) (by omega), a2⟩
      rw [a1]
      refine congrArg (f_X6_save_j52 z (Int32.ofNat 5)) ?_
      funext q
      by_cases hq : q = x - 163
      · rw [if_neg (by omega), if_pos (by omega), hq, upd_s]
        exact congrArg hi (by omega)
      · by_cases hh : x + 1 - 163 ≤ q ∧ q < 815
        · rw [if_pos hh, if_pos (by omega), upd_n _ _ (by omega)]
        · rw [if_neg hh, if_neg (by omega), upd_n _ _ hq]
theorem save_ (z hi : Nat → Int32) {n : Nat} (hn : n ≤ 6) : ∃ hi' : Nat → Int32, f_X6_save (Int32.ofNat n) z hi = ((if n = 6 then Int32.ofNat n else Int32.ofNat (n + 1)), hi') ∧ o_X6_save (Int32.ofNat n) z hi ∧ (∀ q : Nat, q < 163 → hi' (163 * (if n = 6 then 5 else n) + q) = z q) ∧ (∀ i q : Nat, q < 163 → i < (if n = 6 then 5 else n) → hi' (163 * i + q) = hi (163 * (if n = 6 then i + 1 else i) + q)) := by
  rw [f_X6_save, o_X6_save]
  by_cases h : n = 6
  · subst h
    obtain ⟨a1, a2⟩ := sv_s z 816 163 hi (by omega) (by omega) (by omega)
    obtain ⟨b1, b2⟩ := sv_j52 z (t := 5) (by omega) (fun q => if 163 - 163 ≤ q ∧ q < 815 then hi (q + 163) else hi q)
    have a1' : f_X6_save_j13 (Int32.ofNat 6) z ((((978 : Int32)).toInt - ((163 : Int32)).toInt).toNat + 1) 163 hi = _ := a1
    have h66 : Int32.ofNat 6 = 6 := rfl
    rw [if_pos (rfl : (6 : Nat) = 6), if_pos (rfl : (6 : Nat) = 6), if_pos h66, if_pos h66, a1', b1]
    refine ⟨_, rfl, a2, fun q hq => ?_, fun i q hq hi5 => ?_⟩
    · show (if 163 * 5 ≤ 163 * 5 + q ∧ 163 * 5 + q < 163 * 5 + 163 then z (163 * 5 + q - 163 * 5) else _) = z q
      rw [if_pos (by omega)]
      exact congrArg z (by omega)
    · show (if 163 * 5 ≤ 163 * i + q ∧ 163 * i + q < 163 * 5 + 163 then _ else (if 163 - 163 ≤ 163 * i + q ∧ 163 * i + q < 815 then hi (163 * i + q + 163) else _)) = _
      rw [if_neg (by omega), if_pos (by omega), if_pos rfl]
      exact congrArg hi (by omega)
  · have hne : ¬ Int32.ofNat n = 6 := fun q => h (pn_inj (b := 6) (by omega) (by omega) q)
    obtain ⟨b1, b2⟩ := sv_j52 z (t := n) (by omega) hi
    rw [if_neg hne, if_neg hne, if_neg h, if_neg h, b1]
    refine ⟨_, rfl, b2, fun q hq => ?_, fun i q hq hin => ?_⟩
    · show (if 163 * n ≤ 163 * n + q ∧ 163 * n + q < 163 * n + 163 then z (163 * n + q - 163 * n) else _) = z q
      rw [if_pos (by omega)]
      exact congrArg z (by omega)
    · show (if 163 * n ≤ 163 * i + q ∧ 163 * i + q < 163 * n + 163 then _ else hi (163 * i + q)) = _
      have : i + 1 ≤ n := hin
      have := Nat.mul_le_mul_left 163 this
      rw [if_neg (by omega), if_neg h]
/-! a book and its row, wherever they lie -/
theorem BZ.cong {f g a : Nat → Int32} (B : BZ r s f g a day grace longest spent spentIn spendings urgentSp dropped lapsedLate z) {f' g' a' z' : Nat → Int32} (hf : ∀ i : Nat, i < 96 → f' i = f i) (hg : ∀ i : Nat, i < 36 → g' i = g i) (ha : ∀ i : Nat, i < 8 → a' i = a i) (hz : ∀ i : Nat, i < 163 → z' i = z i) : BZ r s f' g' a' day grace longest spent spentIn spendings urgentSp dropped lapsedLate z' := by
  obtain ⟨⟨h12, T, V⟩, ⟨h6, RT, RV⟩, D, ⟨z0, z1, z2, z5, z6, z7, z8, z9, z10⟩, A⟩ := B
  refine ⟨⟨h12, ⟨(hz 3 (by omega)).trans T.1, fun k hk => ?_⟩, fun k hk => ?_⟩, ⟨h6, ⟨(hz 4 (by omega)).trans RT.1, fun k hk c hc => ?_⟩, fun k hk => ?_⟩, D, ?_, fun p hp => ?_⟩
  · rw [hz _ (by omega), hz _ (by omega), hz _ (by omega), hz _ (by omega), hz _ (by omega), hz _ (by omega), hz _ (by omega), hz _ (by omega), hz _ (by omega), hf _ (by omega), hf _ (by omega), hf _ (by omega), hf _ (by omega), hf _ (by omega), hf _ (by omega), hf _ (by omega), hf _ (by omega)]
    exact T.2 k hk
  · obtain ⟨v0, v1, v3, v4, v6, v5⟩ := V k hk
    rw [hf _ (by omega), hf _ (by omega), hf _ (by omega), hf _ (by omega), hf _ (by omega), hf _ (by omega)]
    refine ⟨v0, v1, v3, v4, v6, fun h5 j hj hu => ?_⟩
    rw [hf _ (by omega)]
    exact v5 h5 j hj hu
  · rw [hz _ (by omega), hg _ (by omega)]
    exact RT.2 k hk c hc
  · rw [hg _ (by omega), hg _ (by omega), hg _ (by omega), hg _ (by omega)]
    exact RV k hk
  · rw [hz _ (by omega), hz _ (by omega), hz _ (by omega), hz _ (by omega), hz _ (by omega), hz _ (by omega), hz _ (by omega), hz _ (by omega), hz _ (by omega)]
    exact ⟨z0, z1, z2, z5, z6, z7, z8, z9, z10⟩
  · rw [hz _ (by omega), ha _ hp]
    exact A p hp
theorem cf_in {N i : Nat} (a b : Nat → Int32) (h : i < N) : cf_ N a b i = a i := by
  unfold cf_
  rw [if_pos h]
/-- a book and a row say the same -/
def CU (rm : Int32) (fm : Nat → Int32) (rq : Int32) (fr ap : Nat → Int32) (day grace longest spent spentIn spendings urgentSp dropped lapsedLate : Int32) (z : Nat → Int32) : Prop := ∃ r s : Nat, rm = Int32.ofNat r ∧ rq = Int32.ofNat s ∧ BZ r s fm fr ap day grace longest spent spentIn spendings urgentSp dropped lapsedLate z
def CB (b : vm_BK) (z : Nat → Int32) : Prop := CU (bk_rm b) (bk_fm b) (bk_rq b) (bk_fr b) (bk_ap b) (bk_day b) (bk_grace b) (bk_longest b) (bk_spent b) (bk_spentIn b) (bk_spendings b) (bk_urgentSp b) (bk_dropped b) (bk_lapsedLate b) z
/-- the ring and the rows behind one another -/
def HI (oldest kept : Int32) (RB : Nat → vm_BK) (states : Int32) (hi : Nat → Int32) : Prop := ∃ a n : Nat, a < 6 ∧ n ≤ 6 ∧ oldest = Int32.ofNat a ∧ kept = Int32.ofNat n ∧ states = Int32.ofNat n ∧ ∀ i : Nat, i < n → CB (RB ((a + i) % 6)) (fun q => hi (163 * i + q))
theorem CU.cpy (C : CU rm fm rq fr ap day grace longest spent spentIn spendings urgentSp dropped lapsedLate z) (b : vm_BK) {z' : Nat → Int32} (hz : ∀ i : Nat, i < 163 → z' i = z i) : CB (cpy_ b rm fm rq fr ap day grace longest spent spentIn spendings urgentSp dropped lapsedLate) z' := by
  obtain ⟨r, s, h1, h2, B⟩ := C
  exact ⟨r, s, h1, h2, B.cong (fun i h => cf_in _ _ h) (fun i h => cf_in _ _ h) (fun i h => cf_in _ _ h) hz⟩
theorem CB.toz {b : vm_BK} {z' : Nat → Int32} (C : CB b z) (hz : ∀ i : Nat, i < 163 → z' i = z i) : CB b z' := by
  obtain ⟨r, s, h1, h2, B⟩ := C
  exact ⟨r, s, h1, h2, B.cong (fun i h => rfl) (fun i h => rfl) (fun i h => rfl) hz⟩
theorem hist_ {oldest kept states : Int32} {RB : Nat → vm_BK} {hi : Nat → Int32} (H : HI oldest kept RB states hi) (C : CU rm fm rq fr ap day grace longest spent spentIn spendings urgentSp dropped lapsedLate z) : ∃ (RB' : Nat → vm_BK) (o' k' st' : Int32) (hi' : Nat → Int32), f_X1_keep oldest kept rm fm rq fr ap day grace longest spent spentIn spendings urgentSp dropped lapsedLate RB = (RB', o', k') ∧ o_X1_keep oldest kept rm fm rq fr ap day grace longest spent spentIn spendings urgentSp dropped lapsedLate RB ∧ f_X6_save states z hi = (st', hi') ∧ o_X6_save states z hi ∧ HI o' k' RB' st' hi' := by
  obtain ⟨a, n, ha, hn, rfl, rfl, rfl, hall⟩ := H
  obtain ⟨hi', s1, s2, s3, s4⟩ := save_ z hi hn
  refine ⟨_, _, _, _, hi', keep_f ha hn RB, keep_o ha hn RB, s1, s2, ?_⟩
  by_cases h : n = 6
  · subst h
    rw [if_pos rfl] at s3
    refine ⟨(a + 1) % 6, 6, Nat.mod_lt _ (by decide), by omega, by rw [if_pos rfl], by rw [if_pos rfl], by rw [if_pos rfl], fun i hi6 => ?_⟩
    have em : ((a + 1) % 6 + i) % 6 = (a + 1 + i) % 6 := by omega
    rw [em]
    by_cases h5 : i = 5
    · subst h5
      have e : (a + 1 + 5) % 6 = (a + 6) % 6 := by omega
      rw [e, va_up_self]
      exact C.cpy _ (fun q hq => s3 q hq)
    · have hne : (a + 1 + i) % 6 ≠ (a + 6) % 6 := by omega
      rw [va_up_ne _ _ hne]
      have e : a + 1 + i = a + (i + 1) := by omega
      rw [e]
      refine (hall (i + 1) (by omega)).toz (fun q hq => ?_)
      have := s4 i q hq (by rw [if_pos rfl]; omega)
      rw [if_pos rfl] at this
      exact this
  · rw [if_neg h] at s3
    refine ⟨a, n + 1, ha, by omega, by rw [if_neg h], by rw [if_neg h], by rw [if_neg h], fun i hi6 => ?_⟩
    by_cases h5 : i = n
    · subst h5
      rw [va_up_self]
      exact C.cpy _ (fun q hq => s3 q hq)
    · have hne : (a + i) % 6 ≠ (a + n) % 6 := by omega
      rw [va_up_ne _ _ hne]
      refine (hall i (by omega)).toz (fun q hq => ?_)
      have := s4 i q hq (by rw [if_neg h]; omega)
      rw [if_neg h] at this
      exact this
/-! and brought back -/
theorem un_l (hi : Nat → Int32) {t : Nat} (ht : t ≤ 5) (thr : Int32) : ∀ (n x : Nat) (z : Nat → Int32), x ≤ 163 → 163 - x < n → f_X6_undo_j37 (Int32.ofNat (t + 1)) hi n (Int32.ofNat x) thr z = (Int32.ofNat t, Int32.ofNat t, thr, fun q => if x ≤ q ∧ q < 163 then hi (163 * t + q) else z q) ∧ o_X6_undo_j37 (Int32.ofNat (t + 1)) hi n (Int32.ofNat x) thr z := by
  have e : Int32.ofNat (t + 1) - 1 = Int32.ofNat t := by rw [pn_sub1 (by omega)]; rfl
  intro n
  induction n with
  | zero => intro x z h1 h2; omega
  | succ n ih =>
    intro x z h1 h2
    rw [f_X6_undo_j37, o_X6_undo_j37, e, show (163 : Int32) = Int32.ofNat 163 from rfl]
    by_cases h : x = 163
    · subst h
      rw [if_pos (by rw [pn_le (by omega) (by omega)]; omega), if_pos (by rw [pn_le (by omega) (by omega)]; omega)]
      refine ⟨?_, trivial⟩
      congr 3
      funext q
      rw [if_neg (by omega)]
    · have hle : ¬ Int32.ofNat 163 ≤ Int32.ofNat x := by rw [pn_le (by omega) (by omega)]; omega
      rw [if_neg hle, if_neg hle, pn_mul, pn_add, pn_succ, pn_clamp (by omega), pn_clamp (by omega)]
      obtain ⟨a1, a2⟩ := ih (x + 1) (upd z x (hi (163 * t + x))) (by omega) (by omega)
      refine ⟨?_, pz_vp (by omega) (by omega), a2⟩
      rw [a1]
      congr 3
      funext q
      by_cases hq : q = x
      · rw [if_neg (by omega), if_pos (by omega), hq, upd_s]
      · rw [upd_n _ _ hq]
        by_cases hh : x + 1 ≤ q ∧ q < 163
        · rw [if_pos hh, if_pos (by omega)]
        · rw [if_neg hh, if_neg (by omega)]
theorem rest_f {a n : Nat} (ha : a < 6) (hn : n ≤ 5) (RB : Nat → vm_BK) : f_X1_restore (Int32.ofNat a) (Int32.ofNat (n + 1)) rm fm rq fr ap day grace longest spent spentIn spendings urgentSp dropped lapsedLate RB = (Int32.ofNat n, Int32.ofNat n, bk_dropped (RB ((a + n) % 6)), bk_lapsedLate (RB ((a + n) % 6)), bk_day (RB ((a + n) % 6)), bk_grace (RB ((a + n) % 6)), bk_longest (RB ((a + n) % 6)), bk_spent (RB ((a + n) % 6)), bk_spentIn (RB ((a + n) % 6)), bk_spendings (RB ((a + n) % 6)), bk_urgentSp (RB ((a + n) % 6)), bk_rm (RB ((a + n) % 6)), cf_ 96 (bk_fm (RB ((a + n) % 6))) fm, bk_rq (RB ((a + n) % 6)), cf_ 36 (bk_fr (RB ((a + n) % 6))) fr, cf_ 8 (bk_ap (RB ((a + n) % 6))) ap) ∧ o_X1_restore (Int32.ofNat a) (Int32.ofNat (n + 1)) rm fm rq fr ap day grace longest spent spentIn spendings urgentSp dropped lapsedLate RB := by
  have e : Int32.ofNat (n + 1) - 1 = Int32.ofNat n := by rw [pn_sub1 (by omega)]; rfl
  have hx := md6 a ha n (by omega)
  have hj : (a + n) % 6 < 6 := Nat.mod_lt _ (by decide)
  have h0 : ¬ Int32.ofNat (n + 1) ≤ 0 := by
    rw [show (0 : Int32) = Int32.ofNat 0 from rfl, pn_le (by omega) (by omega)]
    omega
  constructor
  · rw [f_X1_restore, if_neg h0, e, hx]
    rcases c6_ hj with h | h | h | h | h | h
    · rw [h, if_pos (by decide : Int32.ofNat 0 = 0), copy_, f_X1_restore_c3701, e]
    · rw [h, if_neg (by decide : ¬ Int32.ofNat 1 = 0), if_pos (by decide : Int32.ofNat 1 = 1), copy_, f_X1_restore_c3702, e]
    · rw [h, if_neg (by decide : ¬ Int32.ofNat 2 = 0), if_neg (by decide : ¬ Int32.ofNat 2 = 1), if_pos (by decide : Int32.ofNat 2 = 2), copy_, f_X1_restore_c3703, e]
    · rw [h, if_neg (by decide : ¬ Int32.ofNat 3 = 0), if_neg (by decide : ¬ Int32.ofNat 3 = 1), if_neg (by decide : ¬ Int32.ofNat 3 = 2), if_pos (by decide : Int32.ofNat 3 = 3), copy_, f_X1_restore_c3704, e]
    · rw [h, if_neg (by decide : ¬ Int32.ofNat 4 = 0), if_neg (by decide : ¬ Int32.ofNat 4 = 1), if_neg (by decide : ¬ Int32.ofNat 4 = 2), if_neg (by decide : ¬ Int32.ofNat 4 = 3), if_pos (by decide : Int32.ofNat 4 = 4), copy_, f_X1_restore_c3705, e]
    · rw [h, if_neg (by decide : ¬ Int32.ofNat 5 = 0), if_neg (by decide : ¬ Int32.ofNat 5 = 1), if_neg (by decide : ¬ Int32.ofNat 5 = 2), if_neg (by decide : ¬ Int32.ofNat 5 = 3), if_neg (by decide : ¬ Int32.ofNat 5 = 4), copy_, f_X1_restore_c3706, e]
  · rw [o_X1_restore, if_neg h0, e, hx]
    refine ⟨?_, ?_⟩
    · rcases c6_ hj with h | h | h | h | h | h <;> rw [h] <;> decide
    · split
      · trivial
      · split
        · trivial
        · split
          · trivial
          · split
            · trivial
            · split <;> trivial
end HIS
