/-! SPENDINGS AND REQUESTS ARE MADE -/
section SPS
variable {r s k : Nat} {f g z : Nat → Int32}
theorem gap_num (M : MB r f z) {j : Nat} (hj : j < r) (a : Nat) (ha : a ≤ 9999) : ∃ p t : Nat, p ≤ 9999 ∧ f (8 * j + 3) = Int32.ofNat p ∧ f (8 * j + 6) = Int32.ofNat t ∧ (Int32.ofNat a ≤ f_X6_gapOf z (Int32.ofNat j) → t + a ≤ p) := by
  obtain ⟨-, -, ⟨p, p1, p2, hp⟩, -, ⟨t, t1, ht⟩, -⟩ := M.2.2 j hj
  refine ⟨p, t, p2, hp, ht, fun h => ?_⟩
  rw [f_X6_gapOf, mo3 M hj, mo6 M hj, hp, ht, Int32.le_iff_toInt_le, Int32.toInt_sub, pn_toInt (by omega), pn_toInt (by omega), pn_toInt (by omega), Int.bmod_eq_of_le (by omega) (by omega)] at h
  omega
def okc (r a : Nat) (f : Nat → Int32) : Nat → Int32 → Prop
  | 0, _ => True
  | n + 1, x => ∀ j : Nat, j < r → x = Int32.ofNat j → (∃ p t : Nat, p ≤ 9999 ∧ f (8 * j + 6) = Int32.ofNat t ∧ t + a ≤ p) ∧ okc r a f n (f (8 * j))
theorem i32_trans {a b c : Int32} (h : a ≤ b) (h2 : b ≤ c) : a ≤ c := by
  rw [Int32.le_iff_toInt_le] at *
  omega
theorem nar_ok (M : MB r f z) {a w : Nat} (ha : a ≤ 9999) (hw : w < r) (hg : Int32.ofNat a ≤ f_X6_gapOf z (Int32.ofNat w)) : ∀ (n k b : Nat) (x : Int32), k ≤ r → lk_ k x → k < n → b < r → f_X6_narrowestOf_j4 z n (Int32.ofNat b) x = Int32.ofNat w → Int32.ofNat a ≤ f_X6_gapOf z (Int32.ofNat b) ∧ okc r a f n x := by
  have h12 := M.1
  intro n
  induction n with
  | zero => intro k b x h1 h2 h3; omega
  | succ n ih =>
    intro k b x hk hx hn hb hr
    rw [f_X6_narrowestOf_j4] at hr
    rcases hx with rfl | ⟨j, hj, rfl⟩
    · rw [if_pos rfl] at hr
      rw [hr]
      exact ⟨hg, fun j hj q => absurd q.symm (pn_nm (by omega))⟩
    · have hjr : j < r := by omega
      rw [if_neg (pn_nm (by omega)), f_X6_narrowestOf_j27, f_X6_narrowestOf_j27, mo0 M hjr] at hr
      obtain ⟨p, t, p1, p2, p3, p4⟩ := gap_num M hjr a ha
      by_cases hc : f_X6_gapOf z (Int32.ofNat b) ≤ f_X6_gapOf z (Int32.ofNat j)
      · rw [if_pos hc] at hr
        obtain ⟨a1, a2⟩ := ih j b (f (8 * j)) (by omega) (mlk M hjr) (by omega) hb hr
        refine ⟨a1, fun j2 hj2 q => ?_⟩
        have := pn_inj (by omega) (by omega) q
        subst this
        exact ⟨⟨p, t, p1, p3, p4 (i32_trans a1 hc)⟩, a2⟩
      · rw [if_neg hc] at hr
        obtain ⟨a1, a2⟩ := ih j j (f (8 * j)) (by omega) (mlk M hjr) (by omega) hjr hr
        refine ⟨i32_trans a1 (i32_nlt.mp (fun q => absurd (i32_nle.mp hc) (fun q2 => by rw [Int32.lt_iff_toInt_lt] at q q2; omega))), fun j2 hj2 q => ?_⟩
        have := pn_inj (by omega) (by omega) q
        subst this
        exact ⟨⟨p, t, p1, p3, p4 a1⟩, a2⟩
def t7_ (r : Nat) (f z : Nat → Int32) : Prop := z 3 = Int32.ofNat r ∧ ∀ k : Nat, k < r → z (19 + 9 * k) = f (8 * k) ∧ z (19 + 9 * k + 1) = f (8 * k + 1) ∧ z (19 + 9 * k + 2) = f (8 * k + 2) ∧ z (19 + 9 * k + 3) = f (8 * k + 3) ∧ z (19 + 9 * k + 4) = f (8 * k + 4) ∧ z (19 + 9 * k + 5) = vm_bi (decide (f (8 * k + 5) = -1)) ∧ z (19 + 9 * k + 6) = f (8 * k + 6) ∧ z (19 + 9 * k + 8) = f (8 * k + 5)
theorem t7_up (T : t7_ r f z) {i : Nat} (v : Int32) (hi : i < r) (h12 : r ≤ 12) : t7_ r (upd f (8 * i + 6) v) (upd z (19 + 9 * i + 6) v) := by
  refine ⟨by rw [upd_n _ _ (by omega)]; exact T.1, fun k hk => ?_⟩
  obtain ⟨c0, c1, c2, c3, c4, c5, c6, c8⟩ := T.2 k hk
  rw [upd_n _ _ (by omega), upd_n f _ (by omega), upd_n _ _ (by omega), upd_n f _ (by omega), upd_n _ _ (by omega), upd_n f _ (by omega), upd_n _ _ (by omega), upd_n f _ (by omega), upd_n _ _ (by omega), upd_n f _ (by omega), upd_n _ _ (by omega), upd_n f _ (by omega), upd_n z (k := 19 + 9 * i + 6) (j := 19 + 9 * k + 8) _ (by omega)]
  refine ⟨c0, c1, c2, c3, c4, c5, ?_, c8⟩
  by_cases h : k = i
  · subst h; rw [upd_s, upd_s]
  · rw [upd_n _ _ (by omega), upd_n _ _ (by omega)]; exact c6
theorem t7_of (T : t7_ r f z) {i : Nat} (hi : i < r) (h12 : r ≤ 12) : f_X6_of z (Int32.ofNat i) 0 = f (8 * i) ∧ f_X6_of z (Int32.ofNat i) 6 = f (8 * i + 6) := by
  have e0 : f_X6_of z (Int32.ofNat i) 0 = z (19 + 9 * i + 0) := pz_of (c := 0) (by omega) (by omega)
  have e6 : f_X6_of z (Int32.ofNat i) 6 = z (19 + 9 * i + 6) := pz_of (c := 6) (by omega) (by omega)
  obtain ⟨c0, c1, c2, c3, c4, c5, c6, c8⟩ := T.2 i hi
  rw [e0, e6]
  exact ⟨c0, c6⟩
theorem make_l (h12 : r ≤ 12) {p a : Nat} (hp : p < r) (ha : a ≤ 9999) (f0 : Nat → Int32) (hu : wu_ r (fun k => f0 (8 * k))) : ∀ (n2 n1 i b : Nat) (x : Int32) (f z : Nat → Int32), b ≤ r → lk_ b x → b < n2 → 12 - i < n1 → i + b ≤ 12 → t7_ r f z → (∀ j : Nat, j < r → f (8 * j) = f0 (8 * j)) → (∀ j : Nat, j < b → f (8 * j + 6) = f0 (8 * j + 6)) → okc r a f0 n2 x → ∃ f' z1 : Nat → Int32, f_X2_addSpending_j27 (Int32.ofNat r) (Int32.ofNat a) n1 x (Int32.ofNat i) f = f' ∧ f_X6_make_j2 (Int32.ofNat p) (Int32.ofNat a) n2 x z = f_X6_make_c49 (Int32.ofNat a) (f_X6_put z1 (Int32.ofNat p) 7 ((f_X6_of z1 (Int32.ofNat p) 7) + Int32.ofNat a)) ∧ o_X6_make_j2 (Int32.ofNat p) (Int32.ofNat a) n2 x z ∧ t7_ r f' z1 ∧ (∀ k : Nat, k < r → ∀ c : Nat, c < 8 → c ≠ 6 → f' (8 * k + c) = f (8 * k + c)) ∧ (∀ k : Nat, k < r → f' (8 * k + 6) = f (8 * k + 6) ∨ ∃ v : Nat, v ≤ 9999 ∧ f' (8 * k + 6) = Int32.ofNat v) ∧ (∀ q : Nat, q < 19 ∨ 127 ≤ q → z1 q = z q) ∧ (∀ k : Nat, k < r → z1 (19 + 9 * k + 7) = z (19 + 9 * k + 7)) := by
  intro n2
  induction n2 with
  | zero => intro n1 i b x f z h1 h2 h3; omega
  | succ n2 ih =>
    intro n1 i b x f z hb hx hn hn1 hs T q0 q6 hok
    cases n1 with
    | zero => omega
    | succ n1 =>
      rw [f_X2_addSpending_j27, f_X6_make_j2, o_X6_make_j2]
      rcases hx with rfl | ⟨j, hj, rfl⟩
      · rw [if_pos pn_m1, if_pos rfl, if_pos rfl, ite_self]
        exact ⟨f, z, rfl, rfl, ⟨oo7 h12 hp, op7 h12 hp, trivial⟩, T, fun k hk c hc h6 => rfl, fun k hk => Or.inl rfl, fun q _ => rfl, fun k _ => rfl⟩
      · have hjr : j < r := by omega
        obtain ⟨⟨p9, t9, h91, h92, h93⟩, hok2⟩ := hok j hjr rfl
        obtain ⟨t0, t6⟩ := t7_of T hjr h12
        have e6 : f_X3_put 8 (Int32.ofNat r) 96 f (Int32.ofNat j) 6 (f (8 * j + 6) + Int32.ofNat a) = upd f (8 * j + 6) (f (8 * j + 6) + Int32.ofNat a) := pp_8 (c := 6) h12 hjr (by omega)
        rw [if_neg (le12 (by omega)), if_neg (pn_nn (by omega)), if_neg (pn_nm (by omega)), if_neg (pn_nm (by omega)), f_X2_addSpending_c60, f_X6_make_c23, o_X6_make_c23, p8_6 h12 hjr, p8_0 h12 hjr, t6, e6, mp6 h12 hjr, pn_succ]
        have T2 := t7_up T (f (8 * j + 6) + Int32.ofNat a) hjr h12
        rw [(t7_of T2 hjr h12).1, upd_n f _ (by omega)]
        have q01 : ∀ k : Nat, k < r → upd f (8 * j + 6) (f (8 * j + 6) + Int32.ofNat a) (8 * k) = f0 (8 * k) := fun k hk => by rw [upd_n _ _ (by omega)]; exact q0 k hk
        rw [q0 j hjr]
        obtain ⟨f', z1, a1, a2, a3, a4, a5, a6, a7, a8⟩ := ih n1 (i + 1) j (f0 (8 * j)) (upd f (8 * j + 6) (f (8 * j + 6) + Int32.ofNat a)) (upd z (19 + 9 * j + 6) (f (8 * j + 6) + Int32.ofNat a)) (by omega) (hu j hjr) (by omega) (by omega) (by omega) T2 q01 (fun k hk => by rw [upd_n _ _ (by omega)]; exact q6 k (by omega)) hok2
        refine ⟨f', z1, a1, a2, ⟨oo6 h12 hjr, op6 h12 hjr, oo0 h12 hjr, a3⟩, a4, fun k hk c hc h6 => ?_, fun k hk => ?_, fun q hq => ?_, fun k hk => ?_⟩
        · rw [a5 k hk c hc h6, upd_n _ _ (by omega)]
        · rcases a6 k hk with h | h
          · by_cases hkj : k = j
            · right
              subst hkj
              refine ⟨t9 + a, by omega, ?_⟩
              rw [h, upd_s, q6 k hj, h92, pn_add]
            · left
              rw [h, upd_n _ _ (by omega)]
          · exact Or.inr h
        · rw [a7 q hq, upd_n _ _ (by omega)]
        · rw [a8 k hk, upd_n _ _ (by omega)]
theorem c49_ (a : Int32) (z : Nat → Int32) : (f_X6_make_c49 a z) 5 = z 5 + a ∧ (f_X6_make_c49 a z) 6 = z 6 + a ∧ (f_X6_make_c49 a z) 7 = z 7 + 1 ∧ (∀ q : Nat, q ≠ 5 → q ≠ 6 → q ≠ 7 → (f_X6_make_c49 a z) q = z q) := by
  rw [f_X6_make_c49, cn_5, cn_6, cn_7]
  refine ⟨?_, ?_, ?_, fun q q1 q2 q3 => ?_⟩
  · rw [upd_n _ _ (by omega), upd_n _ _ (by omega), upd_s]
  · rw [upd_n _ _ (by omega), upd_s, upd_n _ _ (by omega)]
  · rw [upd_s, upd_n _ _ (by omega), upd_n _ _ (by omega)]
  · rw [upd_n _ _ q3, upd_n _ _ q2, upd_n _ _ q1]
/-- a spending is made -/
theorem make_ (M : MB r f z) {p a : Nat} (hp : p < r) (ha : a ≤ 9999) (hg : Int32.ofNat a ≤ f_X6_gapOf z (f_X6_narrowestOf z (Int32.ofNat p))) : ∃ f' z' : Nat → Int32, f_X2_addSpending (Int32.ofNat r) f (Int32.ofNat p) (Int32.ofNat a) = f' ∧ f_X6_make z (Int32.ofNat p) (Int32.ofNat a) = z' ∧ o_X6_make z (Int32.ofNat p) (Int32.ofNat a) ∧ MB r f' z' ∧ f' (8 * p + 4) = f (8 * p + 4) ∧ z' 5 = z 5 + Int32.ofNat a ∧ z' 6 = z 6 + Int32.ofNat a ∧ z' 7 = z 7 + 1 ∧ (∀ q : Nat, q ≠ 5 → q ≠ 6 → q ≠ 7 → q < 19 ∨ 127 ≤ q → z' q = z q) := by
  have h12 := M.1
  obtain ⟨n1, n2, w, hw, n3⟩ := mnarrow M hp
  rw [n3] at hg
  obtain ⟨-, hok⟩ := nar_ok M ha hw hg 1000 (p + 1) p (Int32.ofNat p) (by omega) (lk_self hp) (by omega) hp n3
  have e7 : f_X3_put 8 (Int32.ofNat r) 96 f (Int32.ofNat p) 7 (f (8 * p + 7) + Int32.ofNat a) = upd f (8 * p + 7) (f (8 * p + 7) + Int32.ofNat a) := pp_8 (c := 7) h12 hp (by omega)
  have T : t7_ r (upd f (8 * p + 7) (f (8 * p + 7) + Int32.ofNat a)) z := by
    refine ⟨M.2.1.1, fun k hk => ?_⟩
    obtain ⟨c0, c1, c2, c3, c4, c5, c6, c7, c8⟩ := M.2.1.2 k hk
    rw [upd_n _ _ (by omega), upd_n _ _ (by omega), upd_n _ _ (by omega), upd_n _ _ (by omega), upd_n _ _ (by omega), upd_n _ _ (by omega), upd_n _ _ (by omega)]
    exact ⟨c0, c1, c2, c3, c4, c5, c6, c8⟩
  obtain ⟨f', z1, a1, a2, a3, a4, a5, a6, a7, a8⟩ := make_l h12 hp ha f (mwu M) 1000 13 0 (p + 1) (Int32.ofNat p) _ z (by omega) (lk_self hp) (by omega) (by omega) (by omega) T (fun j hj => upd_n _ _ (by omega)) (fun j hj => upd_n _ _ (by omega)) hok
  have o7 : f_X6_of z1 (Int32.ofNat p) 7 = f (8 * p + 7) := by
    have e : f_X6_of z1 (Int32.ofNat p) 7 = z1 (19 + 9 * p + 7) := pz_of (c := 7) (by omega) (by omega)
    obtain ⟨c0, c1, c2, c3, c4, c5, c6, c7, c8⟩ := M.2.1.2 p hp
    rw [e, a8 p hp, c7]
  rw [o7, mp7 h12 hp] at a2
  obtain ⟨b5, b6, b7, b8⟩ := c49_ (Int32.ofNat a) (upd z1 (19 + 9 * p + 7) (f (8 * p + 7) + Int32.ofNat a))
  rw [upd_n _ _ (by omega)] at b5 b6 b7
  refine ⟨f', _, ?_, a2, a3, ?_, ?_, ?_, ?_, ?_, fun q q1 q2 q3 q4 => ?_⟩
  · rw [f_X2_addSpending, p8_7 h12 hp, e7, f_X2_addSpending_c22]
    exact a1
  · refine MB.toz (z := upd z1 (19 + 9 * p + 7) (f (8 * p + 7) + Int32.ofNat a)) ?_ (b8 3 (by omega) (by omega) (by omega)) (fun i h1 h2 => b8 i (by omega) (by omega) (by omega))
    refine ⟨h12, ⟨by rw [upd_n _ _ (by omega)]; exact a4.1, fun k hk => ?_⟩, fun k hk => ?_⟩
    · obtain ⟨c0, c1, c2, c3, c4, c5, c6, c8⟩ := a4.2 k hk
      rw [upd_n _ _ (by omega), upd_n _ _ (by omega), upd_n _ _ (by omega), upd_n _ _ (by omega), upd_n _ _ (by omega), upd_n _ _ (by omega), upd_n _ _ (by omega), upd_n z1 (k := 19 + 9 * p + 7) (j := 19 + 9 * k + 8) _ (by omega)]
      refine ⟨c0, c1, c2, c3, c4, c5, c6, ?_, c8⟩
      rw [a5 k hk 7 (by omega) (by omega)]
      by_cases h : k = p
      · subst h; rw [upd_s, upd_s]
      · rw [upd_n _ _ (by omega), upd_n _ _ (by omega), a8 k hk]
        exact (M.2.1.2 k hk).2.2.2.2.2.2.2.1
    · have e0 := a5 k hk 0 (by omega) (by omega)
      have e1 := a5 k hk 1 (by omega) (by omega)
      have e3 := a5 k hk 3 (by omega) (by omega)
      have e4 := a5 k hk 4 (by omega) (by omega)
      have e5 := a5 k hk 5 (by omega) (by omega)
      have e6 := a6 k hk
      rw [upd_n _ _ (by omega)] at e0 e1 e3 e4 e5 e6
      rw [Nat.add_zero] at e0
      obtain ⟨v0, v1, v3, v4, v6, v5⟩ := M.2.2 k hk
      rw [e0, e1, e3, e4, e5]
      refine ⟨v0, v1, v3, v4, ?_, fun h5 j hj hu => ?_⟩
      · rcases e6 with e6 | e6
        · rw [e6]; exact v6
        · exact e6
      · have ej := a5 j (by omega) 5 (by omega) (by omega)
        rw [upd_n _ _ (by omega)] at ej
        rw [ej]
        exact v5 h5 j hj hu
  · rw [a5 p hp 4 (by omega) (by omega), upd_n _ _ (by omega)]
  · rw [b5, a7 5 (Or.inl (by omega))]
  · rw [b6, a7 6 (Or.inl (by omega))]
  · rw [b7, a7 7 (Or.inl (by omega))]
  · rw [b8 q q1 q2 q3, upd_n _ _ (by omega), a7 q q4]
/-! a row more -/
theorem add6 (hs : s < 6) : ∀ (n c : Nat) (g : Nat → Int32), c ≤ 6 → 6 - c < n → f_X3_addRow_j26 6 (Int32.ofNat s) 36 n (Int32.ofNat c) g = (Int32.ofNat s, Int32.ofNat (s + 1), fun i => if 6 * s + c ≤ i ∧ i < 6 * s + 6 then 0 else g i) := by
  intro n
  induction n with
  | zero => intro c g h1 h2; omega
  | succ n ih =>
    intro c g h1 h2
    rw [f_X3_addRow_j26, pn_succ]
    by_cases h : c = 6
    · subst h
      rw [if_pos (by decide)]
      congr 2
      funext i
      rw [if_neg (by omega)]
    · rw [if_neg (le6c (by omega)), f_X3_addRow_c41, pn_succ, pp_6 (r := s + 1) (by omega) (by omega) (by omega), ih (c + 1) _ (by omega) (by omega)]
      congr 2
      funext i
      by_cases hi : i = 6 * s + c
      · rw [if_neg (by omega), if_pos (by omega), hi, upd_s]
      · rw [upd_n _ _ hi]
        by_cases hh : 6 * s + (c + 1) ≤ i ∧ i < 6 * s + 6
        · rw [if_pos hh, if_pos (by omega)]
        · rw [if_neg hh, if_neg (by omega)]
theorem addRow6 (hs : s < 6) (g : Nat → Int32) : f_X3_addRow 6 6 (Int32.ofNat s) 36 g = (Int32.ofNat s, Int32.ofNat (s + 1), fun i => if 6 * s ≤ i ∧ i < 6 * s + 6 then 0 else g i) := by
  have h : f_X3_isFull 6 (Int32.ofNat s) = false := by
    rw [f_X3_isFull, if_pos]
    rw [show (6 : Int32) = Int32.ofNat 6 from rfl, pn_lt (by omega) (by omega)]
    exact hs
  rw [f_X3_addRow, h, if_pos (vb_f rfl)]
  exact add6 hs 7 0 g (by omega) (by omega)
theorem le8c {c : Nat} (h : c < 8) : ¬ (8 : Int32) ≤ Int32.ofNat c := by
  rw [show (8 : Int32) = Int32.ofNat 8 from rfl, pn_le (by omega) (by omega)]
  omega
theorem add8 (hs : r < 12) : ∀ (n c : Nat) (g : Nat → Int32), c ≤ 8 → 8 - c < n → f_X3_addRow_j26 8 (Int32.ofNat r) 96 n (Int32.ofNat c) g = (Int32.ofNat r, Int32.ofNat (r + 1), fun i => if 8 * r + c ≤ i ∧ i < 8 * r + 8 then 0 else g i) := by
  intro n
  induction n with
  | zero => intro c g h1 h2; omega
  | succ n ih =>
    intro c g h1 h2
    rw [f_X3_addRow_j26, pn_succ]
    by_cases h : c = 8
    · subst h
      rw [if_pos (by decide)]
      congr 2
      funext i
      rw [if_neg (by omega)]
    · rw [if_neg (le8c (by omega)), f_X3_addRow_c41, pn_succ, pp_8 (r := r + 1) (by omega) (by omega) (by omega), ih (c + 1) _ (by omega) (by omega)]
      congr 2
      funext i
      by_cases hi : i = 8 * r + c
      · rw [if_neg (by omega), if_pos (by omega), hi, upd_s]
      · rw [upd_n _ _ hi]
        by_cases hh : 8 * r + (c + 1) ≤ i ∧ i < 8 * r + 8
        · rw [if_pos hh, if_pos (by omega)]
        · rw [if_neg hh, if_neg (by omega)]
theorem addRow8 (hs : r < 12) (g : Nat → Int32) : f_X3_addRow 12 8 (Int32.ofNat r) 96 g = (Int32.ofNat r, Int32.ofNat (r + 1), fun i => if 8 * r ≤ i ∧ i < 8 * r + 8 then 0 else g i) := by
  have h : f_X3_isFull 12 (Int32.ofNat r) = false := by
    rw [f_X3_isFull, if_pos]
    rw [e12_, pn_lt (by omega) (by omega)]
    exact hs
  rw [f_X3_addRow, h, if_pos (vb_f rfl)]
  exact add8 hs 9 0 g (by omega) (by omega)
/-- a request more -/
def arg_ (s : Nat) (g : Nat → Int32) (p a day u nd : Int32) : Nat → Int32 := upd (upd (upd (upd (upd (fun i => if 6 * s ≤ i ∧ i < 6 * s + 6 then 0 else g i) (6 * s + 0) p) (6 * s + 1) a) (6 * s + 2) day) (6 * s + 3) u) (6 * s + 4) nd
theorem addreq_c (hs : s < 6) (p a day nd : Int32) (u : Bool) : f_X0_addRequest (Int32.ofNat s) g day p a (vm_bi u) nd = (Int32.ofNat (s + 1), arg_ s g p a day (vm_bi u) nd) := by
  have e0 : ∀ (h : Nat → Int32) (v : Int32), f_X3_put 6 (Int32.ofNat (s + 1)) 36 h (Int32.ofNat s) 0 v = upd h (6 * s + 0) v := fun h v => pp_6 (c := 0) (by omega) (by omega) (by omega)
  have e1 : ∀ (h : Nat → Int32) (v : Int32), f_X3_put 6 (Int32.ofNat (s + 1)) 36 h (Int32.ofNat s) 1 v = upd h (6 * s + 1) v := fun h v => pp_6 (c := 1) (by omega) (by omega) (by omega)
  have e2 : ∀ (h : Nat → Int32) (v : Int32), f_X3_put 6 (Int32.ofNat (s + 1)) 36 h (Int32.ofNat s) 2 v = upd h (6 * s + 2) v := fun h v => pp_6 (c := 2) (by omega) (by omega) (by omega)
  have e3 : ∀ (h : Nat → Int32) (v : Int32), f_X3_put 6 (Int32.ofNat (s + 1)) 36 h (Int32.ofNat s) 3 v = upd h (6 * s + 3) v := fun h v => pp_6 (c := 3) (by omega) (by omega) (by omega)
  have e4 : ∀ (h : Nat → Int32) (v : Int32), f_X3_put 6 (Int32.ofNat (s + 1)) 36 h (Int32.ofNat s) 4 v = upd h (6 * s + 4) v := fun h v => pp_6 (c := 4) (by omega) (by omega) (by omega)
  rw [f_X0_addRequest, addRow6 hs, f_X0_addRequest_c7, f_X0_addRequest_c20, f_X0_addRequest_c31, f_X0_addRequest_c45, f_X0_addRequest_j61, f_X0_addRequest_j61, f_X0_addRequest_c64, f_X0_addRequest_c64, f_X0_addRequest_c76, f_X0_addRequest_c76, e0, e1, e2, e3, e3, e4, e4]
  cases u with
  | true => rw [if_neg (vb_t rfl)]; rfl
  | false => rw [if_pos (vb_f rfl)]; rfl
theorem cl_127 {s c : Nat} (hs : s ≤ 12) (hc : c < 12) : Int32.toNatClampNeg ((127 + (6 * Int32.ofNat s)) + Int32.ofNat c) = 127 + 6 * s + c := by
  rw [show (6 : Int32) = Int32.ofNat 6 from rfl, show (127 : Int32) = Int32.ofNat 127 from rfl, pn_mul, pn_add, pn_add, pn_clamp (by omega)]
theorem vp_127 {s c : Nat} (hs : s < 6) (hc : c < 6) : vp_in ((127 + (6 * Int32.ofNat s)) + Int32.ofNat c) 163 := by
  rw [show (6 : Int32) = Int32.ofNat 6 from rfl, show (127 : Int32) = Int32.ofNat 127 from rfl, pn_mul, pn_add, pn_add]
  exact pz_vp (by omega) (by omega)
def arz_ (s : Nat) (z : Nat → Int32) (p a u nd : Int32) : Nat → Int32 := upd (upd (upd (upd (upd (upd (upd z 4 (Int32.ofNat (s + 1))) (127 + 6 * s + 0) p) (127 + 6 * s + 1) a) (127 + 6 * s + 2) (z 2)) (127 + 6 * s + 3) u) (127 + 6 * s + 4) nd) (127 + 6 * s + 5) 0
theorem addreq_z (hs : s < 6) (h4 : z 4 = Int32.ofNat s) {p : Nat} (hp : p < 12) (a u : Int32) : f_X6_addRequest z (Int32.ofNat p) a u = arz_ s z (Int32.ofNat p) a u (z (19 + 9 * p + 4)) ∧ o_X6_addRequest z (Int32.ofNat p) a u := by
  have c0 : Int32.toNatClampNeg ((127 + (6 * Int32.ofNat s)) + 0) = 127 + 6 * s + 0 := cl_127 (c := 0) (by omega) (by omega)
  have c1 : Int32.toNatClampNeg ((127 + (6 * Int32.ofNat s)) + 1) = 127 + 6 * s + 1 := cl_127 (c := 1) (by omega) (by omega)
  have c2 : Int32.toNatClampNeg ((127 + (6 * Int32.ofNat s)) + 2) = 127 + 6 * s + 2 := cl_127 (c := 2) (by omega) (by omega)
  have c3 : Int32.toNatClampNeg ((127 + (6 * Int32.ofNat s)) + 3) = 127 + 6 * s + 3 := cl_127 (c := 3) (by omega) (by omega)
  have c4 : Int32.toNatClampNeg ((127 + (6 * Int32.ofNat s)) + 4) = 127 + 6 * s + 4 := cl_127 (c := 4) (by omega) (by omega)
  have c5 : Int32.toNatClampNeg ((127 + (6 * Int32.ofNat s)) + 5) = 127 + 6 * s + 5 := cl_127 (c := 5) (by omega) (by omega)
  have o4 : ∀ w : Nat → Int32, f_X6_of w (Int32.ofNat p) 4 = w (19 + 9 * p + 4) := fun w => pz_of (c := 4) hp (by omega)
  constructor
  · rw [f_X6_addRequest, cn_4, cn_2, h4, c0, c1, c2, c3, c4, c5, pn_succ, o4]
    rw [upd_n _ _ (by omega : 19 + 9 * p + 4 ≠ 127 + 6 * s + 3), upd_n _ _ (by omega : 19 + 9 * p + 4 ≠ 127 + 6 * s + 2), upd_n _ _ (by omega : 19 + 9 * p + 4 ≠ 127 + 6 * s + 1), upd_n _ _ (by omega : 19 + 9 * p + 4 ≠ 127 + 6 * s + 0), upd_n _ _ (by omega : 19 + 9 * p + 4 ≠ 4), upd_n _ _ (by omega : 2 ≠ 127 + 6 * s + 1), upd_n _ _ (by omega : 2 ≠ 127 + 6 * s + 0), upd_n _ _ (by omega : 2 ≠ 4)]
    rfl
  · rw [o_X6_addRequest, cn_4, h4]
    exact ⟨vp_127 (c := 0) hs (by omega), vp_127 (c := 1) hs (by omega), vp_127 (c := 2) hs (by omega), vp_127 (c := 3) hs (by omega), pz_oof (c := 4) hp (by omega), vp_127 (c := 4) hs (by omega), vp_127 (c := 5) hs (by omega), trivial⟩
theorem arg_lt {k c : Nat} {p a day u nd : Int32} (hk : k < s) (hc : c < 6) : arg_ s g p a day u nd (6 * k + c) = g (6 * k + c) := by
  unfold arg_
  rw [upd_n _ _ (by omega), upd_n _ _ (by omega), upd_n _ _ (by omega), upd_n _ _ (by omega), upd_n _ _ (by omega), if_neg (by omega)]
theorem arg_0 {p a day u nd : Int32} : arg_ s g p a day u nd (6 * s) = p := by
  unfold arg_
  rw [upd_n _ _ (by omega), upd_n _ _ (by omega), upd_n _ _ (by omega), upd_n _ _ (by omega)]
  exact upd_s _ _ _
theorem arg_1 {p a day u nd : Int32} : arg_ s g p a day u nd (6 * s + 1) = a := by
  unfold arg_
  rw [upd_n _ _ (by omega), upd_n _ _ (by omega), upd_n _ _ (by omega), upd_s]
theorem arg_2 {p a day u nd : Int32} : arg_ s g p a day u nd (6 * s + 2) = day := by
  unfold arg_
  rw [upd_n _ _ (by omega), upd_n _ _ (by omega), upd_s]
theorem arg_3 {p a day u nd : Int32} : arg_ s g p a day u nd (6 * s + 3) = u := by
  unfold arg_
  rw [upd_n _ _ (by omega), upd_s]
theorem arg_4 {p a day u nd : Int32} : arg_ s g p a day u nd (6 * s + 4) = nd := by
  unfold arg_
  rw [upd_s]
theorem arg_5 {p a day u nd : Int32} : arg_ s g p a day u nd (6 * s + 5) = 0 := by
  unfold arg_
  rw [upd_n _ _ (by omega), upd_n _ _ (by omega), upd_n _ _ (by omega), upd_n _ _ (by omega), upd_n _ _ (by omega), if_pos (by omega)]
theorem arz_out {p a u nd : Int32} {q : Nat} (h : q ≠ 4) (h2 : q < 127 + 6 * s) : arz_ s z p a u nd q = z q := by
  unfold arz_
  rw [upd_n _ _ (by omega), upd_n _ _ (by omega), upd_n _ _ (by omega), upd_n _ _ (by omega), upd_n _ _ (by omega), upd_n _ _ (by omega), upd_n _ _ (by omega)]
theorem RQ.add (R : RQ r s g z) (hs : s < 6) {p a : Nat} (hp : p < r) (a1 : 1 ≤ a) (a2 : a ≤ 9999) {day nd : Int32} (u : Bool) (hd : z 2 = day) : RQ r (s + 1) (arg_ s g (Int32.ofNat p) (Int32.ofNat a) day (vm_bi u) nd) (arz_ s z (Int32.ofNat p) (Int32.ofNat a) (vm_bi u) nd) := by
  refine ⟨by omega, ⟨?_, fun k hk c hc => ?_⟩, fun k hk => ?_⟩
  · unfold arz_
    rw [upd_n _ _ (by omega), upd_n _ _ (by omega), upd_n _ _ (by omega), upd_n _ _ (by omega), upd_n _ _ (by omega), upd_n _ _ (by omega), upd_s]
  · by_cases h : k < s
    · rw [arz_out (by omega) (by omega), arg_lt h hc]
      exact R.2.1.2 k h c hc
    · have : k = s := by omega
      subst this
      have hc6 : c = 0 ∨ c = 1 ∨ c = 2 ∨ c = 3 ∨ c = 4 ∨ c = 5 := by omega
      rcases hc6 with rfl | rfl | rfl | rfl | rfl | rfl
      · rw [Nat.add_zero, Nat.add_zero, arg_0]
        unfold arz_
        rw [upd_n _ _ (by omega), upd_n _ _ (by omega), upd_n _ _ (by omega), upd_n _ _ (by omega), upd_n _ _ (by omega)]
        exact upd_s _ _ _
      · rw [arg_1]
        unfold arz_
        rw [upd_n _ _ (by omega), upd_n _ _ (by omega), upd_n _ _ (by omega), upd_n _ _ (by omega), upd_s]
      · rw [arg_2]
        unfold arz_
        rw [upd_n _ _ (by omega), upd_n _ _ (by omega), upd_n _ _ (by omega), upd_s, hd]
      · rw [arg_3]
        unfold arz_
        rw [upd_n _ _ (by omega), upd_n _ _ (by omega), upd_s]
      · rw [arg_4]
        unfold arz_
        rw [upd_n _ _ (by omega), upd_s]
      · rw [arg_5]
        unfold arz_
        rw [upd_s]
  · by_cases h : k < s
    · have e0 := arg_lt (g := g) (s := s) (c := 0) (p := Int32.ofNat p) (a := Int32.ofNat a) (day := day) (u := vm_bi u) (nd := nd) h (by omega)
      have e1 := arg_lt (g := g) (s := s) (c := 1) (p := Int32.ofNat p) (a := Int32.ofNat a) (day := day) (u := vm_bi u) (nd := nd) h (by omega)
      have e3 := arg_lt (g := g) (s := s) (c := 3) (p := Int32.ofNat p) (a := Int32.ofNat a) (day := day) (u := vm_bi u) (nd := nd) h (by omega)
      have e5 := arg_lt (g := g) (s := s) (c := 5) (p := Int32.ofNat p) (a := Int32.ofNat a) (day := day) (u := vm_bi u) (nd := nd) h (by omega)
      rw [Nat.add_zero] at e0
      rw [e0, e1, e3, e5]
      exact R.2.2 k h
    · have : k = s := by omega
      subst this
      rw [arg_0, arg_1, arg_3, arg_5]
      refine ⟨⟨p, hp, rfl⟩, ⟨a, a1, a2, rfl⟩, ?_, 0, by omega, rfl⟩
      cases u with
      | true => exact Or.inr rfl
      | false => exact Or.inl rfl
end SPS
