/-! CHAINS: their masks, their lengths, who is in them -/
section MBC
variable {r k : Nat} {f z : Nat → Int32}
theorem mroom_o (M : MB r f z) (hk : k < r) (u : Int32) : o_X6_roomOf z (Int32.ofNat k) u := by
  have h12 := M.1
  obtain ⟨n1, n2, b, hb, n3⟩ := mnarrow M hk
  have q : ∀ e : Int32, o_X6_roomOf_j45 z (Int32.ofNat k) e := fun e => by
    rw [o_X6_roomOf_j45]
    refine ⟨(ms_z M hk).2, ?_⟩
    split
    · trivial
    · split <;> trivial
  rw [o_X6_roomOf, o_X6_roomOf_j31]
  refine ⟨n2, by rw [n3]; exact (mgap M hb).2, ?_⟩
  split
  · refine ⟨oo2 h12 hk, ?_⟩
    split <;> exact q _
  · refine ⟨oo2 h12 hk, ?_⟩
    split <;> exact q _
theorem bt_orone {m : Int32} {j a : Nat} (hj : j < 12) (ha : a < 12) : bt (m ||| (1 <<< (Int32.ofNat j &&& 31))) a = (bt m a || decide (a = j)) := by
  rw [bt_or, bt_one j (by omega) a (by omega)]
/-- the class's mask beside the reference's counter -/
theorem mchain (M : MB r f z) : ∀ (n2 n1 s k : Nat) (acc x : Int32), k ≤ r → lk_ k x → k < n2 → 12 - s < n1 → s + k ≤ 12 → msk acc → (∀ a : Nat, a < k → bt acc a = false) → msk (f_X2_chainOf_j7 (Int32.ofNat r) f n1 acc x (Int32.ofNat s)) ∧ f_X6_chainOf_j4 z n2 (Int32.ofNat (pcn acc)) x = Int32.ofNat (pcn (f_X2_chainOf_j7 (Int32.ofNat r) f n1 acc x (Int32.ofNat s))) ∧ o_X6_chainOf_j4 z n2 (Int32.ofNat (pcn acc)) x := by
  have h12 := M.1
  intro n2
  induction n2 with
  | zero => intro n1 s k acc x hkr hx hn; omega
  | succ n2 ih =>
    intro n1 s k acc x hkr hx hn hn1 hs hm hb
    cases n1 with
    | zero => omega
    | succ n1 =>
      rw [f_X2_chainOf_j7, f_X6_chainOf_j4, o_X6_chainOf_j4]
      rcases hx with rfl | ⟨j, hj, rfl⟩
      · rw [if_pos pn_m1, if_pos rfl, if_pos rfl, ite_self]
        exact ⟨hm, rfl, trivial⟩
      · have hjr : j < r := by omega
        rw [if_neg (le12 (by omega)), if_neg (pn_nn (by omega)), if_neg (pn_nm (by omega)), if_neg (pn_nm (by omega)), p8_0 h12 hjr, mo0 M hjr, pn_succ, pn_succ]
        have hp := pcn_add (m := acc) (j := j) (by omega) (hb j hj)
        rw [← hp]
        obtain ⟨a1, a2, a3⟩ := ih n1 (s + 1) j (acc ||| (1 <<< (Int32.ofNat j &&& 31))) (f (8 * j)) (by omega) (mlk M hjr) (by omega) (by omega) (by omega) (msk_or hm (by omega)) (fun a ha => by
          rw [bt_orone (by omega) (by omega), hb a (by omega), decide_eq_false (by omega)]
          rfl)
        exact ⟨a1, a2, oo0 h12 hjr, a3⟩
theorem mchainOf (M : MB r f z) (hk : k < r) : msk (f_X2_chainOf (Int32.ofNat r) f (Int32.ofNat k)) ∧ f_X2_chainLength (Int32.ofNat r) f (Int32.ofNat k) = f_X6_chainOf z (Int32.ofNat k) ∧ o_X6_chainOf z (Int32.ofNat k) := by
  have h12 := M.1
  have h := mchain M 1000 13 0 (k + 1) 0 (Int32.ofNat k) (by omega) (lk_self hk) (by omega) (by omega) (by omega) msk_0 (fun a _ => bt_zero a)
  rw [pcn_0] at h
  obtain ⟨a1, a2, a3⟩ := h
  refine ⟨a1, ?_, a3⟩
  rw [f_X2_chainLength, if_pos (i32_le.mpr (pn_nn (by omega)))]
  exact (bc_pcn a1).trans a2.symm
/-- who is in a chain -/
theorem minch (M : MB r f z) (a : Nat) (ha : a < 12) : ∀ (n2 n1 s k : Nat) (acc x : Int32), k ≤ r → lk_ k x → k < n2 → 12 - s < n1 → s + k ≤ 12 → bt (f_X2_chainOf_j7 (Int32.ofNat r) f n1 acc x (Int32.ofNat s)) a = f_X6_isInChain_j5 z (Int32.ofNat a) n2 (bt acc a) x ∧ o_X6_isInChain_j5 z (Int32.ofNat a) n2 (bt acc a) x := by
  have h12 := M.1
  intro n2
  induction n2 with
  | zero => intro n1 s k acc x hkr hx hn; omega
  | succ n2 ih =>
    intro n1 s k acc x hkr hx hn hn1 hs
    cases n1 with
    | zero => omega
    | succ n1 =>
      rw [f_X2_chainOf_j7, f_X6_isInChain_j5, o_X6_isInChain_j5]
      rcases hx with rfl | ⟨j, hj, rfl⟩
      · rw [if_pos pn_m1, if_pos rfl, if_pos rfl, ite_self]
        exact ⟨rfl, trivial⟩
      · have hjr : j < r := by omega
        rw [if_neg (le12 (by omega)), if_neg (pn_nn (by omega)), if_neg (pn_nm (by omega)), if_neg (pn_nm (by omega)), p8_0 h12 hjr, pn_succ, f_X6_isInChain_j21, o_X6_isInChain_j21, f_X6_isInChain_j26, o_X6_isInChain_j26, f_X6_isInChain_j26, o_X6_isInChain_j26, mo0 M hjr]
        have hi := ih n1 (s + 1) j (acc ||| (1 <<< (Int32.ofNat j &&& 31))) (f (8 * j)) (by omega) (mlk M hjr) (by omega) (by omega) (by omega)
        rw [bt_orone (by omega) ha] at hi
        cases hb : bt acc a with
        | true =>
          rw [hb, Bool.true_or] at hi
          rw [if_neg (vb_t rfl), if_neg (vb_t rfl)]
          exact ⟨hi.1, oo0 h12 hjr, hi.2⟩
        | false =>
          rw [hb, Bool.false_or] at hi
          rw [if_pos (vb_f rfl), if_pos (vb_f rfl)]
          by_cases he : j = a
          · subst he
            rw [decide_eq_true rfl] at hi
            rw [if_pos rfl, if_pos rfl]
            exact ⟨hi.1, oo0 h12 hjr, hi.2⟩
          · rw [decide_eq_false (fun q => he q.symm)] at hi
            have hne : ¬ Int32.ofNat j = Int32.ofNat a := fun q => he (pn_inj (by omega) (by omega) q)
            rw [if_neg hne, if_neg hne]
            exact ⟨hi.1, oo0 h12 hjr, hi.2⟩
theorem minchain (M : MB r f z) {a : Nat} (ha : a < 12) (hk : k < r) : bt (f_X2_chainOf (Int32.ofNat r) f (Int32.ofNat k)) a = f_X6_isInChain z (Int32.ofNat a) (Int32.ofNat k) ∧ o_X6_isInChain z (Int32.ofNat a) (Int32.ofNat k) := by
  have h12 := M.1
  have h := minch M a ha 1000 13 0 (k + 1) 0 (Int32.ofNat k) (by omega) (lk_self hk) (by omega) (by omega) (by omega)
  rw [bt_zero] at h
  exact h
/-- the chain of a mandate: itself, and the chain of the one above -/
theorem mich_fuel (M : MB r f z) (a : Int32) : ∀ (n2 n1 k : Nat) (b : Bool) (x : Int32), k ≤ r → lk_ k x → k < n2 → k < n1 → f_X6_isInChain_j5 z a n1 b x = (b || f_X6_isInChain_j5 z a n2 false x) := by
  have h12 := M.1
  intro n2
  induction n2 with
  | zero => intro n1 k b x hkr hx hn; omega
  | succ n2 ih =>
    intro n1 k b x hkr hx hn hn1
    cases n1 with
    | zero => omega
    | succ n1 =>
      rw [f_X6_isInChain_j5, f_X6_isInChain_j5]
      rcases hx with rfl | ⟨j, hj, rfl⟩
      · rw [if_pos rfl, if_pos rfl, Bool.or_false]
      · have hjr : j < r := by omega
        rw [if_neg (pn_nm (by omega)), if_neg (pn_nm (by omega)), f_X6_isInChain_j21, f_X6_isInChain_j21, f_X6_isInChain_j26, f_X6_isInChain_j26, f_X6_isInChain_j26, f_X6_isInChain_j26, mo0 M hjr, if_pos (vb_f rfl : vm_bi false = 0)]
        have hi := fun b => ih n1 j b (f (8 * j)) (by omega) (mlk M hjr) (by omega) (by omega)
        have hi2 := fun b => ih n2 j b (f (8 * j)) (by omega) (mlk M hjr) (by omega)
        cases b with
        | true => rw [if_neg (vb_t rfl), hi true, Bool.true_or, Bool.true_or]
        | false =>
          rw [if_pos (vb_f rfl), Bool.false_or]
          by_cases he : Int32.ofNat j = a
          · rw [if_pos he, if_pos he, hi true, Bool.true_or]
            cases n2 with
            | zero => omega
            | succ n2 => rw [hi2 true (by omega), Bool.true_or]
          · rw [if_neg he, if_neg he, hi false, Bool.false_or]
theorem mich_rec (M : MB r f z) (a : Nat) (ha : a < 12) (hk : k < r) : f_X6_isInChain z (Int32.ofNat a) (Int32.ofNat k) = (decide (k = a) || f_X6_isInChain z (Int32.ofNat a) (f (8 * k))) := by
  have h12 := M.1
  have h1 : f_X6_isInChain z (Int32.ofNat a) (Int32.ofNat k) = f_X6_isInChain_j5 z (Int32.ofNat a) 999 (decide (k = a)) (f (8 * k)) := by
    rw [f_X6_isInChain, f_X6_isInChain_j5, if_neg (pn_nm (by omega)), if_pos (vb_f rfl), f_X6_isInChain_j21, f_X6_isInChain_j26, f_X6_isInChain_j26, mo0 M hk]
    by_cases he : k = a
    · rw [if_pos (by rw [he]), decide_eq_true he]
    · rw [if_neg (fun q => he (pn_inj (by omega) (by omega) q)), decide_eq_false he]
  rw [h1]
  exact mich_fuel M (Int32.ofNat a) 1000 999 k _ _ (by omega) (mlk M hk) (by omega) (by omega)
theorem mich_none (a : Int32) : f_X6_isInChain z a (-1) = false := by
  rw [f_X6_isInChain, f_X6_isInChain_j5, if_pos rfl]
/-- who is in a chain isn't above the chain's own -/
theorem mich_le (M : MB r f z) (a : Nat) (ha : a < 12) : ∀ (b k : Nat), k < b → k < r → f_X6_isInChain z (Int32.ofNat a) (Int32.ofNat k) = true → a ≤ k := by
  have h12 := M.1
  intro b
  induction b with
  | zero => intro k h; omega
  | succ b ih =>
    intro k hb hk h
    rw [mich_rec M a ha hk] at h
    by_cases he : k = a
    · omega
    · rw [decide_eq_false he, Bool.false_or] at h
      rcases mlk M hk with h1 | ⟨j, hj, h1⟩
      · rw [h1, mich_none] at h
        exact absurd h (by decide)
      · rw [h1] at h
        have := ih j (by omega) (by omega) h
        omega
/-- whose chain holds one that stands not, stands not -/
theorem mst_up (M : MB r f z) {j : Nat} (hk : k < r) (hs : f (8 * k + 5) = -1) (hj : j < k) (hu : f (8 * k) = Int32.ofNat j) : f (8 * j + 5) = -1 := (M.2.2 k hk).2.2.2.2.2 hs j hj hu
theorem mich_st (M : MB r f z) (a : Nat) (ha : a < 12) : ∀ (b k : Nat), k < b → k < r → f (8 * k + 5) = -1 → f_X6_isInChain z (Int32.ofNat a) (Int32.ofNat k) = true → f (8 * a + 5) = -1 := by
  have h12 := M.1
  intro b
  induction b with
  | zero => intro k h; omega
  | succ b ih =>
    intro k hb hk hs h
    rw [mich_rec M a ha hk] at h
    by_cases he : k = a
    · rw [← he]; exact hs
    · rw [decide_eq_false he, Bool.false_or] at h
      rcases mlk M hk with h1 | ⟨j, hj, h1⟩
      · rw [h1, mich_none] at h
        exact absurd h (by decide)
      · rw [h1] at h
        exact ih j (by omega) (by omega) (mst_up M hk hs hj h1) h
/-! what lapses -/
theorem ltz {i : Nat} (hr : r ≤ 12) (hi : i < r) : ¬ Int32.ofNat r ≤ Int32.ofNat i := by
  rw [pn_le (by omega) (by omega)]
  omega
theorem lez {i : Nat} (hr : r ≤ 12) (hi : r ≤ i) (h2 : i < 2147483648) : Int32.ofNat r ≤ Int32.ofNat i := by
  rw [pn_le (by omega) h2]
  exact hi
theorem mwl (M : MB r f z) {a : Nat} (ha : a < r) (hst : f (8 * a + 5) = -1) : ∀ (n1 n2 i : Nat) (m : Int32), a < i → i ≤ r → r - i < n1 → r - i < n2 → msk m → (∀ j : Nat, j < 12 → bt m j = (decide (j < i) && (decide (f (8 * j + 5) = -1) && f_X6_isInChain z (Int32.ofNat a) (Int32.ofNat j)))) → f_X2_wouldLapse_j18 (Int32.ofNat r) f n1 m (Int32.ofNat i) = f_X6_standingUnder_j4 z (Int32.ofNat a) n2 m (Int32.ofNat i) ∧ o_X6_standingUnder_j4 z (Int32.ofNat a) n2 m (Int32.ofNat i) ∧ msk (f_X6_standingUnder_j4 z (Int32.ofNat a) n2 m (Int32.ofNat i)) ∧ (∀ j : Nat, j < 12 → bt (f_X6_standingUnder_j4 z (Int32.ofNat a) n2 m (Int32.ofNat i)) j = (decide (j < r) && (decide (f (8 * j + 5) = -1) && f_X6_isInChain z (Int32.ofNat a) (Int32.ofNat j)))) := by
  have h12 := M.1
  intro n1
  induction n1 with
  | zero => intro n2 i m h1 h2 h3; omega
  | succ n1 ih =>
    intro n2 i m h1 h2 h3 h4 hm hb
    cases n2 with
    | zero => omega
    | succ n2 =>
      rw [f_X2_wouldLapse_j18, f_X6_standingUnder_j4, o_X6_standingUnder_j4, f_X2_total, mz3 M]
      by_cases hi : i = r
      · subst hi
        rw [if_pos (lez h12 (Nat.le_refl _) (by omega)), if_pos (lez h12 (Nat.le_refl _) (by omega)), if_pos (lez h12 (Nat.le_refl _) (by omega))]
        exact ⟨rfl, trivial, hm, hb⟩
      · have hir : i < r := by omega
        obtain ⟨s1, s2⟩ := ms_z M hir
        obtain ⟨-, c2⟩ := minchain M (a := a) (by omega) hir
        have c1 := mich_rec M a (by omega) hir
        have hrest : ∀ m2 : Int32, msk m2 → (∀ j : Nat, j < 12 → bt m2 j = (decide (j < i + 1) && (decide (f (8 * j + 5) = -1) && f_X6_isInChain z (Int32.ofNat a) (Int32.ofNat j)))) → _ := fun m2 q1 q2 => ih n2 (i + 1) m2 (by omega) (by omega) (by omega) (by omega) q1 q2
        rw [if_neg (ltz h12 hir), if_neg (ltz h12 hir), if_neg (ltz h12 hir), ms_e M hir, f_X2_wouldLapse_j56, f_X2_wouldLapse_j56, f_X6_standingUnder_j38, o_X6_standingUnder_j38, f_X6_standingUnder_j39, o_X6_standingUnder_j39, f_X6_standingUnder_j39, o_X6_standingUnder_j39, pn_succ, Int32.or_zero, p8_0 h12 hir, s1]
        have hno : (decide (f (8 * i + 5) = -1) && f_X6_isInChain z (Int32.ofNat a) (Int32.ofNat i)) = false → ∀ j : Nat, j < 12 → bt m j = (decide (j < i + 1) && (decide (f (8 * j + 5) = -1) && f_X6_isInChain z (Int32.ofNat a) (Int32.ofNat j))) := fun hno j hj => by
          rw [hb j hj]
          by_cases hji : j = i
          · subst hji; rw [hno, Bool.and_false, Bool.and_false]
          · congr 1
            by_cases h : j < i
            · rw [decide_eq_true h, decide_eq_true (by omega)]
            · rw [decide_eq_false h, decide_eq_false (by omega)]
        by_cases hsi : f (8 * i + 5) = -1
        · rw [decide_eq_true hsi, if_neg (vb_t rfl), if_neg (vb_t rfl), if_neg (vb_t rfl)]
          -- is the one above among them?
          have hup : f_X2_isIn m (f (8 * i)) = f_X6_isInChain z (Int32.ofNat a) (Int32.ofNat i) := by
            rw [c1, decide_eq_false (by omega), Bool.false_or]
            rcases mlk M hir with hu | ⟨u, hu, hue⟩
            · rw [hu, mich_none, f_X2_isIn, if_pos pn_m1]
            · rw [hue, bt_isIn (by omega), hb u (by omega), decide_eq_true hu, Bool.true_and, decide_eq_true (mst_up M hir hsi hu hue), Bool.true_and]
          rw [hup]
          cases hc : f_X6_isInChain z (Int32.ofNat a) (Int32.ofNat i) with
          | false =>
            rw [if_pos (vb_f rfl), if_pos (vb_f rfl), if_pos (vb_f rfl)]
            obtain ⟨a1, a2, a3, a4⟩ := hrest m hm (hno (by rw [hc, Bool.and_false]))
            exact ⟨a1, ⟨s2, c2, a2⟩, a3, a4⟩
          | true =>
            rw [if_neg (vb_t rfl), if_neg (vb_t rfl), if_neg (vb_t rfl)]
            obtain ⟨a1, a2, a3, a4⟩ := hrest (m ||| (1 <<< (Int32.ofNat i &&& 31))) (msk_or hm (by omega)) (fun j hj => by
              rw [bt_orone (by omega) (by omega), hb j hj]
              by_cases hji : j = i
              · subst hji
                rw [decide_eq_true rfl, Bool.or_true, decide_eq_true (by omega), decide_eq_true hsi, hc]
                rfl
              · rw [decide_eq_false hji, Bool.or_false]
                congr 1
                by_cases h : j < i
                · rw [decide_eq_true h, decide_eq_true (by omega)]
                · rw [decide_eq_false h, decide_eq_false (by omega)])
            exact ⟨a1, ⟨s2, c2, a2⟩, a3, a4⟩
        · rw [decide_eq_false hsi, if_pos (vb_f rfl), if_pos (vb_f rfl), if_pos (vb_f rfl)]
          obtain ⟨a1, a2, a3, a4⟩ := hrest m hm (hno (by rw [decide_eq_false hsi, Bool.false_and]))
          exact ⟨a1, ⟨s2, a2⟩, a3, a4⟩
/-- below the mandate itself there is nobody -/
theorem msu0 (M : MB r f z) {a : Nat} (ha : a < r) (n : Nat) : ∀ (d i : Nat), i + d = a → f_X6_standingUnder_j4 z (Int32.ofNat a) (d + n) 0 (Int32.ofNat i) = f_X6_standingUnder_j4 z (Int32.ofNat a) n 0 (Int32.ofNat a) ∧ (o_X6_standingUnder_j4 z (Int32.ofNat a) n 0 (Int32.ofNat a) → o_X6_standingUnder_j4 z (Int32.ofNat a) (d + n) 0 (Int32.ofNat i)) := by
  have h12 := M.1
  intro d
  induction d with
  | zero =>
    intro i hi
    have : i = a := by omega
    subst this
    rw [Nat.zero_add]
    exact ⟨rfl, id⟩
  | succ d ih =>
    intro i hi
    have hir : i < r := by omega
    obtain ⟨s1, s2⟩ := ms_z M hir
    obtain ⟨-, c2⟩ := minchain M (a := a) (by omega) hir
    have hc : f_X6_isInChain z (Int32.ofNat a) (Int32.ofNat i) = false := by
      cases hc : f_X6_isInChain z (Int32.ofNat a) (Int32.ofNat i) with
      | false => rfl
      | true =>
        have := mich_le M a (by omega) (i + 1) i (by omega) hir hc
        omega
    obtain ⟨a1, a2⟩ := ih (i + 1) (by omega)
    rw [show d + 1 + n = (d + n) + 1 by omega, f_X6_standingUnder_j4, o_X6_standingUnder_j4, mz3 M, if_neg (ltz h12 hir), if_neg (ltz h12 hir), f_X6_standingUnder_j38, o_X6_standingUnder_j38, f_X6_standingUnder_j39, o_X6_standingUnder_j39, f_X6_standingUnder_j39, o_X6_standingUnder_j39, pn_succ, Int32.or_zero, hc, if_pos (vb_f rfl : vm_bi false = 0), if_pos (vb_f rfl : vm_bi false = 0), ite_self]
    refine ⟨a1, fun q => ⟨s2, ?_⟩⟩
    split
    · exact a2 q
    · exact ⟨c2, a2 q⟩
theorem toI {i : Nat} (h : i < 2147483648) : ((Int32.ofNat i).toInt - (0 : Int32).toInt).toNat = i := by
  rw [pn_toInt h, show (0 : Int32).toInt = 0 from rfl]
  omega
theorem toI2 {i j : Nat} (h : i < 2147483648) (h2 : j < 2147483648) : ((Int32.ofNat i).toInt - (Int32.ofNat j).toInt).toNat = i - j := by
  rw [pn_toInt h, pn_toInt h2]
  omega
/-- the mandates that would lapse -/
theorem mlapse (M : MB r f z) (hk : k < r) : f_X2_wouldLapse (Int32.ofNat r) f (Int32.ofNat k) = f_X6_lapsing z (Int32.ofNat k) ∧ o_X6_standingUnder z (Int32.ofNat k) ∧ msk (f_X6_standingUnder z (Int32.ofNat k)) ∧ (∀ j : Nat, j < 12 → bt (f_X6_standingUnder z (Int32.ofNat k)) j = (decide (j < r) && (decide (f (8 * j + 5) = -1) && f_X6_isInChain z (Int32.ofNat k) (Int32.ofNat j)))) := by
  have h12 := M.1
  obtain ⟨s1, s2⟩ := ms_z M hk
  obtain ⟨-, c2⟩ := minchain M (a := k) (by omega) hk
  have c1 : f_X6_isInChain z (Int32.ofNat k) (Int32.ofNat k) = true := by rw [mich_rec M k (by omega) hk, decide_eq_true rfl, Bool.true_or]
  obtain ⟨u1, u2⟩ := msu0 M hk (r - k + 1) k 0 (by omega)
  have hu : f_X6_standingUnder z (Int32.ofNat k) = f_X6_standingUnder_j4 z (Int32.ofNat k) (k + (r - k + 1)) 0 (Int32.ofNat 0) := by
    rw [f_X6_standingUnder, mz3 M, toI (by omega), show k + (r - k + 1) = r + 1 by omega]
    rfl
  have huo : o_X6_standingUnder z (Int32.ofNat k) = o_X6_standingUnder_j4 z (Int32.ofNat k) (k + (r - k + 1)) 0 (Int32.ofNat 0) := by
    rw [o_X6_standingUnder, mz3 M, toI (by omega), show k + (r - k + 1) = r + 1 by omega]
    rfl
  have hbt : ∀ m : Int32, (∀ j : Nat, j < 12 → j < k → bt m j = false) → (∀ j : Nat, j < 12 → k < j → bt m j = false) → bt m k = decide (f (8 * k + 5) = -1) → ∀ j : Nat, j < 12 → bt m j = (decide (j < k + 1) && (decide (f (8 * j + 5) = -1) && f_X6_isInChain z (Int32.ofNat k) (Int32.ofNat j))) := fun m q1 q2 q3 j hj => by
    rcases Nat.lt_trichotomy j k with h | h | h
    · have hc : f_X6_isInChain z (Int32.ofNat k) (Int32.ofNat j) = false := by
        cases hc : f_X6_isInChain z (Int32.ofNat k) (Int32.ofNat j) with
        | false => rfl
        | true =>
          have := mich_le M k (by omega) (j + 1) j (by omega) (by omega) hc
          omega
      rw [q1 j hj h, hc, Bool.and_false, Bool.and_false]
    · subst h
      rw [q3, c1, Bool.and_true, decide_eq_true (by omega : j < j + 1), Bool.true_and]
    · rw [q2 j hj h, decide_eq_false (by omega), Bool.false_and]
  have hstep : f_X6_standingUnder_j4 z (Int32.ofNat k) (r - k + 1) 0 (Int32.ofNat k) = (if vm_bi (decide (f (8 * k + 5) = -1)) = 0 then f_X6_standingUnder_j4 z (Int32.ofNat k) (r - k) 0 (Int32.ofNat (k + 1)) else f_X6_standingUnder_j4 z (Int32.ofNat k) (r - k) (1 <<< (Int32.ofNat k &&& 31)) (Int32.ofNat (k + 1))) := by
    rw [f_X6_standingUnder_j4, mz3 M, if_neg (ltz h12 hk), f_X6_standingUnder_j38, f_X6_standingUnder_j39, f_X6_standingUnder_j39, pn_succ, Int32.or_zero, Int32.zero_or, c1, if_neg (vb_t rfl : ¬ vm_bi true = 0), s1]
  have hstepo : o_X6_standingUnder_j4 z (Int32.ofNat k) (r - k + 1) 0 (Int32.ofNat k) = (o_X6_stands z (Int32.ofNat k) ∧ (if vm_bi (decide (f (8 * k + 5) = -1)) = 0 then o_X6_standingUnder_j4 z (Int32.ofNat k) (r - k) 0 (Int32.ofNat (k + 1)) else o_X6_isInChain z (Int32.ofNat k) (Int32.ofNat k) ∧ o_X6_standingUnder_j4 z (Int32.ofNat k) (r - k) (1 <<< (Int32.ofNat k &&& 31)) (Int32.ofNat (k + 1)))) := by
    rw [o_X6_standingUnder_j4, mz3 M, if_neg (ltz h12 hk), o_X6_standingUnder_j38, o_X6_standingUnder_j39, o_X6_standingUnder_j39, pn_succ, Int32.or_zero, Int32.zero_or, c1, if_neg (vb_t rfl : ¬ vm_bi true = 0), s1]
  rw [f_X2_wouldLapse, f_X2_total, f_X6_lapsing, ms_e M hk, s1]
  by_cases hst : f (8 * k + 5) = -1
  · obtain ⟨a1, a2, a3, a4⟩ := mwl M hk hst (r - (k + 1) + 1) (r - k) (k + 1) (1 <<< (Int32.ofNat k &&& 31)) (by omega) (by omega) (by omega) (by omega) (by
      have := msk_or msk_0 (j := k) (by omega)
      rwa [Int32.zero_or] at this) (hbt _ (fun j hj hjk => by rw [bt_one k (by omega) j (by omega), decide_eq_false (by omega)]) (fun j hj hjk => by rw [bt_one k (by omega) j (by omega), decide_eq_false (by omega)]) (by rw [bt_one k (by omega) k (by omega), decide_eq_true rfl, decide_eq_true hst]))
    rw [decide_eq_true hst, if_neg (vb_t rfl)] at hstep hstepo
    rw [decide_eq_true hst, if_neg (vb_t rfl), if_neg (vb_t rfl), pn_succ, toI2 (by omega) (by omega), huo, hu, u1, hstep]
    refine ⟨a1, u2 ?_, a3, a4⟩
    rw [hstepo]
    exact ⟨s2, c2, a2⟩
  · -- it doesn't stand: nobody under it does
    have hno : ∀ j : Nat, j < r → (decide (f (8 * j + 5) = -1) && f_X6_isInChain z (Int32.ofNat k) (Int32.ofNat j)) = false := fun j hj => by
      by_cases h5 : f (8 * j + 5) = -1
      · cases hc : f_X6_isInChain z (Int32.ofNat k) (Int32.ofNat j) with
        | false => rw [Bool.and_false]
        | true => exact absurd (mich_st M k (by omega) (j + 1) j (by omega) hj h5 hc) hst
      · rw [decide_eq_false h5, Bool.false_and]
    have hz : ∀ (n d i : Nat), i + d = r → d < n → f_X6_standingUnder_j4 z (Int32.ofNat k) n 0 (Int32.ofNat i) = 0 ∧ o_X6_standingUnder_j4 z (Int32.ofNat k) n 0 (Int32.ofNat i) := by
      intro n
      induction n with
      | zero => intro d i _ h; omega
      | succ n ih =>
        intro d i hi hd
        rw [f_X6_standingUnder_j4, o_X6_standingUnder_j4, mz3 M]
        by_cases hir : i = r
        · subst hir
          rw [if_pos (lez h12 (Nat.le_refl _) (by omega)), if_pos (lez h12 (Nat.le_refl _) (by omega))]
          exact ⟨rfl, trivial⟩
        · have hir2 : i < r := by omega
          obtain ⟨t1, t2⟩ := ms_z M hir2
          obtain ⟨-, d2⟩ := minchain M (a := k) (by omega) hir2
          obtain ⟨b1, b2⟩ := ih (d - 1) (i + 1) (by omega) (by omega)
          have hq := hno i hir2
          rw [if_neg (ltz h12 hir2), if_neg (ltz h12 hir2), t1, f_X6_standingUnder_j38, o_X6_standingUnder_j38, f_X6_standingUnder_j39, o_X6_standingUnder_j39, f_X6_standingUnder_j39, o_X6_standingUnder_j39, pn_succ, Int32.or_zero]
          by_cases h5 : f (8 * i + 5) = -1
          · rw [decide_eq_true h5, Bool.true_and] at hq
            rw [decide_eq_true h5, if_neg (vb_t rfl), if_neg (vb_t rfl), hq, if_pos (vb_f rfl : vm_bi false = 0), if_pos (vb_f rfl : vm_bi false = 0)]
            exact ⟨b1, t2, d2, b2⟩
          · rw [decide_eq_false h5, if_pos (vb_f rfl), if_pos (vb_f rfl)]
            exact ⟨b1, t2, b2⟩
    have hzz := hz (k + (r - k + 1)) r 0 (by omega) (by omega)
    rw [decide_eq_false hst, if_pos (vb_f rfl), if_pos (vb_f rfl), huo, hu, hzz.1]
    refine ⟨rfl, hzz.2, msk_0, fun j hj => ?_⟩
    rw [bt_zero]
    by_cases hjr : j < r
    · rw [hno j hjr, Bool.and_false]
    · rw [decide_eq_false hjr, Bool.false_and]
theorem mlapsing_o (M : MB r f z) (hk : k < r) : o_X6_lapsing z (Int32.ofNat k) := by
  rw [o_X6_lapsing]
  refine ⟨(ms_z M hk).2, ?_⟩
  split
  · trivial
  · exact ⟨(mlapse M hk).2.1, trivial⟩
/-- how many stand under it -/
theorem munder (M : MB r f z) (hk : k < r) : f_X2_standingUnder (Int32.ofNat r) f (Int32.ofNat k) = f_X6_ones ((f_X6_standingUnder z (Int32.ofNat k)) &&& ((1 <<< (Int32.ofNat k &&& 31)) ^^^ (-1))) := by
  have h12 := M.1
  obtain ⟨a1, a2, a3, a4⟩ := mlapse M hk
  have c1 : f_X6_isInChain z (Int32.ofNat k) (Int32.ofNat k) = true := by rw [mich_rec M k (by omega) hk, decide_eq_true rfl, Bool.true_or]
  have hb := a4 k (by omega)
  rw [c1, Bool.and_true, decide_eq_true hk, Bool.true_and] at hb
  rw [f_X2_standingUnder, a1, f_X6_lapsing, (ms_z M hk).1, on_pcn]
  by_cases hst : f (8 * k + 5) = -1
  · rw [decide_eq_true hst] at hb
    have hp := pcn_sub (by omega) hb
    have hle := pcn_le (f_X6_standingUnder z (Int32.ofNat k))
    rw [decide_eq_true hst, if_neg (vb_t rfl), bc_pcn a3]
    generalize pcn ((f_X6_standingUnder z (Int32.ofNat k)) &&& ((1 <<< (Int32.ofNat k &&& 31)) ^^^ (-1))) = w at hp
    rw [← hp]
    have e1 : Int32.ofNat (w + 1) - 1 = Int32.ofNat w := by
      rw [Int32.ofNat_add]
      exact Int32.add_sub_cancel _ _
    rw [e1]
    by_cases hw : w = 0
    · subst hw; rfl
    · rw [if_pos (by rw [show (0 : Int32) = Int32.ofNat 0 from rfl, pn_lt (by omega) (by omega)]; omega)]
  · rw [decide_eq_false hst] at hb
    rw [decide_eq_false hst, if_pos (vb_f rfl)]
    -- the mask has no place at all
    have hnone : ∀ j : Nat, j < 12 → bt (f_X6_standingUnder z (Int32.ofNat k)) j = false := fun j hj => by
      rw [a4 j hj]
      by_cases hjr : j < r
      · rw [decide_eq_true hjr, Bool.true_and]
        by_cases h5 : f (8 * j + 5) = -1
        · cases hc : f_X6_isInChain z (Int32.ofNat k) (Int32.ofNat j) with
          | false => rw [Bool.and_false]
          | true => exact absurd (mich_st M k (by omega) (j + 1) j (by omega) hjr h5 hc) hst
        · rw [decide_eq_false h5, Bool.false_and]
      · rw [decide_eq_false hjr, Bool.false_and]
    unfold pcn
    rw [bt_and, bt_and, bt_and, bt_and, bt_and, bt_and, bt_and, bt_and, bt_and, bt_and, bt_and, bt_and, hnone 0 (by decide), hnone 1 (by decide), hnone 2 (by decide), hnone 3 (by decide), hnone 4 (by decide), hnone 5 (by decide), hnone 6 (by decide), hnone 7 (by decide), hnone 8 (by decide), hnone 9 (by decide), hnone 10 (by decide), hnone 11 (by decide)]
    rfl
end MBC
