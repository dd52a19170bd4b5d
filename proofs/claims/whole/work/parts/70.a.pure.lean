/-! PURE: ints as numbers, rows as tables, chains as lists -/
theorem pn_toInt {k : Nat} (h : k < 2147483648) : (Int32.ofNat k).toInt = (k : Int) := Int32.toInt_ofNat_of_lt h
theorem pn_clamp {k : Nat} (h : k < 2147483648) : Int32.toNatClampNeg (Int32.ofNat k) = k := by
  show (Int32.ofNat k).toInt.toNat = k
  rw [pn_toInt h]
  rfl
theorem pn_lt {a b : Nat} (ha : a < 2147483648) (hb : b < 2147483648) : (Int32.ofNat a < Int32.ofNat b) ↔ (a < b) := by
  rw [Int32.lt_iff_toInt_lt, pn_toInt ha, pn_toInt hb]
  omega
theorem pn_le {a b : Nat} (ha : a < 2147483648) (hb : b < 2147483648) : (Int32.ofNat a ≤ Int32.ofNat b) ↔ (a ≤ b) := by
  rw [Int32.le_iff_toInt_le, pn_toInt ha, pn_toInt hb]
  omega
theorem pn_inj {a b : Nat} (ha : a < 2147483648) (hb : b < 2147483648) (h : Int32.ofNat a = Int32.ofNat b) : a = b := by
  have := congrArg Int32.toInt h
  rw [pn_toInt ha, pn_toInt hb] at this
  omega
theorem pn_add (a b : Nat) : Int32.ofNat a + Int32.ofNat b = Int32.ofNat (a + b) := (Int32.ofNat_add a b).symm
theorem pn_mul (a b : Nat) : Int32.ofNat a * Int32.ofNat b = Int32.ofNat (a * b) := (Int32.ofNat_mul a b).symm
theorem pn_succ (a : Nat) : Int32.ofNat a + 1 = Int32.ofNat (a + 1) := (Int32.ofNat_add a 1).symm
theorem pn_nn {a : Nat} (h : a < 2147483648) : ¬ Int32.ofNat a < 0 := by
  rw [Int32.lt_iff_toInt_lt, pn_toInt h]
  have : (0 : Int32).toInt = 0 := rfl
  omega
theorem pn_nm {a : Nat} (h : a < 2147483648) : ¬ Int32.ofNat a = -1 := by
  intro e
  have := congrArg Int32.toInt e
  rw [pn_toInt h] at this
  have h1 : (-1 : Int32).toInt = -1 := rfl
  omega
theorem pn_of {x : Int32} (h : ¬ x < 0) : ∃ k : Nat, k < 2147483648 ∧ x = Int32.ofNat k := by
  have h0 : (0 : Int32).toInt = 0 := rfl
  rw [Int32.lt_iff_toInt_lt, h0] at h
  have h1 := x.toInt_lt
  refine ⟨x.toInt.toNat, by omega, ?_⟩
  apply Int32.toInt_inj.mp
  rw [pn_toInt (by omega)]
  omega
/-- an index of a table -/
theorem pn_ix {x : Int32} {r : Nat} (hr : r < 2147483648) (h : ¬ x < 0) (h2 : ¬ Int32.ofNat r ≤ x) : ∃ k : Nat, k < r ∧ x = Int32.ofNat k := by
  obtain ⟨k, hk, rfl⟩ := pn_of h
  rw [pn_le hr hk] at h2
  exact ⟨k, by omega, rfl⟩
/-- the class's tables -/
theorem pg_8 {r k c : Nat} {f : Nat → Int32} (hr : r ≤ 12) (hk : k < r) (hc : c < 8) : f_X3_get 8 (Int32.ofNat r) 96 f (Int32.ofNat k) (Int32.ofNat c) = f (8 * k + c) := by
  have e8 : (8 : Int32) = Int32.ofNat 8 := rfl
  have e : Int32.ofNat k * (8 : Int32) + Int32.ofNat c = Int32.ofNat (8 * k + c) := by rw [e8, pn_mul, pn_add, Nat.mul_comm]
  rw [f_X3_get, if_neg (pn_nn (by omega)), if_neg (by rw [pn_le (by omega) (by omega)]; omega), if_neg (pn_nn (by omega)), if_pos (by rw [e8, pn_lt (by omega) (by omega)]; omega), e, if_neg (pn_nn (by omega)), if_neg (by rw [pn_le (by omega) (by omega)]; omega), pn_clamp (by omega)]
theorem pp_8 {r k c : Nat} {f : Nat → Int32} {v : Int32} (hr : r ≤ 12) (hk : k < r) (hc : c < 8) : f_X3_put 8 (Int32.ofNat r) 96 f (Int32.ofNat k) (Int32.ofNat c) v = upd f (8 * k + c) v := by
  have e8 : (8 : Int32) = Int32.ofNat 8 := rfl
  have e : Int32.ofNat k * (8 : Int32) + Int32.ofNat c = Int32.ofNat (8 * k + c) := by rw [e8, pn_mul, pn_add, Nat.mul_comm]
  rw [f_X3_put, if_neg (pn_nn (by omega)), if_neg (by rw [pn_le (by omega) (by omega)]; omega), if_neg (pn_nn (by omega)), if_pos (by rw [e8, pn_lt (by omega) (by omega)]; omega), e, if_neg (pn_nn (by omega)), if_neg (by rw [pn_le (by omega) (by omega)]; omega), pn_clamp (by omega)]
theorem pg_6 {r k c : Nat} {f : Nat → Int32} (hr : r ≤ 6) (hk : k < r) (hc : c < 6) : f_X3_get 6 (Int32.ofNat r) 36 f (Int32.ofNat k) (Int32.ofNat c) = f (6 * k + c) := by
  have e8 : (6 : Int32) = Int32.ofNat 6 := rfl
  have e : Int32.ofNat k * (6 : Int32) + Int32.ofNat c = Int32.ofNat (6 * k + c) := by rw [e8, pn_mul, pn_add, Nat.mul_comm]
  rw [f_X3_get, if_neg (pn_nn (by omega)), if_neg (by rw [pn_le (by omega) (by omega)]; omega), if_neg (pn_nn (by omega)), if_pos (by rw [e8, pn_lt (by omega) (by omega)]; omega), e, if_neg (pn_nn (by omega)), if_neg (by rw [pn_le (by omega) (by omega)]; omega), pn_clamp (by omega)]
theorem pp_6 {r k c : Nat} {f : Nat → Int32} {v : Int32} (hr : r ≤ 6) (hk : k < r) (hc : c < 6) : f_X3_put 6 (Int32.ofNat r) 36 f (Int32.ofNat k) (Int32.ofNat c) v = upd f (6 * k + c) v := by
  have e8 : (6 : Int32) = Int32.ofNat 6 := rfl
  have e : Int32.ofNat k * (6 : Int32) + Int32.ofNat c = Int32.ofNat (6 * k + c) := by rw [e8, pn_mul, pn_add, Nat.mul_comm]
  rw [f_X3_put, if_neg (pn_nn (by omega)), if_neg (by rw [pn_le (by omega) (by omega)]; omega), if_neg (pn_nn (by omega)), if_pos (by rw [e8, pn_lt (by omega) (by omega)]; omega), e, if_neg (pn_nn (by omega)), if_neg (by rw [pn_le (by omega) (by omega)]; omega), pn_clamp (by omega)]
/-- the chain from a link on, by the uppers u -/
def ch_ (u : Nat → Int32) : Nat → Int32 → List Nat
  | 0, _ => []
  | n + 1, x => if x < 0 then [] else Int32.toNatClampNeg x :: ch_ u n (u (Int32.toNatClampNeg x))
/-- a link: none, or a mandate below k -/
def lk_ (k : Nat) (x : Int32) : Prop := x = -1 ∨ ∃ j : Nat, j < k ∧ x = Int32.ofNat j
def wu_ (r : Nat) (u : Nat → Int32) : Prop := ∀ k : Nat, k < r → lk_ k (u k)
theorem lk_mono {a b : Nat} {x : Int32} (h : lk_ a x) (hab : a ≤ b) : lk_ b x := by
  rcases h with h | ⟨j, hj, h⟩
  · exact Or.inl h
  · exact Or.inr ⟨j, by omega, h⟩
theorem pn_m1 : (-1 : Int32) < 0 := by decide
theorem ch_nil (u : Nat → Int32) (n : Nat) : ch_ u n (-1) = [] := by
  cases n with
  | zero => rfl
  | succ n => rw [ch_, if_pos pn_m1]
theorem ch_cons {u : Nat → Int32} {n k : Nat} (hk : k < 2147483648) : ch_ u (n + 1) (Int32.ofNat k) = k :: ch_ u n (u k) := by
  rw [ch_, if_neg (pn_nn hk), pn_clamp hk]
/-- more fuel than links says nothing new -/
theorem ch_more {r : Nat} {u : Nat → Int32} (hr : r ≤ 12) (hu : wu_ r u) : ∀ (n k a : Nat) (x : Int32), k ≤ r → lk_ k x → k ≤ n → ch_ u (n + a) x = ch_ u n x := by
  intro n
  induction n with
  | zero =>
    intro k a x hk hx hn
    rcases hx with rfl | ⟨j, hj, rfl⟩
    · rw [ch_nil, ch_nil]
    · omega
  | succ n ih =>
    intro k a x hk hx hn
    rcases hx with rfl | ⟨j, hj, rfl⟩
    · rw [ch_nil, ch_nil]
    · rw [show n + 1 + a = (n + a) + 1 by omega, ch_cons (by omega), ch_cons (by omega), ih j a (u j) (by omega) (hu j (by omega)) (by omega)]
/-- what stands in a chain: below the link's bound, each less than the one ahead -/
theorem ch_lt {r : Nat} {u : Nat → Int32} (hr : r ≤ 12) (hu : wu_ r u) : ∀ (n k : Nat) (x : Int32), k ≤ r → lk_ k x → ∀ j ∈ ch_ u n x, j < k := by
  intro n
  induction n with
  | zero => intro k x hk hx j hj; cases hj
  | succ n ih =>
    intro k x hk hx j hj
    rcases hx with rfl | ⟨i, hi, rfl⟩
    · rw [ch_nil] at hj; cases hj
    · rw [ch_cons (by omega)] at hj
      rcases List.mem_cons.mp hj with rfl | hj
      · exact hi
      · have := ih i (u i) (by omega) (hu i (by omega)) j hj
        omega
theorem ch_nodup {r : Nat} {u : Nat → Int32} (hr : r ≤ 12) (hu : wu_ r u) : ∀ (n k : Nat) (x : Int32), k ≤ r → lk_ k x → (ch_ u n x).Nodup := by
  intro n
  induction n with
  | zero => intro k x hk hx; exact List.nodup_nil
  | succ n ih =>
    intro k x hk hx
    rcases hx with rfl | ⟨i, hi, rfl⟩
    · rw [ch_nil]; exact List.nodup_nil
    · rw [ch_cons (by omega)]
      refine List.nodup_cons.mpr ⟨fun h => ?_, ih i (u i) (by omega) (hu i (by omega))⟩
      have := ch_lt hr hu n i (u i) (by omega) (hu i (by omega)) i h
      omega
/-- the class's table read at its columns -/
theorem p8_0 {r k : Nat} {f : Nat → Int32} (hr : r ≤ 12) (hk : k < r) : f_X3_get 8 (Int32.ofNat r) 96 f (Int32.ofNat k) 0 = f (8 * k) := pg_8 (c := 0) hr hk (by omega)
theorem p8_1 {r k : Nat} {f : Nat → Int32} (hr : r ≤ 12) (hk : k < r) : f_X3_get 8 (Int32.ofNat r) 96 f (Int32.ofNat k) 1 = f (8 * k + 1) := pg_8 (c := 1) hr hk (by omega)
theorem p8_2 {r k : Nat} {f : Nat → Int32} (hr : r ≤ 12) (hk : k < r) : f_X3_get 8 (Int32.ofNat r) 96 f (Int32.ofNat k) 2 = f (8 * k + 2) := pg_8 (c := 2) hr hk (by omega)
theorem p8_3 {r k : Nat} {f : Nat → Int32} (hr : r ≤ 12) (hk : k < r) : f_X3_get 8 (Int32.ofNat r) 96 f (Int32.ofNat k) 3 = f (8 * k + 3) := pg_8 (c := 3) hr hk (by omega)
theorem p8_4 {r k : Nat} {f : Nat → Int32} (hr : r ≤ 12) (hk : k < r) : f_X3_get 8 (Int32.ofNat r) 96 f (Int32.ofNat k) 4 = f (8 * k + 4) := pg_8 (c := 4) hr hk (by omega)
theorem p8_5 {r k : Nat} {f : Nat → Int32} (hr : r ≤ 12) (hk : k < r) : f_X3_get 8 (Int32.ofNat r) 96 f (Int32.ofNat k) 5 = f (8 * k + 5) := pg_8 (c := 5) hr hk (by omega)
theorem p8_6 {r k : Nat} {f : Nat → Int32} (hr : r ≤ 12) (hk : k < r) : f_X3_get 8 (Int32.ofNat r) 96 f (Int32.ofNat k) 6 = f (8 * k + 6) := pg_8 (c := 6) hr hk (by omega)
theorem p8_7 {r k : Nat} {f : Nat → Int32} (hr : r ≤ 12) (hk : k < r) : f_X3_get 8 (Int32.ofNat r) 96 f (Int32.ofNat k) 7 = f (8 * k + 7) := pg_8 (c := 7) hr hk (by omega)
theorem p6_0 {r k : Nat} {f : Nat → Int32} (hr : r ≤ 6) (hk : k < r) : f_X3_get 6 (Int32.ofNat r) 36 f (Int32.ofNat k) 0 = f (6 * k) := pg_6 (c := 0) hr hk (by omega)
theorem p6_1 {r k : Nat} {f : Nat → Int32} (hr : r ≤ 6) (hk : k < r) : f_X3_get 6 (Int32.ofNat r) 36 f (Int32.ofNat k) 1 = f (6 * k + 1) := pg_6 (c := 1) hr hk (by omega)
theorem p6_2 {r k : Nat} {f : Nat → Int32} (hr : r ≤ 6) (hk : k < r) : f_X3_get 6 (Int32.ofNat r) 36 f (Int32.ofNat k) 2 = f (6 * k + 2) := pg_6 (c := 2) hr hk (by omega)
theorem p6_3 {r k : Nat} {f : Nat → Int32} (hr : r ≤ 6) (hk : k < r) : f_X3_get 6 (Int32.ofNat r) 36 f (Int32.ofNat k) 3 = f (6 * k + 3) := pg_6 (c := 3) hr hk (by omega)
theorem p6_4 {r k : Nat} {f : Nat → Int32} (hr : r ≤ 6) (hk : k < r) : f_X3_get 6 (Int32.ofNat r) 36 f (Int32.ofNat k) 4 = f (6 * k + 4) := pg_6 (c := 4) hr hk (by omega)
theorem p6_5 {r k : Nat} {f : Nat → Int32} (hr : r ≤ 6) (hk : k < r) : f_X3_get 6 (Int32.ofNat r) 36 f (Int32.ofNat k) 5 = f (6 * k + 5) := pg_6 (c := 5) hr hk (by omega)
/-- the reference's row read and written -/
theorem pz_of {z : Nat → Int32} {k c : Nat} (hk : k < 12) (hc : c < 9) : f_X6_of z (Int32.ofNat k) (Int32.ofNat c) = z (19 + 9 * k + c) := by
  have e9 : (9 : Int32) = Int32.ofNat 9 := rfl
  have e19 : (19 : Int32) = Int32.ofNat 19 := rfl
  rw [f_X6_of, e9, e19, pn_mul, pn_add, pn_add, pn_clamp (by omega)]
theorem pz_vp {i n : Nat} (h : i < n) (hn : n < 2147483648) : vp_in (Int32.ofNat i) n := by
  rintro (h1 | h1)
  · exact pn_nn (by omega) h1
  · rw [pn_clamp (by omega)] at h1; omega
theorem pz_oof {z : Nat → Int32} {k c : Nat} (hk : k < 12) (hc : c < 9) : o_X6_of z (Int32.ofNat k) (Int32.ofNat c) := by
  have e9 : (9 : Int32) = Int32.ofNat 9 := rfl
  have e19 : (19 : Int32) = Int32.ofNat 19 := rfl
  rw [o_X6_of, e9, e19, pn_mul, pn_add, pn_add]
  exact ⟨pz_vp (by omega) (by omega), trivial⟩
theorem pz_put {z : Nat → Int32} {k c : Nat} {v : Int32} (hk : k < 12) (hc : c < 9) : f_X6_put z (Int32.ofNat k) (Int32.ofNat c) v = upd z (19 + 9 * k + c) v := by
  have e9 : (9 : Int32) = Int32.ofNat 9 := rfl
  have e19 : (19 : Int32) = Int32.ofNat 19 := rfl
  rw [f_X6_put, e9, e19, pn_mul, pn_add, pn_add, pn_clamp (by omega)]
theorem pz_oput {z : Nat → Int32} {k c : Nat} {v : Int32} (hk : k < 12) (hc : c < 9) : o_X6_put z (Int32.ofNat k) (Int32.ofNat c) v := by
  have e9 : (9 : Int32) = Int32.ofNat 9 := rfl
  have e19 : (19 : Int32) = Int32.ofNat 19 := rfl
  rw [o_X6_put, e9, e19, pn_mul, pn_add, pn_add]
  exact ⟨pz_vp (by omega) (by omega), trivial⟩
theorem pz_ofr {z : Nat → Int32} {k c : Nat} (hk : k < 6) (hc : c < 6) : f_X6_ofRequest z (Int32.ofNat k) (Int32.ofNat c) = z (127 + 6 * k + c) := by
  have e9 : (6 : Int32) = Int32.ofNat 6 := rfl
  have e19 : (127 : Int32) = Int32.ofNat 127 := rfl
  rw [f_X6_ofRequest, e9, e19, pn_mul, pn_add, pn_add, pn_clamp (by omega)]
theorem pz_oofr {z : Nat → Int32} {k c : Nat} (hk : k < 6) (hc : c < 6) : o_X6_ofRequest z (Int32.ofNat k) (Int32.ofNat c) := by
  have e9 : (6 : Int32) = Int32.ofNat 6 := rfl
  have e19 : (127 : Int32) = Int32.ofNat 127 := rfl
  rw [o_X6_ofRequest, e9, e19, pn_mul, pn_add, pn_add]
  exact ⟨pz_vp (by omega) (by omega), trivial⟩
/-! the class's chain loops as folds over the chain -/
theorem cl_chainOf {r : Nat} {f : Nat → Int32} (hr : r ≤ 12) (hu : wu_ r (fun k => f (8 * k))) : ∀ (n s : Nat) (acc x : Int32), lk_ r x → s ≤ 12 → 12 - s < n → f_X2_chainOf_j7 (Int32.ofNat r) f n acc x (Int32.ofNat s) = (ch_ (fun k => f (8 * k)) (12 - s) x).foldl (fun m k => m ||| (1 <<< (Int32.ofNat k &&& 31))) acc := by
  intro n
  induction n with
  | zero => intro s acc x hx hs hn; omega
  | succ n ih =>
    intro s acc x hx hs hn
    rw [f_X2_chainOf_j7]
    have e12 : (12 : Int32) = Int32.ofNat 12 := rfl
    by_cases h : s = 12
    · subst h
      rw [if_pos (by decide)]
      rfl
    · rw [if_neg (by rw [e12, pn_le (by omega) (by omega)]; omega)]
      rcases hx with rfl | ⟨j, hj, rfl⟩
      · rw [if_pos pn_m1, ch_nil]
        rfl
      · rw [if_neg (pn_nn (by omega)), p8_0 hr hj, pn_succ, ih (s + 1) _ _ (lk_mono (hu j hj) (by omega)) (by omega) (by omega), show 12 - s = (12 - (s + 1)) + 1 by omega, ch_cons (by omega), List.foldl_cons]
theorem cl_narrow {r : Nat} {f : Nat → Int32} (hr : r ≤ 12) (hu : wu_ r (fun k => f (8 * k))) : ∀ (n s : Nat) (best x : Int32), lk_ r x → s ≤ 12 → 12 - s < n → f_X2_narrowestOfChain_j7 (Int32.ofNat r) f n best x (Int32.ofNat s) = (ch_ (fun k => f (8 * k)) (12 - s) x).foldl (fun b k => if f_X2_leftFor (Int32.ofNat r) f b ≤ f_X2_leftFor (Int32.ofNat r) f (Int32.ofNat k) then b else Int32.ofNat k) best := by
  intro n
  induction n with
  | zero => intro s acc x hx hs hn; omega
  | succ n ih =>
    intro s best x hx hs hn
    rw [f_X2_narrowestOfChain_j7]
    have e12 : (12 : Int32) = Int32.ofNat 12 := rfl
    by_cases h : s = 12
    · subst h
      rw [if_pos (by decide)]
      rfl
    · rw [if_neg (by rw [e12, pn_le (by omega) (by omega)]; omega)]
      rcases hx with rfl | ⟨j, hj, rfl⟩
      · rw [if_pos pn_m1, ch_nil]
        rfl
      · rw [if_neg (pn_nn (by omega)), show 12 - s = (12 - (s + 1)) + 1 by omega, ch_cons (by omega), List.foldl_cons]
        by_cases hc : f_X2_leftFor (Int32.ofNat r) f best ≤ f_X2_leftFor (Int32.ofNat r) f (Int32.ofNat j)
        · rw [if_pos hc, if_pos hc, f_X2_narrowestOfChain_j33, p8_0 hr hj, pn_succ, ih (s + 1) _ _ (lk_mono (hu j hj) (by omega)) (by omega) (by omega)]
        · rw [if_neg hc, if_neg hc, f_X2_narrowestOfChain_j33, p8_0 hr hj, pn_succ, ih (s + 1) _ _ (lk_mono (hu j hj) (by omega)) (by omega) (by omega)]
/-! the reference's -/
theorem cz_chainOf {r : Nat} {z : Nat → Int32} (hr : r ≤ 12) (hu : wu_ r (fun k => z (19 + 9 * k))) : ∀ (n k : Nat) (acc x : Int32), k ≤ r → lk_ k x → k < n → f_X6_chainOf_j4 z n acc x = acc + Int32.ofNat (ch_ (fun k => z (19 + 9 * k)) 12 x).length ∧ o_X6_chainOf_j4 z n acc x := by
  intro n
  induction n with
  | zero => intro k acc x hk hx hn; omega
  | succ n ih =>
    intro k acc x hk hx hn
    rw [f_X6_chainOf_j4, o_X6_chainOf_j4]
    rcases hx with rfl | ⟨j, hj, rfl⟩
    · rw [if_pos rfl, if_pos rfl, ch_nil]
      exact ⟨(Int32.add_zero acc).symm, trivial⟩
    · have e0 : f_X6_of z (Int32.ofNat j) 0 = z (19 + 9 * j) := pz_of (c := 0) (by omega) (by omega)
      have e1 : o_X6_of z (Int32.ofNat j) 0 := pz_oof (c := 0) (by omega) (by omega)
      rw [if_neg (pn_nm (by omega)), if_neg (pn_nm (by omega)), e0]
      obtain ⟨h1, h2⟩ := ih j (acc + 1) (z (19 + 9 * j)) (by omega) (hu j (by omega)) (by omega)
      refine ⟨?_, e1, h2⟩
      rw [h1, show (12 : Nat) = 11 + 1 from rfl, ch_cons (by omega), List.length_cons]
      rw [← ch_more hr hu 11 j 1 (z (19 + 9 * j)) (by omega) (hu j (by omega)) (by omega)]
      rw [Int32.add_assoc, show (1 : Int32) = Int32.ofNat 1 from rfl, pn_add, Nat.add_comm]
