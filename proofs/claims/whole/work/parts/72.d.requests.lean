/-! REQUESTS: what holds between the table and the row; reads -/
def rt_ (s : Nat) (g z : Nat → Int32) : Prop := z 4 = Int32.ofNat s ∧ ∀ k : Nat, k < s → ∀ c : Nat, c < 6 → z (127 + 6 * k + c) = g (6 * k + c)
def ir_ (r s : Nat) (g : Nat → Int32) : Prop := ∀ k : Nat, k < s → (∃ m : Nat, m < r ∧ g (6 * k) = Int32.ofNat m) ∧ (∃ a : Nat, 1 ≤ a ∧ a ≤ 9999 ∧ g (6 * k + 1) = Int32.ofNat a) ∧ (g (6 * k + 3) = 0 ∨ g (6 * k + 3) = 1) ∧ (∃ w : Nat, w < 256 ∧ g (6 * k + 5) = Int32.ofNat w)
def RQ (r s : Nat) (g z : Nat → Int32) : Prop := s ≤ 6 ∧ rt_ s g z ∧ ir_ r s g
section RQS
variable {r s k : Nat} {f g z : Nat → Int32}
theorem rz4 (R : RQ r s g z) : z (Int32.toNatClampNeg 4) = Int32.ofNat s := by
  rw [cn_4]
  exact R.2.1.1
theorem ro0 (R : RQ r s g z) (hk : k < s) : f_X6_ofRequest z (Int32.ofNat k) 0 = g (6 * k) := by
  have h6 := R.1
  have e : f_X6_ofRequest z (Int32.ofNat k) 0 = z (127 + 6 * k + 0) := pz_ofr (c := 0) (by omega) (by omega)
  rw [e]
  exact R.2.1.2 k hk 0 (by omega)
theorem roo0 (hs : s ≤ 6) (hk : k < s) : o_X6_ofRequest z (Int32.ofNat k) 0 := pz_oofr (c := 0) (by omega) (by omega)
theorem ro1 (R : RQ r s g z) (hk : k < s) : f_X6_ofRequest z (Int32.ofNat k) 1 = g (6 * k + 1) := by
  have h6 := R.1
  have e : f_X6_ofRequest z (Int32.ofNat k) 1 = z (127 + 6 * k + 1) := pz_ofr (c := 1) (by omega) (by omega)
  rw [e]
  exact R.2.1.2 k hk 1 (by omega)
theorem roo1 (hs : s ≤ 6) (hk : k < s) : o_X6_ofRequest z (Int32.ofNat k) 1 := pz_oofr (c := 1) (by omega) (by omega)
theorem ro2 (R : RQ r s g z) (hk : k < s) : f_X6_ofRequest z (Int32.ofNat k) 2 = g (6 * k + 2) := by
  have h6 := R.1
  have e : f_X6_ofRequest z (Int32.ofNat k) 2 = z (127 + 6 * k + 2) := pz_ofr (c := 2) (by omega) (by omega)
  rw [e]
  exact R.2.1.2 k hk 2 (by omega)
theorem roo2 (hs : s ≤ 6) (hk : k < s) : o_X6_ofRequest z (Int32.ofNat k) 2 := pz_oofr (c := 2) (by omega) (by omega)
theorem ro3 (R : RQ r s g z) (hk : k < s) : f_X6_ofRequest z (Int32.ofNat k) 3 = g (6 * k + 3) := by
  have h6 := R.1
  have e : f_X6_ofRequest z (Int32.ofNat k) 3 = z (127 + 6 * k + 3) := pz_ofr (c := 3) (by omega) (by omega)
  rw [e]
  exact R.2.1.2 k hk 3 (by omega)
theorem roo3 (hs : s ≤ 6) (hk : k < s) : o_X6_ofRequest z (Int32.ofNat k) 3 := pz_oofr (c := 3) (by omega) (by omega)
theorem ro4 (R : RQ r s g z) (hk : k < s) : f_X6_ofRequest z (Int32.ofNat k) 4 = g (6 * k + 4) := by
  have h6 := R.1
  have e : f_X6_ofRequest z (Int32.ofNat k) 4 = z (127 + 6 * k + 4) := pz_ofr (c := 4) (by omega) (by omega)
  rw [e]
  exact R.2.1.2 k hk 4 (by omega)
theorem roo4 (hs : s ≤ 6) (hk : k < s) : o_X6_ofRequest z (Int32.ofNat k) 4 := pz_oofr (c := 4) (by omega) (by omega)
theorem ro5 (R : RQ r s g z) (hk : k < s) : f_X6_ofRequest z (Int32.ofNat k) 5 = g (6 * k + 5) := by
  have h6 := R.1
  have e : f_X6_ofRequest z (Int32.ofNat k) 5 = z (127 + 6 * k + 5) := pz_ofr (c := 5) (by omega) (by omega)
  rw [e]
  exact R.2.1.2 k hk 5 (by omega)
theorem roo5 (hs : s ≤ 6) (hk : k < s) : o_X6_ofRequest z (Int32.ofNat k) 5 := pz_oofr (c := 5) (by omega) (by omega)
theorem ri_ (R : RQ r s g z) (p : Int32) : (f_X6_isRequest z p = true ∧ f_X5_checkRequest (Int32.ofNat s) p = 0 ∧ ∃ k : Nat, k < s ∧ p = Int32.ofNat k) ∨ (f_X6_isRequest z p = false ∧ f_X5_checkRequest (Int32.ofNat s) p = 1) := by
  have h6 := R.1
  rw [f_X6_isRequest, rz4 R, f_X5_checkRequest]
  rcases within_ix (p := p) (r := s) (by omega) with ⟨h1, h2, h3, h4⟩ | ⟨h1, h2⟩
  · left
    rw [h1, if_neg h2, if_pos h3]
    exact ⟨rfl, rfl, h4⟩
  · right
    refine ⟨h1, ?_⟩
    by_cases h : p < 0
    · rw [if_pos h]; rfl
    · rw [if_neg h, if_neg (h2.resolve_left h)]; rfl
theorem rurg (hs : s ≤ 6) (hk : k < s) : f_X0_isUrgent (Int32.ofNat s) g (Int32.ofNat k) = decide (g (6 * k + 3) = 1) := by
  rw [f_X0_isUrgent, p6_3 hs hk]
  by_cases h : g (6 * k + 3) = 1
  · rw [if_pos h, decide_eq_true h]
  · rw [if_neg h, decide_eq_false h]
theorem rwait (R : RQ r s g z) (p : Int32) : ∀ (n1 n2 i : Nat) (acc : Int32), i ≤ s → s - i < n1 → s - i < n2 → f_X0_waitingBy_j4 (Int32.ofNat s) g p n1 acc (Int32.ofNat i) = f_X6_requestsBy_j4 z p n2 acc (Int32.ofNat i) ∧ o_X6_requestsBy_j4 z p n2 acc (Int32.ofNat i) := by
  have h6 := R.1
  have h12 : s ≤ 12 := by omega
  intro n1
  induction n1 with
  | zero => intro n2 i acc h1 h2; omega
  | succ n1 ih =>
    intro n2 i acc h1 h2 h3
    cases n2 with
    | zero => omega
    | succ n2 =>
      rw [f_X0_waitingBy_j4, f_X6_requestsBy_j4, o_X6_requestsBy_j4, rz4 R]
      by_cases hi : i = s
      · subst hi
        rw [if_pos (lez h12 (Nat.le_refl _) (by omega)), if_pos (lez h12 (Nat.le_refl _) (by omega)), if_pos (lez h12 (Nat.le_refl _) (by omega))]
        exact ⟨rfl, trivial⟩
      · have hir : i < s := by omega
        rw [if_neg (ltz h12 hir), if_neg (ltz h12 hir), if_neg (ltz h12 hir), p6_0 h6 hir, ro0 R hir, f_X0_waitingBy_j34, f_X0_waitingBy_j34, f_X6_requestsBy_j30, f_X6_requestsBy_j30, o_X6_requestsBy_j30, o_X6_requestsBy_j30, pn_succ]
        have hc := fun q => ih n2 (i + 1) q (by omega) (by omega) (by omega)
        by_cases hh : g (6 * i) = p
        · rw [if_pos hh, if_pos hh, if_pos hh]; exact ⟨(hc _).1, roo0 h6 hir, (hc _).2⟩
        · rw [if_neg hh, if_neg hh, if_neg hh]; exact ⟨(hc _).1, roo0 h6 hir, (hc _).2⟩
theorem rwaiting (R : RQ r s g z) (p : Int32) : f_X0_waitingBy (Int32.ofNat s) g p = f_X6_requestsBy z p ∧ o_X6_requestsBy z p := by
  have h6 := R.1
  rw [f_X0_waitingBy, f_X6_requestsBy, o_X6_requestsBy, rz4 R, toI (by omega)]
  exact rwait R p (s + 1) (s + 1) 0 0 (by omega) (by omega) (by omega)
/-! who could approve -/
theorem msk_and {a : Int32} (h : msk a) (b : Int32) : msk (a &&& b) := by
  obtain ⟨n, hn, rfl⟩ := h
  refine ⟨n &&& b.toBitVec.toNat, Nat.lt_of_le_of_lt Nat.and_le_left hn, ?_⟩
  apply Int32.toBitVec_inj.mp
  rw [Int32.toBitVec_and]
  apply BitVec.eq_of_toNat_eq
  show (BitVec.ofNat 32 n &&& b.toBitVec).toNat = (BitVec.ofNat 32 (n &&& b.toBitVec.toNat)).toNat
  have h2 : n &&& b.toBitVec.toNat ≤ n := Nat.and_le_left
  rw [BitVec.toNat_and, BitVec.toNat_ofNat, BitVec.toNat_ofNat, Nat.mod_eq_of_lt (by omega), Nat.mod_eq_of_lt (by omega)]
theorem bt_of {n j : Nat} (hn : n < 4096) (hj : j < 12) : bt (Int32.ofNat n) j = n.testBit j := by
  show (BitVec.ofNat 32 n).getLsbD j = _
  rw [BitVec.getLsbD_ofNat, decide_eq_true (by omega), Bool.true_and]
theorem msk_ext {a b : Int32} (ha : msk a) (hb : msk b) (h : ∀ j : Nat, j < 12 → bt a j = bt b j) : a = b := by
  obtain ⟨n, hn, rfl⟩ := ha
  obtain ⟨m, hm, rfl⟩ := hb
  congr 1
  apply Nat.eq_of_testBit_eq
  intro j
  by_cases hj : j < 12
  · have := h j hj
    rwa [bt_of hn hj, bt_of hm hj] at this
  · have h1 : (4096 : Nat) ≤ 2 ^ j := Nat.pow_le_pow_right (n := 2) (i := 12) (by decide) (by omega)
    rw [Nat.testBit_lt_two_pow (by omega), Nat.testBit_lt_two_pow (by omega)]
theorem mhold (M : MB r f z) (hk : k < r) : ∃ h : Nat, h < 8 ∧ f (8 * k + 1) = Int32.ofNat h := (M.2.2 k hk).2.1
theorem mappr (M : MB r f z) {m h : Nat} (hm : m < r) (hh8 : h < 8) (hh : f (8 * m + 1) = Int32.ofNat h) {q : Nat} (hq : q < 31) : ∀ (n2 n1 i b : Nat) (acc x : Int32), b ≤ r → lk_ b x → b < n2 → 12 - i < n1 → i + b ≤ 12 → bt (f_X2_approversOf_j15 (Int32.ofNat r) f (Int32.ofNat m) n1 acc x (Int32.ofNat i)) q = (f_X6_holdsAbove_j10 z (Int32.ofNat q) n2 (bt acc q) x && !decide (q = h)) ∧ o_X6_holdsAbove_j10 z (Int32.ofNat q) n2 (bt acc q) x := by
  have h12 := M.1
  intro n2
  induction n2 with
  | zero => intro n1 i b acc x hb hx hn; omega
  | succ n2 ih =>
    intro n1 i b acc x hb hx hn hn1 hs
    cases n1 with
    | zero => omega
    | succ n1 =>
      rw [f_X2_approversOf_j15, f_X6_holdsAbove_j10, o_X6_holdsAbove_j10, f_X2_approversOf_j56, p8_1 h12 hm, hh]
      rcases hx with rfl | ⟨j, hj, rfl⟩
      · rw [if_pos pn_m1, if_pos rfl, if_pos rfl, ite_self, bt_and, bt_not _ (by omega), bt_one h (by omega) q hq]
        exact ⟨rfl, trivial⟩
      · have hjr : j < r := by omega
        obtain ⟨hj1, hj8, hje⟩ := mhold M hjr
        rw [if_neg (le12 (by omega)), if_neg (pn_nn (by omega)), if_neg (pn_nm (by omega)), if_neg (pn_nm (by omega)), p8_0 h12 hjr, p8_1 h12 hjr, hje, pn_succ, f_X6_holdsAbove_j31, o_X6_holdsAbove_j31, f_X6_holdsAbove_j36, o_X6_holdsAbove_j36, f_X6_holdsAbove_j36, o_X6_holdsAbove_j36, mo0 M hjr, mo1 M hjr, hje]
        have hi := ih n1 (i + 1) j (acc ||| (1 <<< (Int32.ofNat hj1 &&& 31))) (f (8 * j)) (by omega) (mlk M hjr) (by omega) (by omega) (by omega)
        rw [bt_or, bt_one hj1 (by omega) q hq] at hi
        cases hb : bt acc q with
        | true =>
          rw [hb, Bool.true_or] at hi
          rw [if_neg (vb_t rfl), if_neg (vb_t rfl)]
          exact ⟨hi.1, oo0 h12 hjr, hi.2⟩
        | false =>
          rw [hb, Bool.false_or] at hi
          rw [if_pos (vb_f rfl), if_pos (vb_f rfl)]
          by_cases he : hj1 = q
          · subst he
            rw [decide_eq_true rfl] at hi
            rw [if_pos rfl, if_pos rfl]
            exact ⟨hi.1, oo1 h12 hjr, oo0 h12 hjr, hi.2⟩
          · rw [decide_eq_false (fun e => he e.symm)] at hi
            have hne : ¬ Int32.ofNat hj1 = Int32.ofNat q := fun e => he (pn_inj (by omega) (by omega) e)
            rw [if_neg hne, if_neg hne]
            exact ⟨hi.1, oo1 h12 hjr, oo0 h12 hjr, hi.2⟩
theorem mappr_msk (M : MB r f z) {m h : Nat} (hm : m < r) (hh8 : h < 8) (hh : f (8 * m + 1) = Int32.ofNat h) : ∀ (b n1 i : Nat) (acc x : Int32), b ≤ r → lk_ b x → 12 - i < n1 → i + b ≤ 12 → msk acc → (∀ j : Nat, 8 ≤ j → j < 12 → bt acc j = false) → msk (f_X2_approversOf_j15 (Int32.ofNat r) f (Int32.ofNat m) n1 acc x (Int32.ofNat i)) ∧ (∀ j : Nat, 8 ≤ j → j < 12 → bt (f_X2_approversOf_j15 (Int32.ofNat r) f (Int32.ofNat m) n1 acc x (Int32.ofNat i)) j = false) := by
  have h12 := M.1
  intro b
  induction b using Nat.strongRecOn with
  | ind b ih =>
    intro n1 i acc x hb hx hn1 hs hm9 hb8
    cases n1 with
    | zero => omega
    | succ n1 =>
      rw [f_X2_approversOf_j15, f_X2_approversOf_j56]
      have hend : msk (acc &&& ((1 <<< ((f_X3_get 8 (Int32.ofNat r) 96 f (Int32.ofNat m) 1) &&& 31)) ^^^ (-1))) ∧ (∀ j : Nat, 8 ≤ j → j < 12 → bt (acc &&& ((1 <<< ((f_X3_get 8 (Int32.ofNat r) 96 f (Int32.ofNat m) 1) &&& 31)) ^^^ (-1))) j = false) := ⟨msk_and hm9 _, fun j h1 h2 => by rw [bt_and, hb8 j h1 h2, Bool.false_and]⟩
      rcases hx with rfl | ⟨j, hj, rfl⟩
      · rw [if_pos pn_m1, ite_self]
        exact hend
      · have hjr : j < r := by omega
        obtain ⟨hj1, hj8, hje⟩ := mhold M hjr
        rw [if_neg (le12 (by omega)), if_neg (pn_nn (by omega)), p8_0 h12 hjr, p8_1 h12 hjr, hje, pn_succ]
        exact ih j hj n1 (i + 1) _ _ (by omega) (mlk M hjr) (by omega) (by omega) (msk_or hm9 (by omega)) (fun a h1 h2 => by rw [bt_orone (by omega) h2, hb8 a h1 h2, decide_eq_false (by omega)]; rfl)
theorem rcan (M : MB r f z) (R : RQ r s g z) (hk : k < s) {q : Nat} (hq : q < 12) : bt (f_X0_couldApproveNow (Int32.ofNat r) f (Int32.ofNat s) g (Int32.ofNat k)) q = f_X6_canApprove z (Int32.ofNat k) (Int32.ofNat q) ∧ o_X6_canApprove z (Int32.ofNat k) (Int32.ofNat q) := by
  have h12 := M.1
  have h6 := R.1
  obtain ⟨⟨m, hm, hme⟩, -, -, ⟨w, hw, hwe⟩⟩ := R.2.2 k hk
  obtain ⟨h, h8, hh⟩ := mhold M hm
  obtain ⟨a1, a2⟩ := mappr M hm h8 hh (q := q) (by omega) 1000 13 0 m 0 (f (8 * m)) (by omega) (mlk M hm) (by omega) (by omega) (by omega)
  rw [bt_zero] at a1 a2
  have hH : f_X6_holdsAbove z (Int32.ofNat q) (Int32.ofNat m) = f_X6_holdsAbove_j10 z (Int32.ofNat q) 1000 false (f (8 * m)) := by rw [f_X6_holdsAbove, mo0 M hm]
  have hHo : o_X6_holdsAbove z (Int32.ofNat q) (Int32.ofNat m) := by
    rw [o_X6_holdsAbove, mo0 M hm]
    exact ⟨oo0 h12 hm, a2⟩
  rw [f_X0_couldApproveNow, p6_0 h6 hk, p6_5 h6 hk, hme, bt_and, bt_not _ (by omega), f_X2_approversOf, p8_0 h12 hm]
  have a1' : bt (f_X2_approversOf_j15 (Int32.ofNat r) f (Int32.ofNat m) ((((12 : Int32)).toInt - ((0 : Int32)).toInt).toNat + 1) 0 (f (8 * m)) 0) q = (f_X6_holdsAbove_j10 z (Int32.ofNat q) 1000 false (f (8 * m)) && !decide (q = h)) := a1
  rw [a1', f_X6_canApprove, o_X6_canApprove, ro0 R hk, ro5 R hk, hme, bt_has hq, mo1 M hm, hh, hH]
  cases hb : bt (g (6 * k + 5)) q with
  | true =>
    rw [if_neg (vb_t rfl), if_neg (vb_t rfl), Bool.not_true, Bool.and_false]
    exact ⟨rfl, roo0 h6 hk, roo5 h6 hk, trivial⟩
  | false =>
    rw [if_pos (vb_f rfl), if_pos (vb_f rfl), Bool.not_false, Bool.and_true]
    by_cases he : h = q
    · subst he
      rw [if_pos rfl, if_pos rfl, decide_eq_true rfl, Bool.not_true, Bool.and_false]
      exact ⟨rfl, roo0 h6 hk, roo5 h6 hk, oo1 h12 hm, trivial⟩
    · have hne : ¬ Int32.ofNat h = Int32.ofNat q := fun e => he (pn_inj (by omega) (by omega) e)
      rw [if_neg hne, if_neg hne, decide_eq_false (fun e => he e.symm), Bool.not_false, Bool.and_true]
      refine ⟨?_, roo0 h6 hk, roo5 h6 hk, oo1 h12 hm, hHo, ?_⟩
      · cases f_X6_holdsAbove_j10 z (Int32.ofNat q) 1000 false (f (8 * m)) with
        | true => rw [if_neg (vb_t rfl)]
        | false => rw [if_pos (vb_f rfl)]
      · split <;> trivial
theorem rcould (M : MB r f z) (R : RQ r s g z) (hk : k < s) {q : Nat} (hq : q < 8) : f_X0_couldApprove (Int32.ofNat r) f (Int32.ofNat s) g (Int32.ofNat k) (Int32.ofNat q) = f_X6_canApprove z (Int32.ofNat k) (Int32.ofNat q) ∧ o_X6_canApprove z (Int32.ofNat k) (Int32.ofNat q) := by
  obtain ⟨a1, a2⟩ := rcan M R hk (q := q) (by omega)
  rw [f_X0_couldApprove, bt_isPerson hq]
  exact ⟨a1, a2⟩
theorem rapp_z (M : MB r f z) (R : RQ r s g z) (hk : k < s) : ∀ (n i : Nat) (acc : Int32), i ≤ 8 → 8 - i < n → msk acc → (∀ j : Nat, j < 12 → bt acc j = (decide (j < i) && f_X6_canApprove z (Int32.ofNat k) (Int32.ofNat j))) → msk (f_X6_approversOf_j4 z (Int32.ofNat k) n acc (Int32.ofNat i)) ∧ (∀ j : Nat, j < 12 → bt (f_X6_approversOf_j4 z (Int32.ofNat k) n acc (Int32.ofNat i)) j = (decide (j < 8) && f_X6_canApprove z (Int32.ofNat k) (Int32.ofNat j))) ∧ o_X6_approversOf_j4 z (Int32.ofNat k) n acc (Int32.ofNat i) := by
  have e8 : (8 : Int32) = Int32.ofNat 8 := rfl
  intro n
  induction n with
  | zero => intro i acc h1 h2; omega
  | succ n ih =>
    intro i acc h1 h2 hm hb
    rw [f_X6_approversOf_j4, o_X6_approversOf_j4]
    by_cases hi : i = 8
    · subst hi
      rw [if_pos (by decide), if_pos (by decide)]
      exact ⟨hm, hb, trivial⟩
    · have hle : ¬ (8 : Int32) ≤ Int32.ofNat i := by rw [e8, pn_le (by omega) (by omega)]; omega
      rw [if_neg hle, if_neg hle, f_X6_approversOf_j27, f_X6_approversOf_j27, o_X6_approversOf_j27, o_X6_approversOf_j27, pn_succ, Int32.or_zero]
      have hoc := (rcan M R hk (q := i) (by omega)).2
      cases hc : f_X6_canApprove z (Int32.ofNat k) (Int32.ofNat i) with
      | false =>
        rw [if_pos (vb_f rfl), if_pos (vb_f rfl)]
        obtain ⟨b1, b2, b3⟩ := ih (i + 1) acc (by omega) (by omega) hm (fun j hj => by
          rw [hb j hj]
          by_cases hji : j = i
          · subst hji; rw [hc, Bool.and_false, Bool.and_false]
          · congr 1
            by_cases h : j < i
            · rw [decide_eq_true h, decide_eq_true (by omega)]
            · rw [decide_eq_false h, decide_eq_false (by omega)])
        exact ⟨b1, b2, hoc, b3⟩
      | true =>
        rw [if_neg (vb_t rfl), if_neg (vb_t rfl)]
        obtain ⟨b1, b2, b3⟩ := ih (i + 1) (acc ||| (1 <<< (Int32.ofNat i &&& 31))) (by omega) (by omega) (msk_or hm (by omega)) (fun j hj => by
          rw [bt_orone (by omega) hj, hb j hj]
          by_cases hji : j = i
          · subst hji; rw [hc, decide_eq_true rfl, Bool.or_true, decide_eq_true (by omega)]; rfl
          · rw [decide_eq_false hji, Bool.or_false]
            congr 1
            by_cases h : j < i
            · rw [decide_eq_true h, decide_eq_true (by omega)]
            · rw [decide_eq_false h, decide_eq_false (by omega)])
        exact ⟨b1, b2, hoc, b3⟩
theorem rapprovers (M : MB r f z) (R : RQ r s g z) (hk : k < s) : f_X0_couldApproveNow (Int32.ofNat r) f (Int32.ofNat s) g (Int32.ofNat k) = f_X6_approversOf z (Int32.ofNat k) ∧ o_X6_approversOf z (Int32.ofNat k) := by
  have h12 := M.1
  have h6 := R.1
  obtain ⟨⟨m, hm, hme⟩, -, -, -⟩ := R.2.2 k hk
  obtain ⟨h, h8, hh⟩ := mhold M hm
  obtain ⟨m1, m2⟩ := mappr_msk M hm h8 hh m 13 0 0 (f (8 * m)) (by omega) (mlk M hm) (by omega) (by omega) msk_0 (fun j _ _ => bt_zero j)
  obtain ⟨b1, b2, b3⟩ := rapp_z M R hk 9 0 0 (by omega) (by omega) msk_0 (fun j hj => by rw [bt_zero, decide_eq_false (by omega)]; rfl)
  have hc : f_X0_couldApproveNow (Int32.ofNat r) f (Int32.ofNat s) g (Int32.ofNat k) = (f_X2_approversOf_j15 (Int32.ofNat r) f (Int32.ofNat m) 13 0 (f (8 * m)) (Int32.ofNat 0)) &&& ((g (6 * k + 5)) ^^^ (-1)) := by
    rw [f_X0_couldApproveNow, p6_0 h6 hk, p6_5 h6 hk, hme, f_X2_approversOf, p8_0 h12 hm]
    rfl
  refine ⟨msk_ext ?_ b1 (fun j hj => ?_), b3⟩
  · rw [hc]; exact msk_and m1 _
  · have e := b2 j hj
    have e2 : bt (f_X6_approversOf z (Int32.ofNat k)) j = (decide (j < 8) && f_X6_canApprove z (Int32.ofNat k) (Int32.ofNat j)) := e
    rw [e2]
    by_cases h8j : j < 8
    · rw [decide_eq_true h8j, Bool.true_and]
      exact (rcan M R hk hj).1
    · rw [decide_eq_false h8j, Bool.false_and, hc, bt_and, m2 j (by omega) hj, Bool.false_and]
theorem rapprovable (M : MB r f z) (R : RQ r s g z) {q : Nat} (hq : q < 8) : ∀ (n1 n2 i : Nat) (acc : Int32), i ≤ s → s - i < n1 → s - i < n2 → f_X0_approvableBy_j4 (Int32.ofNat r) f (Int32.ofNat s) g (Int32.ofNat q) n1 acc (Int32.ofNat i) = f_X6_approvableBy_j4 z (Int32.ofNat q) n2 acc (Int32.ofNat i) ∧ o_X6_approvableBy_j4 z (Int32.ofNat q) n2 acc (Int32.ofNat i) := by
  have h6 := R.1
  have h12 : s ≤ 12 := by omega
  intro n1
  induction n1 with
  | zero => intro n2 i acc h1 h2; omega
  | succ n1 ih =>
    intro n2 i acc h1 h2 h3
    cases n2 with
    | zero => omega
    | succ n2 =>
      rw [f_X0_approvableBy_j4, f_X6_approvableBy_j4, o_X6_approvableBy_j4, rz4 R]
      by_cases hi : i = s
      · subst hi
        rw [if_pos (lez h12 (Nat.le_refl _) (by omega)), if_pos (lez h12 (Nat.le_refl _) (by omega)), if_pos (lez h12 (Nat.le_refl _) (by omega))]
        exact ⟨rfl, trivial⟩
      · have hir : i < s := by omega
        obtain ⟨c1, c2⟩ := rcan M R hir (q := q) (by omega)
        rw [if_neg (ltz h12 hir), if_neg (ltz h12 hir), if_neg (ltz h12 hir), bt_isPerson hq, c1, f_X0_approvableBy_j33, f_X0_approvableBy_j33, f_X6_approvableBy_j29, f_X6_approvableBy_j29, o_X6_approvableBy_j29, o_X6_approvableBy_j29, pn_succ]
        have hc := fun q => ih n2 (i + 1) q (by omega) (by omega) (by omega)
        cases f_X6_canApprove z (Int32.ofNat i) (Int32.ofNat q) with
        | true => rw [if_neg (vb_t rfl), if_neg (vb_t rfl), if_neg (vb_t rfl)]; exact ⟨(hc _).1, c2, (hc _).2⟩
        | false => rw [if_pos (vb_f rfl), if_pos (vb_f rfl), if_pos (vb_f rfl)]; exact ⟨(hc _).1, c2, (hc _).2⟩
theorem rapprovableBy (M : MB r f z) (R : RQ r s g z) {q : Nat} (hq : q < 8) : f_X0_approvableBy (Int32.ofNat r) f (Int32.ofNat s) g (Int32.ofNat q) = f_X6_approvableBy z (Int32.ofNat q) ∧ o_X6_approvableBy z (Int32.ofNat q) := by
  have h6 := R.1
  rw [f_X0_approvableBy, f_X6_approvableBy, o_X6_approvableBy, rz4 R, toI (by omega)]
  exact rapprovable M R hq (s + 1) (s + 1) 0 0 (by omega) (by omega) (by omega)
/-! too late, and when -/
theorem rlate (R : RQ r s g z) {day grace : Int32} (hd : z 2 = day) (hg : z 0 = grace) : ∀ (n1 n2 i : Nat), i ≤ s → s - i < n1 → s - i < n2 → f_X0_firstLate_j2 (Int32.ofNat s) g day grace n1 (Int32.ofNat i) = f_X6_tooLate_j2 z n2 (Int32.ofNat i) ∧ o_X6_tooLate_j2 z n2 (Int32.ofNat i) ∧ up_ s (f_X6_tooLate_j2 z n2 (Int32.ofNat i)) := by
  have h6 := R.1
  have h12 : s ≤ 12 := by omega
  intro n1
  induction n1 with
  | zero => intro n2 i h1 h2; omega
  | succ n1 ih =>
    intro n2 i h1 h2 h3
    cases n2 with
    | zero => omega
    | succ n2 =>
      rw [f_X0_firstLate_j2, f_X6_tooLate_j2, o_X6_tooLate_j2, rz4 R]
      by_cases hi : i = s
      · subst hi
        rw [if_pos (lez h12 (Nat.le_refl _) (by omega)), if_pos (lez h12 (Nat.le_refl _) (by omega)), if_pos (lez h12 (Nat.le_refl _) (by omega))]
        exact ⟨rfl, trivial, Or.inl rfl⟩
      · have hir : i < s := by omega
        obtain ⟨c1, c2, c3⟩ := ih n2 (i + 1) (by omega) (by omega) (by omega)
        rw [if_neg (ltz h12 hir), if_neg (ltz h12 hir), if_neg (ltz h12 hir), rurg h6 hir, p6_2 h6 hir, ro2 R hir, ro3 R hir, cn_2, cn_0, hd, hg, f_X0_firstLate_j44, f_X6_tooLate_j46, o_X6_tooLate_j46, pn_succ]
        by_cases hu : g (6 * i + 3) = 1
        · rw [decide_eq_true hu, if_neg (vb_t rfl), if_pos hu, if_pos hu]
          by_cases hl : day ≤ g (6 * i + 2) + grace
          · rw [if_pos hl, if_pos hl, if_pos hl]
            exact ⟨c1, ⟨roo3 h6 hir, roo2 h6 hir, c2⟩, c3⟩
          · rw [if_neg hl, if_neg hl, if_neg hl]
            exact ⟨rfl, ⟨roo3 h6 hir, roo2 h6 hir, trivial⟩, Or.inr ⟨i, hir, rfl⟩⟩
        · rw [decide_eq_false hu, if_pos (vb_f rfl), if_neg hu, if_neg hu]
          exact ⟨c1, ⟨roo3 h6 hir, c2⟩, c3⟩
theorem rfirst (R : RQ r s g z) {day grace : Int32} (hd : z 2 = day) (hg : z 0 = grace) : f_X0_firstLate (Int32.ofNat s) g day grace = f_X6_tooLate z ∧ o_X6_tooLate z ∧ up_ s (f_X6_tooLate z) := by
  have h6 := R.1
  rw [f_X0_firstLate, f_X6_tooLate, o_X6_tooLate, rz4 R, toI (by omega)]
  exact rlate R hd hg (s + 1) (s + 1) 0 (by omega) (by omega) (by omega)
theorem dl_ (x : Int32) : (if 1 < x then x else 1) = (if 1 ≤ x then x else 1) := by
  by_cases h : 1 < x
  · rw [if_pos h, if_pos (by rw [Int32.le_iff_toInt_le]; rw [Int32.lt_iff_toInt_lt] at h; omega)]
  · rw [if_neg h]
    by_cases h2 : 1 ≤ x
    · rw [if_pos h2]
      apply Int32.toInt_inj.mp
      rw [Int32.lt_iff_toInt_lt] at h
      rw [Int32.le_iff_toInt_le] at h2
      omega
    · rw [if_neg h2]
theorem rdays (M : MB r f z) (R : RQ r s g z) {m : Nat} (hm : m < r) (hst : f (8 * m + 5) = -1) {day grace : Int32} (hd : z 2 = day) (hg : z 0 = grace) : ∀ (n1 n2 i : Nat) (best : Int32), i ≤ s → s - i < n1 → s - i < n2 → f_X0_daysUntilLapse_j27 (Int32.ofNat r) f (Int32.ofNat s) g day grace (Int32.ofNat m) n1 best (Int32.ofNat i) = f_X6_daysLeft_j4 z (Int32.ofNat m) n2 best (Int32.ofNat i) ∧ o_X6_daysLeft_j4 z (Int32.ofNat m) n2 best (Int32.ofNat i) := by
  have h6 := R.1
  have h12 : s ≤ 12 := by omega
  have hr12 := M.1
  obtain ⟨s1, s2⟩ := ms_z M hm
  rw [decide_eq_true hst] at s1
  intro n1
  induction n1 with
  | zero => intro n2 i best h1 h2; omega
  | succ n1 ih =>
    intro n2 i best h1 h2 h3
    cases n2 with
    | zero => omega
    | succ n2 =>
      rw [f_X0_daysUntilLapse_j27, f_X6_daysLeft_j4, o_X6_daysLeft_j4, rz4 R]
      by_cases hi : i = s
      · subst hi
        rw [if_pos (lez h12 (Nat.le_refl _) (by omega)), if_pos (lez h12 (Nat.le_refl _) (by omega)), if_pos (lez h12 (Nat.le_refl _) (by omega))]
        exact ⟨rfl, trivial⟩
      · have hir : i < s := by omega
        have hc := fun q => ih n2 (i + 1) q (by omega) (by omega) (by omega)
        obtain ⟨⟨b, hb, hbe⟩, -, -, -⟩ := R.2.2 i hir
        obtain ⟨i1, i2⟩ := minchain M (a := b) (k := m) (by omega) hm
        have hdl : f_X0_daysUntilLate (Int32.ofNat s) g day grace (Int32.ofNat i) = (if 1 ≤ ((((g (6 * i + 2)) + grace) + 1) - day) then ((((g (6 * i + 2)) + grace) + 1) - day) else 1) := by
          rw [f_X0_daysUntilLate, p6_2 h6 hir]
          exact dl_ _
        have key : ∀ X : Int32, f_X0_daysUntilLate (Int32.ofNat s) g day grace (Int32.ofNat i) = X → (if vm_bi (f_X0_isUrgent (Int32.ofNat s) g (Int32.ofNat i)) = 0 then f_X0_daysUntilLapse_j90 (Int32.ofNat i) (f_X0_daysUntilLapse_j27 (Int32.ofNat r) f (Int32.ofNat s) g day grace (Int32.ofNat m) n1) best else (if vm_bi (f_X2_isIn (f_X2_chainOf (Int32.ofNat r) f (Int32.ofNat m)) (f_X3_get 6 (Int32.ofNat s) 36 g (Int32.ofNat i) 0)) = 0 then f_X0_daysUntilLapse_j90 (Int32.ofNat i) (f_X0_daysUntilLapse_j27 (Int32.ofNat r) f (Int32.ofNat s) g day grace (Int32.ofNat m) n1) best else (if best = (-1) then f_X0_daysUntilLapse_j89 (Int32.ofNat i) (f_X0_daysUntilLapse_j27 (Int32.ofNat r) f (Int32.ofNat s) g day grace (Int32.ofNat m) n1) (f_X0_daysUntilLate (Int32.ofNat s) g day grace (Int32.ofNat i)) else f_X0_daysUntilLapse_j89 (Int32.ofNat i) (f_X0_daysUntilLapse_j27 (Int32.ofNat r) f (Int32.ofNat s) g day grace (Int32.ofNat m) n1) (if (f_X0_daysUntilLate (Int32.ofNat s) g day grace (Int32.ofNat i)) < best then (f_X0_daysUntilLate (Int32.ofNat s) g day grace (Int32.ofNat i)) else best)))) = f_X6_daysLeft_j58 z (Int32.ofNat m) best (Int32.ofNat i) (f_X6_daysLeft_j4 z (Int32.ofNat m) n2) X ∧ o_X6_daysLeft_j58 z (Int32.ofNat m) best (Int32.ofNat i) (o_X6_daysLeft_j4 z (Int32.ofNat m) n2) X := by
          intro X hX
          rw [hX, rurg h6 hir, p6_0 h6 hir, hbe, bt_isIn (by omega), i1, f_X0_daysUntilLapse_j90, f_X0_daysUntilLapse_j89, f_X0_daysUntilLapse_j89, f_X0_daysUntilLapse_j90, f_X0_daysUntilLapse_j90, f_X6_daysLeft_j58, o_X6_daysLeft_j58, ro3 R hir, ro0 R hir, hbe, f_X6_daysLeft_j88, o_X6_daysLeft_j88, f_X6_daysLeft_j89, o_X6_daysLeft_j89, f_X6_daysLeft_j89, o_X6_daysLeft_j89, f_X6_daysLeft_j112, o_X6_daysLeft_j112, f_X6_daysLeft_j107, o_X6_daysLeft_j107, f_X6_daysLeft_j113, o_X6_daysLeft_j113, f_X6_daysLeft_j113, o_X6_daysLeft_j113, pn_succ, if_pos (vb_f rfl : vm_bi false = 0), if_pos (vb_f rfl : vm_bi false = 0), if_neg (vb_t rfl : ¬ vm_bi true = 0), if_neg (vb_t rfl : ¬ vm_bi true = 0)]
          by_cases hu : g (6 * i + 3) = 1
          · rw [decide_eq_true hu, if_neg (vb_t rfl), if_pos hu, if_pos hu]
            cases f_X6_isInChain z (Int32.ofNat b) (Int32.ofNat m) with
            | false =>
              rw [if_pos (vb_f rfl), if_pos (vb_f rfl), if_pos (vb_f rfl)]
              exact ⟨(hc _).1, roo3 h6 hir, roo0 h6 hir, i2, (hc _).2⟩
            | true =>
              rw [if_neg (vb_t rfl), if_neg (vb_t rfl), if_neg (vb_t rfl)]
              by_cases hb1 : best = -1
              · rw [if_pos hb1, if_pos hb1, if_pos hb1]
                exact ⟨(hc _).1, roo3 h6 hir, roo0 h6 hir, i2, (hc _).2⟩
              · rw [if_neg hb1, if_neg hb1, if_neg hb1]
                by_cases hx : X < best
                · rw [if_pos hx, if_neg (i32_nle.mpr hx), if_neg (i32_nle.mpr hx)]
                  exact ⟨(hc _).1, roo3 h6 hir, roo0 h6 hir, i2, (hc _).2⟩
                · rw [if_neg hx, if_pos (i32_le.mpr hx), if_pos (i32_le.mpr hx)]
                  exact ⟨(hc _).1, roo3 h6 hir, roo0 h6 hir, i2, (hc _).2⟩
          · rw [decide_eq_false hu, if_pos (vb_f rfl), if_neg hu, if_neg hu]
            exact ⟨(hc _).1, roo3 h6 hir, (hc _).2⟩
        rw [if_neg (ltz h12 hir), if_neg (ltz h12 hir), if_neg (ltz h12 hir), s1, if_neg (vb_t rfl : ¬ vm_bi true = 0), if_neg (vb_t rfl : ¬ vm_bi true = 0), ro2 R hir, cn_0, cn_2, hd, hg]
        by_cases hx : 1 ≤ ((((g (6 * i + 2)) + grace) + 1) - day)
        · rw [if_pos hx] at hdl
          obtain ⟨k1, k2⟩ := key _ hdl
          rw [if_pos hx, if_pos hx]
          exact ⟨k1, s2, roo2 h6 hir, k2⟩
        · rw [if_neg hx] at hdl
          obtain ⟨k1, k2⟩ := key _ hdl
          rw [if_neg hx, if_neg hx]
          exact ⟨k1, s2, roo2 h6 hir, k2⟩
theorem rdaysLeft (M : MB r f z) (R : RQ r s g z) {m : Nat} (hm : m < r) {day grace : Int32} (hd : z 2 = day) (hg : z 0 = grace) : f_X0_daysUntilLapse (Int32.ofNat r) f (Int32.ofNat s) g day grace (Int32.ofNat m) = f_X6_daysLeft z (Int32.ofNat m) ∧ o_X6_daysLeft z (Int32.ofNat m) := by
  have h6 := R.1
  have h12 : s ≤ 12 := by omega
  obtain ⟨s1, s2⟩ := ms_z M hm
  rw [f_X0_daysUntilLapse, f_X6_daysLeft, o_X6_daysLeft, rz4 R, toI (by omega), ms_e M hm, s1]
  by_cases hst : f (8 * m + 5) = -1
  · rw [decide_eq_true hst, if_neg (vb_t rfl)]
    exact rdays M R hm hst hd hg (s + 1) (s + 1) 0 (-1) (by omega) (by omega) (by omega)
  · rw [decide_eq_false hst, if_pos (vb_f rfl), f_X6_daysLeft_j4, o_X6_daysLeft_j4, rz4 R, s1, decide_eq_false hst, if_pos (vb_f rfl : vm_bi false = 0), if_pos (vb_f rfl : vm_bi false = 0), ite_self]
    refine ⟨rfl, ?_⟩
    split
    · trivial
    · exact ⟨s2, trivial⟩

end RQS
