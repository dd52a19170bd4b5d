/-! MANDATES: what holds between the table and the row -/
def tb_ (r : Nat) (f z : Nat → Int32) : Prop := z 3 = Int32.ofNat r ∧ ∀ k : Nat, k < r → z (19 + 9 * k) = f (8 * k) ∧ z (19 + 9 * k + 1) = f (8 * k + 1) ∧ z (19 + 9 * k + 2) = f (8 * k + 2) ∧ z (19 + 9 * k + 3) = f (8 * k + 3) ∧ z (19 + 9 * k + 4) = f (8 * k + 4) ∧ z (19 + 9 * k + 5) = vm_bi (decide (f (8 * k + 5) = -1)) ∧ z (19 + 9 * k + 6) = f (8 * k + 6) ∧ z (19 + 9 * k + 7) = f (8 * k + 7) ∧ z (19 + 9 * k + 8) = f (8 * k + 5)
def iv_ (r : Nat) (f : Nat → Int32) : Prop := ∀ k : Nat, k < r → lk_ k (f (8 * k)) ∧ (∃ h : Nat, h < 8 ∧ f (8 * k + 1) = Int32.ofNat h) ∧ (∃ p : Nat, 1 ≤ p ∧ p ≤ 9999 ∧ f (8 * k + 3) = Int32.ofNat p) ∧ (∃ n : Nat, n ≤ 3 ∧ f (8 * k + 4) = Int32.ofNat n) ∧ (∃ s : Nat, s ≤ 9999 ∧ f (8 * k + 6) = Int32.ofNat s) ∧ (f (8 * k + 5) = -1 → ∀ j : Nat, j < k → f (8 * k) = Int32.ofNat j → f (8 * j + 5) = -1)
def MB (r : Nat) (f z : Nat → Int32) : Prop := r ≤ 12 ∧ tb_ r f z ∧ iv_ r f
theorem MB.le {r : Nat} {f z : Nat → Int32} (M : MB r f z) : r ≤ 12 := M.1
theorem cn_0 : Int32.toNatClampNeg 0 = 0 := by decide
theorem cn_1 : Int32.toNatClampNeg 1 = 1 := by decide
theorem cn_2 : Int32.toNatClampNeg 2 = 2 := by decide
theorem cn_3 : Int32.toNatClampNeg 3 = 3 := by decide
theorem cn_4 : Int32.toNatClampNeg 4 = 4 := by decide
theorem cn_5 : Int32.toNatClampNeg 5 = 5 := by decide
theorem cn_6 : Int32.toNatClampNeg 6 = 6 := by decide
theorem cn_7 : Int32.toNatClampNeg 7 = 7 := by decide
theorem cn_8 : Int32.toNatClampNeg 8 = 8 := by decide
theorem cn_9 : Int32.toNatClampNeg 9 = 9 := by decide
theorem cn_10 : Int32.toNatClampNeg 10 = 10 := by decide
theorem cn_11 : Int32.toNatClampNeg 11 = 11 := by decide
theorem cn_12 : Int32.toNatClampNeg 12 = 12 := by decide
section MBS
variable {r k : Nat} {f z : Nat → Int32}
theorem mz3 (M : MB r f z) : z (Int32.toNatClampNeg 3) = Int32.ofNat r := by
  rw [cn_3]
  exact M.2.1.1
theorem mo0 (M : MB r f z) (hk : k < r) : f_X6_of z (Int32.ofNat k) 0 = f (8 * k) := by
  have h12 := M.1
  have e : f_X6_of z (Int32.ofNat k) 0 = z (19 + 9 * k + 0) := pz_of (c := 0) (by omega) (by omega)
  rw [e]
  exact (M.2.1.2 k hk).1
theorem oo0 (hr : r ≤ 12) (hk : k < r) : o_X6_of z (Int32.ofNat k) 0 := pz_oof (c := 0) (by omega) (by omega)
theorem op0 {v : Int32} (hr : r ≤ 12) (hk : k < r) : o_X6_put z (Int32.ofNat k) 0 v := pz_oput (c := 0) (by omega) (by omega)
theorem mp0 {v : Int32} (hr : r ≤ 12) (hk : k < r) : f_X6_put z (Int32.ofNat k) 0 v = upd z (19 + 9 * k + 0) v := pz_put (c := 0) (by omega) (by omega)
theorem mo1 (M : MB r f z) (hk : k < r) : f_X6_of z (Int32.ofNat k) 1 = f (8 * k + 1) := by
  have h12 := M.1
  have e : f_X6_of z (Int32.ofNat k) 1 = z (19 + 9 * k + 1) := pz_of (c := 1) (by omega) (by omega)
  rw [e]
  exact (M.2.1.2 k hk).2.1
theorem oo1 (hr : r ≤ 12) (hk : k < r) : o_X6_of z (Int32.ofNat k) 1 := pz_oof (c := 1) (by omega) (by omega)
theorem op1 {v : Int32} (hr : r ≤ 12) (hk : k < r) : o_X6_put z (Int32.ofNat k) 1 v := pz_oput (c := 1) (by omega) (by omega)
theorem mp1 {v : Int32} (hr : r ≤ 12) (hk : k < r) : f_X6_put z (Int32.ofNat k) 1 v = upd z (19 + 9 * k + 1) v := pz_put (c := 1) (by omega) (by omega)
theorem mo2 (M : MB r f z) (hk : k < r) : f_X6_of z (Int32.ofNat k) 2 = f (8 * k + 2) := by
  have h12 := M.1
  have e : f_X6_of z (Int32.ofNat k) 2 = z (19 + 9 * k + 2) := pz_of (c := 2) (by omega) (by omega)
  rw [e]
  exact (M.2.1.2 k hk).2.2.1
theorem oo2 (hr : r ≤ 12) (hk : k < r) : o_X6_of z (Int32.ofNat k) 2 := pz_oof (c := 2) (by omega) (by omega)
theorem op2 {v : Int32} (hr : r ≤ 12) (hk : k < r) : o_X6_put z (Int32.ofNat k) 2 v := pz_oput (c := 2) (by omega) (by omega)
theorem mp2 {v : Int32} (hr : r ≤ 12) (hk : k < r) : f_X6_put z (Int32.ofNat k) 2 v = upd z (19 + 9 * k + 2) v := pz_put (c := 2) (by omega) (by omega)
theorem mo3 (M : MB r f z) (hk : k < r) : f_X6_of z (Int32.ofNat k) 3 = f (8 * k + 3) := by
  have h12 := M.1
  have e : f_X6_of z (Int32.ofNat k) 3 = z (19 + 9 * k + 3) := pz_of (c := 3) (by omega) (by omega)
  rw [e]
  exact (M.2.1.2 k hk).2.2.2.1
theorem oo3 (hr : r ≤ 12) (hk : k < r) : o_X6_of z (Int32.ofNat k) 3 := pz_oof (c := 3) (by omega) (by omega)
theorem op3 {v : Int32} (hr : r ≤ 12) (hk : k < r) : o_X6_put z (Int32.ofNat k) 3 v := pz_oput (c := 3) (by omega) (by omega)
theorem mp3 {v : Int32} (hr : r ≤ 12) (hk : k < r) : f_X6_put z (Int32.ofNat k) 3 v = upd z (19 + 9 * k + 3) v := pz_put (c := 3) (by omega) (by omega)
theorem mo4 (M : MB r f z) (hk : k < r) : f_X6_of z (Int32.ofNat k) 4 = f (8 * k + 4) := by
  have h12 := M.1
  have e : f_X6_of z (Int32.ofNat k) 4 = z (19 + 9 * k + 4) := pz_of (c := 4) (by omega) (by omega)
  rw [e]
  exact (M.2.1.2 k hk).2.2.2.2.1
theorem oo4 (hr : r ≤ 12) (hk : k < r) : o_X6_of z (Int32.ofNat k) 4 := pz_oof (c := 4) (by omega) (by omega)
theorem op4 {v : Int32} (hr : r ≤ 12) (hk : k < r) : o_X6_put z (Int32.ofNat k) 4 v := pz_oput (c := 4) (by omega) (by omega)
theorem mp4 {v : Int32} (hr : r ≤ 12) (hk : k < r) : f_X6_put z (Int32.ofNat k) 4 v = upd z (19 + 9 * k + 4) v := pz_put (c := 4) (by omega) (by omega)
theorem mo5 (M : MB r f z) (hk : k < r) : f_X6_of z (Int32.ofNat k) 5 = vm_bi (decide (f (8 * k + 5) = -1)) := by
  have h12 := M.1
  have e : f_X6_of z (Int32.ofNat k) 5 = z (19 + 9 * k + 5) := pz_of (c := 5) (by omega) (by omega)
  rw [e]
  exact (M.2.1.2 k hk).2.2.2.2.2.1
theorem oo5 (hr : r ≤ 12) (hk : k < r) : o_X6_of z (Int32.ofNat k) 5 := pz_oof (c := 5) (by omega) (by omega)
theorem op5 {v : Int32} (hr : r ≤ 12) (hk : k < r) : o_X6_put z (Int32.ofNat k) 5 v := pz_oput (c := 5) (by omega) (by omega)
theorem mp5 {v : Int32} (hr : r ≤ 12) (hk : k < r) : f_X6_put z (Int32.ofNat k) 5 v = upd z (19 + 9 * k + 5) v := pz_put (c := 5) (by omega) (by omega)
theorem mo6 (M : MB r f z) (hk : k < r) : f_X6_of z (Int32.ofNat k) 6 = f (8 * k + 6) := by
  have h12 := M.1
  have e : f_X6_of z (Int32.ofNat k) 6 = z (19 + 9 * k + 6) := pz_of (c := 6) (by omega) (by omega)
  rw [e]
  exact (M.2.1.2 k hk).2.2.2.2.2.2.1
theorem oo6 (hr : r ≤ 12) (hk : k < r) : o_X6_of z (Int32.ofNat k) 6 := pz_oof (c := 6) (by omega) (by omega)
theorem op6 {v : Int32} (hr : r ≤ 12) (hk : k < r) : o_X6_put z (Int32.ofNat k) 6 v := pz_oput (c := 6) (by omega) (by omega)
theorem mp6 {v : Int32} (hr : r ≤ 12) (hk : k < r) : f_X6_put z (Int32.ofNat k) 6 v = upd z (19 + 9 * k + 6) v := pz_put (c := 6) (by omega) (by omega)
theorem mo7 (M : MB r f z) (hk : k < r) : f_X6_of z (Int32.ofNat k) 7 = f (8 * k + 7) := by
  have h12 := M.1
  have e : f_X6_of z (Int32.ofNat k) 7 = z (19 + 9 * k + 7) := pz_of (c := 7) (by omega) (by omega)
  rw [e]
  exact (M.2.1.2 k hk).2.2.2.2.2.2.2.1
theorem oo7 (hr : r ≤ 12) (hk : k < r) : o_X6_of z (Int32.ofNat k) 7 := pz_oof (c := 7) (by omega) (by omega)
theorem op7 {v : Int32} (hr : r ≤ 12) (hk : k < r) : o_X6_put z (Int32.ofNat k) 7 v := pz_oput (c := 7) (by omega) (by omega)
theorem mp7 {v : Int32} (hr : r ≤ 12) (hk : k < r) : f_X6_put z (Int32.ofNat k) 7 v = upd z (19 + 9 * k + 7) v := pz_put (c := 7) (by omega) (by omega)
theorem mo8 (M : MB r f z) (hk : k < r) : f_X6_of z (Int32.ofNat k) 8 = f (8 * k + 5) := by
  have h12 := M.1
  have e : f_X6_of z (Int32.ofNat k) 8 = z (19 + 9 * k + 8) := pz_of (c := 8) (by omega) (by omega)
  rw [e]
  exact (M.2.1.2 k hk).2.2.2.2.2.2.2.2
theorem oo8 (hr : r ≤ 12) (hk : k < r) : o_X6_of z (Int32.ofNat k) 8 := pz_oof (c := 8) (by omega) (by omega)
theorem op8 {v : Int32} (hr : r ≤ 12) (hk : k < r) : o_X6_put z (Int32.ofNat k) 8 v := pz_oput (c := 8) (by omega) (by omega)
theorem mp8 {v : Int32} (hr : r ≤ 12) (hk : k < r) : f_X6_put z (Int32.ofNat k) 8 v = upd z (19 + 9 * k + 8) v := pz_put (c := 8) (by omega) (by omega)
theorem ms_c (M : MB r f z) (hk : k < r) : f_X2_stands (Int32.ofNat r) f (Int32.ofNat k) = decide (f (8 * k + 5) = -1) := by
  have h12 := M.1
  rw [f_X2_stands, if_neg (pn_nn (by omega)), f_X2_total, if_neg (by rw [pn_le (by omega) (by omega)]; omega), p8_5 h12 hk]
  by_cases h : f (8 * k + 5) = -1
  · rw [if_pos h, decide_eq_true h]
  · rw [if_neg h, decide_eq_false h]
theorem ms_z (M : MB r f z) (hk : k < r) : f_X6_stands z (Int32.ofNat k) = decide (f (8 * k + 5) = -1) ∧ o_X6_stands z (Int32.ofNat k) := by
  have h12 := M.1
  rw [f_X6_stands, o_X6_stands, mo5 M hk]
  refine ⟨?_, oo5 h12 hk, ?_⟩
  · cases decide (f (8 * k + 5) = -1) with
    | true => rw [if_pos (by decide)]
    | false => rw [if_neg (by decide)]
  · split <;> trivial
theorem ms_e (M : MB r f z) (hk : k < r) : f_X2_stands (Int32.ofNat r) f (Int32.ofNat k) = f_X6_stands z (Int32.ofNat k) := (ms_c M hk).trans (ms_z M hk).1.symm
theorem pn_pred {j : Nat} (hr : r ≤ 12) (hj : j < 2147483648) : (Int32.ofNat r - 1 < Int32.ofNat j) ↔ r ≤ j := by
  have e3 : (Int32.ofNat r - 1).toInt = (r : Int) - 1 := by
    rw [Int32.toInt_sub, pn_toInt (by omega), show (1 : Int32).toInt = 1 from rfl, Int.bmod_eq_of_le (by omega) (by omega)]
  rw [Int32.lt_iff_toInt_lt, e3, pn_toInt hj]
  omega
/-- an argument: a mandate's number, or none -/
theorem within_ix {p : Int32} (hr : r ≤ 12) : (f_X6_within p 0 (Int32.ofNat r - 1) = true ∧ ¬ p < 0 ∧ p < Int32.ofNat r ∧ ∃ k : Nat, k < r ∧ p = Int32.ofNat k) ∨ (f_X6_within p 0 (Int32.ofNat r - 1) = false ∧ (p < 0 ∨ ¬ p < Int32.ofNat r)) := by
  by_cases h : p < 0
  · right
    rw [f_X6_within, if_pos h]
    exact ⟨rfl, Or.inl h⟩
  · obtain ⟨k, hk, rfl⟩ := pn_of h
    rw [f_X6_within, if_neg h]
    by_cases h2 : r ≤ k
    · right
      rw [if_pos ((pn_pred hr hk).mpr h2)]
      refine ⟨rfl, Or.inr ?_⟩
      rw [pn_lt hk (by omega)]
      omega
    · left
      rw [if_neg (fun q => h2 ((pn_pred hr hk).mp q))]
      refine ⟨rfl, h, ?_, k, by omega, rfl⟩
      rw [pn_lt hk (by omega)]
      omega
theorem mi_ (M : MB r f z) (p : Int32) : (f_X6_isMandate z p = true ∧ f_X5_checkMandate (Int32.ofNat r) p = 0 ∧ ∃ k : Nat, k < r ∧ p = Int32.ofNat k) ∨ (f_X6_isMandate z p = false ∧ f_X5_checkMandate (Int32.ofNat r) p = 1 ∧ ¬ ∃ k : Nat, k < r ∧ p = Int32.ofNat k) := by
  have h12 := M.1
  rw [f_X6_isMandate, mz3 M, f_X5_checkMandate, f_X2_total]
  rcases within_ix (p := p) h12 with ⟨h1, h2, h3, h4⟩ | ⟨h1, h2⟩
  · left
    rw [h1, if_neg h2, if_pos h3]
    exact ⟨rfl, rfl, h4⟩
  · right
    refine ⟨h1, ?_, ?_⟩
    · by_cases h : p < 0
      · rw [if_pos h]; rfl
      · rw [if_neg h, if_neg (h2.resolve_left h)]; rfl
    · rintro ⟨k, hk, rfl⟩
      rcases h2 with h2 | h2
      · exact pn_nn (by omega) h2
      · rw [pn_lt (by omega) (by omega)] at h2; omega
theorem mlk (M : MB r f z) (hk : k < r) : lk_ k (f (8 * k)) := (M.2.2 k hk).1
theorem mwu (M : MB r f z) : wu_ r (fun k => f (8 * k)) := fun k hk => (M.2.2 k hk).1
/-! gaps and the narrowest -/
theorem mgap (M : MB r f z) (hk : k < r) : f_X2_leftFor (Int32.ofNat r) f (Int32.ofNat k) = f_X6_gapOf z (Int32.ofNat k) ∧ o_X6_gapOf z (Int32.ofNat k) := by
  have h12 := M.1
  rw [f_X2_leftFor, f_X6_gapOf, o_X6_gapOf, p8_3 h12 hk, p8_6 h12 hk, mo3 M hk, mo6 M hk]
  exact ⟨rfl, oo3 h12 hk, oo6 h12 hk, trivial⟩
theorem e12_ : (12 : Int32) = Int32.ofNat 12 := rfl
theorem le12 {s : Nat} (hs : s < 12) : ¬ (12 : Int32) ≤ Int32.ofNat s := by
  rw [e12_, pn_le (by omega) (by omega)]
  omega
theorem mnar (M : MB r f z) : ∀ (n2 n1 s k : Nat) (best x : Int32), k ≤ r → lk_ k x → k < n2 → 12 - s < n1 → s + k ≤ 12 → (∃ b : Nat, b < r ∧ best = Int32.ofNat b) → f_X2_narrowestOfChain_j7 (Int32.ofNat r) f n1 best x (Int32.ofNat s) = f_X6_narrowestOf_j4 z n2 best x ∧ o_X6_narrowestOf_j4 z n2 best x ∧ ∃ b : Nat, b < r ∧ f_X6_narrowestOf_j4 z n2 best x = Int32.ofNat b := by
  have h12 := M.1
  intro n2
  induction n2 with
  | zero => intro n1 s k best x hkr hx hn; omega
  | succ n2 ih =>
    intro n1 s k best x hkr hx hn hn1 hs hb
    cases n1 with
    | zero => omega
    | succ n1 =>
      rw [f_X2_narrowestOfChain_j7, f_X6_narrowestOf_j4, o_X6_narrowestOf_j4]
      rcases hx with rfl | ⟨j, hj, rfl⟩
      · rw [if_pos pn_m1, if_pos rfl, if_pos rfl, ite_self]
        exact ⟨rfl, trivial, hb⟩
      · obtain ⟨b, hbr, rfl⟩ := hb
        have hjr : j < r := by omega
        rw [if_neg (le12 (by omega)), if_neg (pn_nn (by omega)), if_neg (pn_nm (by omega)), if_neg (pn_nm (by omega)), (mgap M hbr).1, (mgap M hjr).1]
        by_cases hc : f_X6_gapOf z (Int32.ofNat b) ≤ f_X6_gapOf z (Int32.ofNat j)
        · rw [if_pos hc, if_pos hc, if_pos hc, f_X2_narrowestOfChain_j33, f_X6_narrowestOf_j27, o_X6_narrowestOf_j27, p8_0 h12 hjr, mo0 M hjr, pn_succ]
          obtain ⟨a1, a2, a3⟩ := ih n1 (s + 1) j (Int32.ofNat b) (f (8 * j)) (by omega) (mlk M hjr) (by omega) (by omega) (by omega) ⟨b, hbr, rfl⟩
          exact ⟨a1, ⟨(mgap M hjr).2, (mgap M hbr).2, oo0 h12 hjr, a2⟩, a3⟩
        · rw [if_neg hc, if_neg hc, if_neg hc, f_X2_narrowestOfChain_j33, f_X6_narrowestOf_j27, o_X6_narrowestOf_j27, p8_0 h12 hjr, mo0 M hjr, pn_succ]
          obtain ⟨a1, a2, a3⟩ := ih n1 (s + 1) j (Int32.ofNat j) (f (8 * j)) (by omega) (mlk M hjr) (by omega) (by omega) (by omega) ⟨j, hjr, rfl⟩
          exact ⟨a1, ⟨(mgap M hjr).2, (mgap M hbr).2, oo0 h12 hjr, a2⟩, a3⟩
theorem lk_self (hk : k < r) : lk_ (k + 1) (Int32.ofNat k) := Or.inr ⟨k, by omega, rfl⟩
theorem mnarrow (M : MB r f z) (hk : k < r) : f_X2_narrowestOfChain (Int32.ofNat r) f (Int32.ofNat k) = f_X6_narrowestOf z (Int32.ofNat k) ∧ o_X6_narrowestOf z (Int32.ofNat k) ∧ ∃ b : Nat, b < r ∧ f_X6_narrowestOf z (Int32.ofNat k) = Int32.ofNat b := by
  have h12 := M.1
  exact mnar M 1000 13 0 (k + 1) (Int32.ofNat k) (Int32.ofNat k) (by omega) (lk_self hk) (by omega) (by omega) (by omega) ⟨k, hk, rfl⟩
/-! reasons and room -/
theorem vb_t {b : Bool} (h : b = true) : ¬ vm_bi b = 0 := by rw [h]; decide
theorem vb_f {b : Bool} (h : b = false) : vm_bi b = 0 := by rw [h]; rfl
theorem mreason (M : MB r f z) (hk : k < r) (a : Int32) : f_X2_refusal (Int32.ofNat r) f (Int32.ofNat k) a = f_X6_reason z (Int32.ofNat k) a ∧ o_X6_reason z (Int32.ofNat k) a := by
  have h12 := M.1
  obtain ⟨n1, n2, b, hb, n3⟩ := mnarrow M hk
  rw [f_X2_refusal, f_X6_reason, o_X6_reason, ms_e M hk, p8_2 h12 hk, mo2 M hk, n1, n3, (mgap M hb).1]
  refine ⟨rfl, (ms_z M hk).2, ?_⟩
  split
  · trivial
  · refine ⟨oo2 h12 hk, ?_⟩
    split
    · refine ⟨n2, (mgap M hb).2, ?_⟩
      split <;> trivial
    · trivial
theorem i32_le {a b : Int32} : (a ≤ b) ↔ ¬ b < a := by
  rw [Int32.le_iff_toInt_le, Int32.lt_iff_toInt_lt]
  omega
theorem i32_nle {a b : Int32} : (¬ a ≤ b) ↔ b < a := by
  rw [Int32.le_iff_toInt_le, Int32.lt_iff_toInt_lt]
  omega
theorem mroom0 {g e : Int32} {b : Bool} : (if vm_bi b = 0 then (0 : Int32) else (if 0 < (if g < e then g else e) then (if g < e then g else e) else 0)) = (if e ≤ g then (if vm_bi b = 0 then (0 : Int32) else (if e ≤ 0 then 0 else e)) else (if vm_bi b = 0 then (0 : Int32) else (if g ≤ 0 then 0 else g))) := by
  by_cases h : g < e
  · rw [if_pos h, if_neg (i32_nle.mpr h)]
    by_cases h2 : vm_bi b = 0
    · rw [if_pos h2, if_pos h2]
    · rw [if_neg h2, if_neg h2]
      by_cases h3 : 0 < g
      · rw [if_pos h3, if_neg (i32_nle.mpr h3)]
      · rw [if_neg h3, if_pos (i32_le.mpr h3)]
  · rw [if_neg h, if_pos (i32_le.mpr h)]
    by_cases h2 : vm_bi b = 0
    · rw [if_pos h2, if_pos h2]
    · rw [if_neg h2, if_neg h2]
      by_cases h3 : 0 < e
      · rw [if_pos h3, if_neg (i32_nle.mpr h3)]
      · rw [if_neg h3, if_pos (i32_le.mpr h3)]
theorem mroom (M : MB r f z) (hk : k < r) (u : Int32) : f_X2_greatestAmount (Int32.ofNat r) f (Int32.ofNat k) u = f_X6_roomOf z (Int32.ofNat k) u := by
  have h12 := M.1
  obtain ⟨n1, n2, b, hb, n3⟩ := mnarrow M hk
  have g := (mgap M hb).1
  rw [f_X2_greatestAmount, f_X6_roomOf, f_X6_roomOf_j31, f_X2_greatestAmount_j31, f_X2_greatestAmount_j31, f_X2_mostUrgent, f_X6_roomOf_j45, f_X6_roomOf_j45, f_X6_roomOf_j45, ms_e M hk, p8_2 h12 hk, mo2 M hk, n1, n3, g]
  by_cases hu : u = 0
  · rw [if_pos hu, if_pos hu]
    exact mroom0
  · rw [if_neg hu, if_neg hu]
    exact mroom0

end MBS
