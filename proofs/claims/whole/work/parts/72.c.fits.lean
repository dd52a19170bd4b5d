/-! WHAT FITS: places, limits -/
section MBF
variable {r k : Nat} {f z : Nat → Int32}
theorem i32_nlt {a b : Int32} : (¬ a < b) ↔ b ≤ a := by
  rw [Int32.le_iff_toInt_le, Int32.lt_iff_toInt_lt]
  omega
/-- an upper: none, or a mandate -/
def up_ (r : Nat) (p : Int32) : Prop := p = -1 ∨ ∃ k : Nat, k < r ∧ p = Int32.ofNat k
theorem mfits (M : MB r f z) {p : Int32} (hp : up_ r p) (a b : Int32) : f_X2_fitsUnder (Int32.ofNat r) f p a b = f_X6_areWithin z a b p ∧ o_X6_areWithin z a b p := by
  have h12 := M.1
  rw [f_X2_fitsUnder, f_X6_areWithin, o_X6_areWithin]
  rcases hp with rfl | ⟨k, hk, rfl⟩
  · rw [if_pos rfl, if_pos rfl, if_pos rfl]
    exact ⟨rfl, trivial⟩
  · rw [if_neg (pn_nm (by omega)), if_neg (pn_nm (by omega)), if_neg (pn_nm (by omega)), p8_2 h12 hk, p8_3 h12 hk, mo2 M hk, mo3 M hk]
    refine ⟨rfl, oo2 h12 hk, ?_⟩
    split
    · trivial
    · refine ⟨oo3 h12 hk, ?_⟩
      split <;> trivial
theorem mplace (M : MB r f z) {p : Int32} (hp : up_ r p) (a b lg : Int32) (hl : z 1 = lg) : f_X0_hasPlaceUnder (Int32.ofNat r) f lg p a b = f_X6_canGive z p a b ∧ o_X6_canGive z p a b ∧ (f_X6_canGive z p a b = true → r < 12 ∧ (∀ k : Nat, p = Int32.ofNat k → k < r → f (8 * k + 5) = -1)) := by
  have h12 := M.1
  obtain ⟨w1, w2⟩ := mfits M hp a b
  have j31 : f_X0_hasPlaceUnder_j31 (Int32.ofNat r) f lg p a b = f_X6_canGive_j29 z p a b true ∧ o_X6_canGive_j29 z p a b true := by
    rw [f_X0_hasPlaceUnder_j31, f_X6_canGive_j29, o_X6_canGive_j29, if_neg (vb_t rfl : ¬ vm_bi true = 0), if_neg (vb_t rfl : ¬ vm_bi true = 0), w1]
    by_cases hw : vm_bi (f_X6_areWithin z a b p) = 0
    · rw [if_pos hw, if_pos hw, if_pos hw]
      exact ⟨rfl, w2, trivial⟩
    · rw [if_neg hw, if_neg hw, if_neg hw]
      rcases hp with rfl | ⟨k, hk, rfl⟩
      · have hcl : f_X2_chainLength (Int32.ofNat r) f (-1) = 0 := by
          rw [f_X2_chainLength, if_neg (by decide)]
        rw [if_pos rfl, if_pos rfl, hcl, f_X6_canGive_j60, o_X6_canGive_j60, cn_1, hl]
        refine ⟨rfl, w2, ?_⟩
        split <;> trivial
      · obtain ⟨-, c1, c2⟩ := mchainOf M hk
        rw [if_neg (pn_nm (by omega)), if_neg (pn_nm (by omega)), c1, cn_1, hl]
        refine ⟨rfl, w2, c2, ?_⟩
        split <;> trivial
  have j28 : f_X6_canGive_j28 z p a b = false ∧ o_X6_canGive_j28 z p a b := by
    rw [f_X6_canGive_j28, o_X6_canGive_j28, f_X6_canGive_j29, o_X6_canGive_j29, if_pos (vb_f rfl), if_pos (vb_f rfl)]
    exact ⟨rfl, trivial⟩
  rw [f_X0_hasPlaceUnder, f_X6_canGive, o_X6_canGive, f_X3_isFull, mz3 M, e12_]
  by_cases hf : r < 12
  · have hle : ¬ Int32.ofNat 12 ≤ Int32.ofNat r := by rw [pn_le (by omega) (by omega)]; omega
    rw [if_pos ((pn_lt (by omega) (by omega)).mpr hf), if_pos (vb_f rfl : vm_bi false = 0), if_neg hle, if_neg hle]
    rcases hp with rfl | ⟨k, hk, rfl⟩
    · rw [if_pos rfl, if_pos rfl, if_pos rfl, f_X6_canGive_j24, o_X6_canGive_j24]
      refine ⟨j31.1, j31.2, fun _ => ⟨hf, fun k hk hkr => absurd hk.symm (pn_nm (by omega))⟩⟩
    · obtain ⟨s1, s2⟩ := ms_z M hk
      rw [if_neg (pn_nm (by omega)), if_neg (pn_nm (by omega)), if_neg (pn_nm (by omega)), ms_e M hk, s1]
      by_cases h5 : f (8 * k + 5) = -1
      · rw [decide_eq_true h5, if_neg (vb_t rfl), if_neg (vb_t rfl), if_neg (vb_t rfl), f_X6_canGive_j24, o_X6_canGive_j24]
        refine ⟨j31.1, ⟨s2, j31.2⟩, fun _ => ⟨hf, fun k2 hk2 hkr => ?_⟩⟩
        rw [← pn_inj (by omega) (by omega) hk2]
        exact h5
      · rw [decide_eq_false h5, if_pos (vb_f rfl), if_pos (vb_f rfl), if_pos (vb_f rfl), j28.1]
        exact ⟨rfl, ⟨s2, j28.2⟩, fun q => absurd q (by decide)⟩
  · have hle : Int32.ofNat 12 ≤ Int32.ofNat r := by rw [pn_le (by omega) (by omega)]; omega
    rw [if_neg (fun q => hf ((pn_lt (by omega) (by omega)).mp q)), if_neg (vb_t rfl : ¬ vm_bi true = 0), if_pos hle, if_pos hle, j28.1]
    exact ⟨rfl, j28.2, fun q => absurd q (by decide)⟩
/-! can it have these limits? -/
theorem mcl (M : MB r f z) {a : Nat} (ha : a < r) (p2 p3 : Int32) : ∀ (n1 n2 i : Nat), i ≤ r → r - i < n1 → r - i < n2 → f_X2_canHaveLimits_j25 (Int32.ofNat r) f (Int32.ofNat a) p2 p3 n1 (Int32.ofNat i) = f_X6_canLimit_j33 z (Int32.ofNat a) p2 p3 n2 true (Int32.ofNat i) ∧ f_X6_canLimit_j33 z (Int32.ofNat a) p2 p3 n2 false (Int32.ofNat i) = false ∧ (∀ b : Bool, o_X6_canLimit_j33 z (Int32.ofNat a) p2 p3 n2 b (Int32.ofNat i)) := by
  have h12 := M.1
  intro n1
  induction n1 with
  | zero => intro n2 i h1 h2; omega
  | succ n1 ih =>
    intro n2 i h1 h2 h3
    cases n2 with
    | zero => omega
    | succ n2 =>
      rw [f_X2_canHaveLimits_j25, f_X6_canLimit_j33, f_X6_canLimit_j33, f_X2_total, mz3 M]
      by_cases hi : i = r
      · subst hi
        rw [if_pos (lez h12 (Nat.le_refl _) (by omega)), if_pos (lez h12 (Nat.le_refl _) (by omega)), if_pos (lez h12 (Nat.le_refl _) (by omega))]
        refine ⟨rfl, rfl, fun b => ?_⟩
        rw [o_X6_canLimit_j33, mz3 M, if_pos (lez h12 (Nat.le_refl _) (by omega))]
        trivial
      · have hir : i < r := by omega
        obtain ⟨b1, b2, b3⟩ := ih n2 (i + 1) (by omega) (by omega) (by omega)
        obtain ⟨s1, s2⟩ := ms_z M hir
        refine ⟨?_, ?_, fun b => ?_⟩
        · rw [if_neg (ltz h12 hir), if_neg (ltz h12 hir), ms_e M hir, s1, p8_0 h12 hir, mo0 M hir, f_X2_canHaveLimits_j61, f_X2_canHaveLimits_j62, f_X2_canHaveLimits_j62, f_X2_canHaveLimits_j99, f_X6_canLimit_j68, f_X6_canLimit_j69, f_X6_canLimit_j69, f_X6_canLimit_j103, f_X6_canLimit_j107, f_X6_canLimit_j108, f_X6_canLimit_j108, p8_2 h12 hir, p8_3 h12 hir, mo2 M hir, mo3 M hir, pn_succ, b1, b2]
          rw [if_pos (vb_f rfl : vm_bi false = 0), if_neg (vb_t rfl : ¬ vm_bi true = 0), if_neg (vb_t rfl : ¬ vm_bi true = 0), if_neg (vb_t rfl : ¬ vm_bi true = 0), if_neg (vb_t rfl : ¬ vm_bi true = 0), if_pos (vb_f rfl : vm_bi false = 0)]
          by_cases hu : f (8 * i) = Int32.ofNat a
          · rw [if_pos hu, if_pos hu]
            split
            · rfl
            · split
              · rfl
              · by_cases h9 : p3 < f (8 * i + 3)
                · rw [if_pos h9, if_neg (i32_nle.mpr h9)]
                · rw [if_neg h9, if_pos (i32_nlt.mp h9)]
          · rw [if_neg hu, if_neg hu, ite_self]
        · rw [if_neg (ltz h12 hir), f_X6_canLimit_j68, f_X6_canLimit_j69, f_X6_canLimit_j69, f_X6_canLimit_j107, f_X6_canLimit_j108, pn_succ, b2, if_pos (vb_f rfl : vm_bi false = 0), if_pos (vb_f rfl : vm_bi false = 0), ite_self, ite_self]
        · have q68 : ∀ c : Bool, o_X6_canLimit_j69 z p2 p3 b (Int32.ofNat i) (o_X6_canLimit_j33 z (Int32.ofNat a) p2 p3 n2) c := fun c => by
            rw [o_X6_canLimit_j69, o_X6_canLimit_j107, o_X6_canLimit_j108, o_X6_canLimit_j103, o_X6_canLimit_j108, pn_succ]
            split
            · exact b3 _
            · split
              · exact b3 _
              · refine ⟨oo2 h12 hir, ?_⟩
                split
                · exact b3 _
                · refine ⟨oo3 h12 hir, ?_⟩
                  split <;> exact b3 _
          rw [o_X6_canLimit_j33, mz3 M, if_neg (ltz h12 hir)]
          refine ⟨s2, ?_⟩
          split
          · exact q68 _
          · refine ⟨oo0 h12 hir, ?_⟩
            split <;> exact q68 _
/-- below the mandate itself nobody lies under it -/
theorem mcl0 (M : MB r f z) {a : Nat} (ha : a < r) (p2 p3 : Int32) (n : Nat) (b : Bool) : ∀ (d i : Nat), i + d = a + 1 → f_X6_canLimit_j33 z (Int32.ofNat a) p2 p3 (d + n) true (Int32.ofNat i) = f_X6_canLimit_j33 z (Int32.ofNat a) p2 p3 n true (Int32.ofNat (a + 1)) := by
  have h12 := M.1
  intro d
  induction d with
  | zero =>
    intro i hi
    have : i = a + 1 := by omega
    subst this
    rw [Nat.zero_add]
  | succ d ih =>
    intro i hi
    have hir : i < r := by omega
    have hne : ¬ f (8 * i) = Int32.ofNat a := fun q => by
      rcases mlk M hir with h1 | ⟨j, hj, h1⟩
      · rw [h1] at q; exact pn_nm (by omega) q.symm
      · rw [h1] at q
        have := pn_inj (by omega) (by omega) q
        omega
    rw [show d + 1 + n = (d + n) + 1 by omega, f_X6_canLimit_j33, mz3 M, if_neg (ltz h12 hir), mo0 M hir, if_neg hne, f_X6_canLimit_j68, f_X6_canLimit_j69, f_X6_canLimit_j103, f_X6_canLimit_j108, pn_succ, ih (i + 1) (by omega), if_neg (vb_t rfl : ¬ vm_bi true = 0), if_pos (vb_f rfl : vm_bi false = 0), ite_self]
theorem mlimit (M : MB r f z) {a : Nat} (ha : a < r) (p2 p3 : Int32) : (if vm_bi (f_X2_stands (Int32.ofNat r) f (Int32.ofNat a)) = 0 then false else f_X2_canHaveLimits (Int32.ofNat r) f (Int32.ofNat a) p2 p3) = f_X6_canLimit z (Int32.ofNat a) p2 p3 ∧ o_X6_canLimit z (Int32.ofNat a) p2 p3 := by
  have h12 := M.1
  obtain ⟨s1, s2⟩ := ms_z M ha
  obtain ⟨w1, w2⟩ := mfits M (p := f (8 * a)) (by
    rcases mlk M ha with h | ⟨j, hj, h⟩
    · exact Or.inl h
    · exact Or.inr ⟨j, by omega, h⟩) p2 p3
  obtain ⟨b1, -, -⟩ := mcl M ha p2 p3 (r - (a + 1) + 1) (r - (a + 1) + 1) (a + 1) (by omega) (by omega) (by omega)
  obtain ⟨-, c2, c3⟩ := mcl M ha p2 p3 (r + 1) (r + 1) 0 (by omega) (by omega) (by omega)
  have c4 := mcl0 M ha p2 p3 (r - (a + 1) + 1) true (a + 1) 0 (by omega)
  rw [show a + 1 + (r - (a + 1) + 1) = r + 1 by omega] at c4
  have hd : ∀ b : Bool, f_X6_canLimit_j28 z (Int32.ofNat a) p2 p3 b = f_X6_canLimit_j33 z (Int32.ofNat a) p2 p3 (r + 1) b (Int32.ofNat 0) := fun b => by
    rw [f_X6_canLimit_j28, mz3 M, toI (by omega)]
    rfl
  have hdo : ∀ b : Bool, o_X6_canLimit_j28 z (Int32.ofNat a) p2 p3 b := fun b => by
    rw [o_X6_canLimit_j28, mz3 M, toI (by omega)]
    exact c3 b
  rw [f_X2_canHaveLimits, f_X6_canLimit, o_X6_canLimit, f_X6_canLimit_j27, o_X6_canLimit_j27, hd, hd, ms_e M ha, p8_0 h12 ha, mo0 M ha, w1, f_X2_total, pn_succ, toI2 (by omega) (by omega), b1, c2, c4]
  refine ⟨rfl, s2, ?_⟩
  split
  · exact hdo _
  · refine ⟨oo0 h12 ha, w2, ?_⟩
    split <;> exact hdo _
/-! sums over the mandates -/
theorem mstanding (M : MB r f z) : ∀ (n1 n2 i : Nat) (acc : Int32), i ≤ r → r - i < n1 → r - i < n2 → f_X2_standingTotal_j4 (Int32.ofNat r) f n1 acc (Int32.ofNat i) = f_X6_standing_j4 z n2 acc (Int32.ofNat i) ∧ o_X6_standing_j4 z n2 acc (Int32.ofNat i) := by
  have h12 := M.1
  intro n1
  induction n1 with
  | zero => intro n2 i acc h1 h2; omega
  | succ n1 ih =>
    intro n2 i acc h1 h2 h3
    cases n2 with
    | zero => omega
    | succ n2 =>
      rw [f_X2_standingTotal_j4, f_X6_standing_j4, o_X6_standing_j4, f_X2_total, mz3 M]
      by_cases hi : i = r
      · subst hi
        rw [if_pos (lez h12 (Nat.le_refl _) (by omega)), if_pos (lez h12 (Nat.le_refl _) (by omega)), if_pos (lez h12 (Nat.le_refl _) (by omega))]
        exact ⟨rfl, trivial⟩
      · have hir : i < r := by omega
        rw [if_neg (ltz h12 hir), if_neg (ltz h12 hir), if_neg (ltz h12 hir), ms_c M hir, mo5 M hir, f_X2_standingTotal_j26, f_X2_standingTotal_j26, pn_succ]
        have hc := fun q => ih n2 (i + 1) q (by omega) (by omega) (by omega)
        cases decide (f (8 * i + 5) = -1) with
        | true => rw [if_neg (vb_t rfl)]; exact ⟨(hc _).1, oo5 h12 hir, (hc _).2⟩
        | false => rw [if_pos (vb_f rfl)]; exact ⟨(hc _).1, oo5 h12 hir, (hc _).2⟩
theorem mstandingT (M : MB r f z) : f_X2_standingTotal (Int32.ofNat r) f = f_X6_standing z ∧ o_X6_standing z := by
  have h12 := M.1
  rw [f_X2_standingTotal, f_X6_standing, o_X6_standing, f_X2_total, mz3 M, toI (by omega)]
  exact mstanding M (r + 1) (r + 1) 0 0 (by omega) (by omega) (by omega)
theorem mheld (M : MB r f z) (p : Int32) : ∀ (n1 n2 i : Nat) (acc : Int32), i ≤ r → r - i < n1 → r - i < n2 → f_X2_standingHeldBy_j4 (Int32.ofNat r) f p n1 acc (Int32.ofNat i) = f_X6_heldBy_j5 z p 5 n2 acc (Int32.ofNat i) ∧ o_X6_heldBy_j5 z p 5 n2 acc (Int32.ofNat i) := by
  have h12 := M.1
  intro n1
  induction n1 with
  | zero => intro n2 i acc h1 h2; omega
  | succ n1 ih =>
    intro n2 i acc h1 h2 h3
    cases n2 with
    | zero => omega
    | succ n2 =>
      rw [f_X2_standingHeldBy_j4, f_X6_heldBy_j5, o_X6_heldBy_j5, f_X2_total, mz3 M]
      by_cases hi : i = r
      · subst hi
        rw [if_pos (lez h12 (Nat.le_refl _) (by omega)), if_pos (lez h12 (Nat.le_refl _) (by omega)), if_pos (lez h12 (Nat.le_refl _) (by omega))]
        exact ⟨rfl, trivial⟩
      · have hir : i < r := by omega
        rw [if_neg (ltz h12 hir), if_neg (ltz h12 hir), if_neg (ltz h12 hir), ms_c M hir, mo5 M hir, mo1 M hir, p8_1 h12 hir, f_X2_standingHeldBy_j38, f_X2_standingHeldBy_j39, f_X2_standingHeldBy_j39, f_X6_heldBy_j39, f_X6_heldBy_j39, o_X6_heldBy_j39, o_X6_heldBy_j39, pn_succ]
        have hc := fun q => ih n2 (i + 1) q (by omega) (by omega) (by omega)
        by_cases hh : f (8 * i + 1) = p
        · rw [if_pos hh, if_pos hh, if_pos hh]
          cases decide (f (8 * i + 5) = -1) with
          | true => rw [if_neg (vb_t rfl)]; exact ⟨(hc _).1, oo1 h12 hir, oo5 h12 hir, (hc _).2⟩
          | false => rw [if_pos (vb_f rfl)]; exact ⟨(hc _).1, oo1 h12 hir, oo5 h12 hir, (hc _).2⟩
        · rw [if_neg hh, if_neg hh, if_neg hh, ite_self]
          exact ⟨(hc _).1, oo1 h12 hir, (hc _).2⟩
theorem mspent (M : MB r f z) (p : Int32) : ∀ (n1 n2 i : Nat) (acc : Int32), i ≤ r → r - i < n1 → r - i < n2 → f_X2_spentByHolder_j4 (Int32.ofNat r) f p n1 acc (Int32.ofNat i) = f_X6_heldBy_j5 z p 7 n2 acc (Int32.ofNat i) ∧ o_X6_heldBy_j5 z p 7 n2 acc (Int32.ofNat i) := by
  have h12 := M.1
  intro n1
  induction n1 with
  | zero => intro n2 i acc h1 h2; omega
  | succ n1 ih =>
    intro n2 i acc h1 h2 h3
    cases n2 with
    | zero => omega
    | succ n2 =>
      rw [f_X2_spentByHolder_j4, f_X6_heldBy_j5, o_X6_heldBy_j5, f_X2_total, mz3 M]
      by_cases hi : i = r
      · subst hi
        rw [if_pos (lez h12 (Nat.le_refl _) (by omega)), if_pos (lez h12 (Nat.le_refl _) (by omega)), if_pos (lez h12 (Nat.le_refl _) (by omega))]
        exact ⟨rfl, trivial⟩
      · have hir : i < r := by omega
        rw [if_neg (ltz h12 hir), if_neg (ltz h12 hir), if_neg (ltz h12 hir), mo7 M hir, mo1 M hir, p8_1 h12 hir, p8_7 h12 hir, f_X2_spentByHolder_j40, f_X2_spentByHolder_j40, f_X6_heldBy_j39, f_X6_heldBy_j39, o_X6_heldBy_j39, o_X6_heldBy_j39, pn_succ]
        have hc := fun q => ih n2 (i + 1) q (by omega) (by omega) (by omega)
        by_cases hh : f (8 * i + 1) = p
        · rw [if_pos hh, if_pos hh, if_pos hh]
          exact ⟨(hc _).1, oo1 h12 hir, oo7 h12 hir, (hc _).2⟩
        · rw [if_neg hh, if_neg hh, if_neg hh]
          exact ⟨(hc _).1, oo1 h12 hir, (hc _).2⟩
theorem mheldBy (M : MB r f z) (p : Int32) : f_X2_standingHeldBy (Int32.ofNat r) f p = f_X6_heldBy z p 5 ∧ o_X6_heldBy z p 5 := by
  have h12 := M.1
  rw [f_X2_standingHeldBy, f_X6_heldBy, o_X6_heldBy, f_X2_total, mz3 M, toI (by omega)]
  exact mheld M p (r + 1) (r + 1) 0 0 (by omega) (by omega) (by omega)
theorem mspentBy (M : MB r f z) (p : Int32) : f_X2_spentByHolder (Int32.ofNat r) f p = f_X6_heldBy z p 7 ∧ o_X6_heldBy z p 7 := by
  have h12 := M.1
  rw [f_X2_spentByHolder, f_X6_heldBy, o_X6_heldBy, f_X2_total, mz3 M, toI (by omega)]
  exact mspent M p (r + 1) (r + 1) 0 0 (by omega) (by omega) (by omega)
/-! shares -/
theorem vf_0 : vf_n64 0 := by unfold vf_n64; decide +kernel
theorem mshare (M : MB r f z) (hk : k < r) : f_X2_shareUsed (Int32.ofNat r) f (Int32.ofNat k) = f_X6_usedOf z (Int32.ofNat k) ∧ o_X2_shareUsed (Int32.ofNat r) f (Int32.ofNat k) ∧ o_X6_usedOf z (Int32.ofNat k) ∧ (f_X6_usedOf z (Int32.ofNat k) = 0 ∨ ∃ c e : Nat, f_X6_usedOf z (Int32.ofNat k) = fpU c e ∧ 4503599627370496 ≤ c ∧ c < 9007199254740992 ∧ 1000 ≤ e ∧ e ≤ 1050) := by
  have h12 := M.1
  obtain ⟨-, -, ⟨p, p1, p2, hp⟩, -, ⟨s, s1, hs⟩, -⟩ := M.2.2 k hk
  rw [f_X2_shareUsed, f_X6_usedOf, o_X2_shareUsed, o_X6_usedOf, p8_3 h12 hk, p8_6 h12 hk, mo3 M hk, mo6 M hk, hp, hs, if_pos (by rw [show (0 : Int32) = Int32.ofNat 0 from rfl, pn_lt (by omega) (by omega)]; omega), if_pos (by rw [show (0 : Int32) = Int32.ofNat 0 from rfl, pn_lt (by omega) (by omega)]; omega)]
  by_cases h0 : s = 0
  · subst h0
    rw [fp_share0 (by omega) (by omega)]
    exact ⟨rfl, ⟨vf_0, trivial⟩, ⟨oo6 h12 hk, oo3 h12 hk, vf_0, trivial⟩, Or.inl rfl⟩
  · obtain ⟨c, e, h1, h2, h3, h4, h5⟩ := fp_share (s := s) (d := p) (by omega) (by omega) (by omega) (by omega)
    rw [h1]
    have hv := fp_n64 (c := c) (e := e) h3 (by omega)
    exact ⟨rfl, ⟨hv, trivial⟩, ⟨oo6 h12 hk, oo3 h12 hk, hv, trivial⟩, Or.inr ⟨c, e, rfl, h2, h3, h4, h5⟩⟩
end MBF
