set_option maxRecDepth 4096 in
theorem fp_lt2 {c e : Nat} (h1 : 4503599627370496 ≤ c) (h2 : c < 9007199254740992) (e1 : 900 ≤ e) (e2 : e ≤ 1100) : (Op.cmpValue (FP.dcmp (fpU c e) 4611686018427387904) .l < 0) ↔ e < 1024 := by
  obtain ⟨a, b⟩ := fp_cmp (k := 1024) h1 h2 e1 e2 (by omega) (by omega)
  rw [← fp_2] at a b
  constructor
  · intro h
    apply Decidable.byContradiction
    intro hn
    rcases b (by omega) with x | x <;> rw [x] at h <;> exact absurd h (by decide)
  · intro h
    rw [a h]
    decide
set_option maxRecDepth 4096 in
theorem fp_ge1 {c e : Nat} (h1 : 4503599627370496 ≤ c) (h2 : c < 9007199254740992) (e1 : 900 ≤ e) (e2 : e ≤ 1100) : (0 ≤ Op.cmpValue (FP.dcmp (fpU c e) FP.dconst1) .g) ↔ 1023 ≤ e := by
  obtain ⟨a, b⟩ := fp_cmp (k := 1023) h1 h2 e1 e2 (by omega) (by omega)
  rw [← fp_1] at a b
  constructor
  · intro h
    apply Decidable.byContradiction
    intro hn
    rw [a (by omega)] at h
    exact absurd h (by decide)
  · intro h
    rcases b h with x | x <;> rw [x] <;> decide
set_option maxRecDepth 4096 in
theorem fp_gt0 {c e : Nat} (h1 : 4503599627370496 ≤ c) (h2 : c < 9007199254740992) (e1 : 900 ≤ e) (e2 : e ≤ 1100) : 0 < Op.cmpValue (FP.dcmp (fpU c e) FP.dconst0) .g := by
  have hd : FP.dcmp (fpU c e) FP.dconst0 = some .gt := by
    show FP.Core.cmp FP.Core.b64 (fpU c e).toNat FP.dconst0.toNat = _
    have z : FP.Core.decode FP.Core.b64 FP.dconst0.toNat = .fin false 0 (-1074) := by decide +kernel
    rw [FP.Core.cmp, fp_decU h1 h2 (by omega) (by omega), z, FP.Core.order]
    unfold FP.Core.signed FP.Core.inUnits
    simp only [Bool.false_eq_true, if_false, Nat.zero_mul]
    have hp := Nat.two_pow_pos ((e : Int) - 1075 - min ((e : Int) - 1075) (-1074)).toNat
    generalize 2 ^ ((e : Int) - 1075 - min ((e : Int) - 1075) (-1074)).toNat = w at hp
    have : 1 * 1 ≤ c * w := Nat.mul_le_mul (by omega) hp
    generalize c * w = v at this
    refine congrArg some (Int.compare_eq_gt.mpr ?_)
    omega
  rw [hd]
  decide
set_option maxRecDepth 4096 in
theorem fp_inc (z : Int) : Int32.ofInt z + 1 = Int32.ofInt (z + 1) := by
  rw [show (1 : Int32) = Int32.ofInt 1 by decide +kernel, ← Int32.ofInt_add]
set_option maxRecDepth 4096 in
theorem fp_64 : (((64 : Int32)).toInt - ((0 : Int32)).toInt).toNat + 1 = 65 := rfl
set_option maxRecDepth 4096 in
theorem fp_dcr (z : Int) : Int32.ofInt z + (-1) = Int32.ofInt (z - 1) := by
  rw [show (-1 : Int32) = Int32.ofInt (-1) by decide +kernel, ← Int32.ofInt_add, Int.sub_eq_add_neg]
set_option maxRecDepth 4096 in
theorem fp_up {c : Nat} (h1 : 4503599627370496 ≤ c) (h2 : c < 9007199254740992) : ∀ (n e k : Nat) (z : Int), 1000 ≤ e → e ≤ 1023 → k + (1023 - e) < 64 → 1023 - e < n → f_X5_bitsOf_j49 n (fpU c e) (Int32.ofInt z) (Int32.ofNat k) = f_X5_bitsOf_j77 (fpU c 1023) (Int32.ofInt (z - (1023 - e))) ∧ o_X5_bitsOf_j49 n (fpU c e) (Int32.ofInt z) (Int32.ofNat k) := by
  intro n
  induction n with
  | zero => intro e k z _ _ _ h; omega
  | succ n ih =>
    intro e k z e1 e2 hk hn
    rw [f_X5_bitsOf_j49, o_X5_bitsOf_j49]
    have hk64 : ¬ (64 : Int32) ≤ Int32.ofNat k := by
      rw [show (64 : Int32) = Int32.ofNat 64 from rfl, pn_le (by omega) (by omega)]; omega
    rw [if_neg hk64, if_neg hk64]
    by_cases he : e = 1023
    · subst he
      have hg := (fp_ge1 h1 h2 (e := 1023) (by omega) (by omega)).mpr (Nat.le_refl _)
      rw [if_pos hg, if_pos hg]
      refine ⟨by rw [show z - (1023 - ((1023 : Nat) : Int)) = z by omega], ?_⟩
      obtain ⟨-, q1, q2⟩ := fp_sub h1 h2
      exact ⟨q1, q2, trivial⟩
    · have hg : ¬ 0 ≤ Op.cmpValue (FP.dcmp (fpU c e) FP.dconst1) .g := fun q => by
        have := (fp_ge1 h1 h2 (by omega) (by omega)).mp q
        omega
      rw [if_neg hg, if_neg hg, fp_dbl h1 h2 (by omega) (by omega), fp_dcr, pn_succ]
      obtain ⟨a, b⟩ := ih (e + 1) (k + 1) (z - 1) (by omega) (by omega) (by omega) (by omega)
      refine ⟨?_, fp_n64 h2 (by omega), b⟩
      rw [a]
      congr 2
      omega
set_option maxRecDepth 4096 in
theorem fp_down {c : Nat} (h1 : 4503599627370496 ≤ c) (h2 : c < 9007199254740992) : ∀ (n e k : Nat) (z : Int), 1000 ≤ e → e ≤ 1050 → k + (e - 1023) < 64 → e - 1023 < n → f_X5_bitsOf_j16 n (fpU c e) (Int32.ofInt z) (Int32.ofNat k) = f_X5_bitsOf_j77 (fpU c 1023) (Int32.ofInt (z + e - 1023)) ∧ o_X5_bitsOf_j16 n (fpU c e) (Int32.ofInt z) (Int32.ofNat k) := by
  intro n
  induction n with
  | zero => intro e k z _ _ _ h; omega
  | succ n ih =>
    intro e k z e1 e2 hk hn
    rw [f_X5_bitsOf_j16, o_X5_bitsOf_j16]
    have hk64 : ¬ (64 : Int32) ≤ Int32.ofNat k := by
      rw [show (64 : Int32) = Int32.ofNat 64 from rfl, pn_le (by omega) (by omega)]; omega
    rw [if_neg hk64, if_neg hk64]
    by_cases he : e < 1024
    · have hg := (fp_lt2 h1 h2 (e := e) (by omega) (by omega)).mpr he
      rw [if_pos hg, if_pos hg, f_X5_bitsOf_j46, o_X5_bitsOf_j46]
      obtain ⟨a, b⟩ := fp_up h1 h2 ((((64 : Int32)).toInt - ((0 : Int32)).toInt).toNat + 1) e 0 z e1 (by omega) (by omega) (by rw [fp_64]; omega)
      refine ⟨a.trans ?_, b⟩
      congr 2
      omega
    · have hg : ¬ Op.cmpValue (FP.dcmp (fpU c e) 4611686018427387904) .l < 0 := fun q => he ((fp_lt2 h1 h2 (by omega) (by omega)).mp q)
      rw [if_neg hg, if_neg hg, fp_half h1 h2 (by omega) (by omega), fp_inc, pn_succ]
      obtain ⟨a, b⟩ := ih (e - 1) (k + 1) (z + 1) (by omega) (by omega) (by omega) (by omega)
      refine ⟨?_, fp_n64 h2 (by omega), b⟩
      have hz : z + 1 + ((e - 1 : Nat) : Int) - 1023 = z + (e : Int) - 1023 := by omega
      rw [a, hz]
set_option maxRecDepth 4096 in
theorem fp_shl : ∀ e : Nat, e < 1051 → 1000 ≤ e → Int64.ofNat e <<< (Int32.toInt64 52 &&& 63) = Int64.ofNat (e * 4503599627370496) := by decide +kernel
set_option maxRecDepth 4096 in
theorem fp_bits {c e : Nat} (h1 : 4503599627370496 ≤ c) (h2 : c < 9007199254740992) (e1 : 1000 ≤ e) (e2 : e ≤ 1050) : f_X5_bitsOf (fpU c e) = UInt64.toInt64 (fpU c e) ∧ o_X5_bitsOf (fpU c e) := by
  have hg := fp_gt0 h1 h2 (e := e) (by omega) (by omega)
  rw [f_X5_bitsOf, o_X5_bitsOf, if_pos hg, if_pos hg]
  obtain ⟨a, b⟩ := fp_down h1 h2 ((((64 : Int32)).toInt - ((0 : Int32)).toInt).toNat + 1) e 0 0 e1 e2 (by omega) (by rw [fp_64]; omega)
  refine ⟨a.trans ?_, b⟩
  rw [f_X5_bitsOf_j77, (fp_sub h1 h2).1]
  have x : Int32.ofInt (0 + (e : Int) - 1023) + 1023 = Int32.ofNat e := by
    rw [show (1023 : Int32) = Int32.ofInt 1023 from rfl, ← Int32.ofInt_add, show 0 + (e : Int) - 1023 + 1023 = (e : Int) by omega, Int32.ofInt_eq_ofNat]
  rw [x]
  have x2 : Int32.toInt64 (Int32.ofNat e) = Int64.ofNat e := by
    apply Int64.toInt_inj.mp
    rw [Int32.toInt_toInt64, Int32.toInt_ofNat_of_lt (by omega), Int64.toInt_ofNat_of_lt (by omega)]
  rw [x2]
  have x3 := fp_shl e (by omega) e1
  rw [x3, ← Int64.ofNat_add]
  exact Eq.symm UInt64.toInt64_ofNat'
