/-! DOUBLES: the bits, as the class finds them -/
set_option maxRecDepth 4096 in
theorem fp_n64 {c e : Nat} (h2 : c < 9007199254740992) (he : e ≤ 2046) : vf_n64 (fpU c e) := by
  show fpU c e &&& 0x7fffffffffffffff ≤ 0x7ff0000000000000
  rw [UInt64.le_iff_toNat_le, UInt64.toNat_and, fp_nat h2 he]
  refine Nat.le_trans Nat.and_le_left ?_
  show fpN c e ≤ 9218868437227405312
  unfold fpN
  omega
set_option maxRecDepth 4096 in
theorem fp_sub {c : Nat} (h1 : 4503599627370496 ≤ c) (h2 : c < 9007199254740992) : FP.d2l (FP.dmul (FP.dsub (fpU c 1023) FP.dconst1) 4841369599423283200) = Int64.ofNat (c - 4503599627370496) ∧ vf_n64 (FP.dsub (fpU c 1023) FP.dconst1) ∧ vf_n64 (FP.dmul (FP.dsub (fpU c 1023) FP.dconst1) 4841369599423283200) := by
  have hs : FP.dsub (fpU c 1023) FP.dconst1 = UInt64.ofNat (FP.Core.encode FP.Core.b64 (FP.Core.round FP.Core.b64 (.fin false (c - 4503599627370496) (-52)))) := by
    show UInt64.ofNat (FP.Core.sub FP.Core.b64 (fpU c 1023).toNat FP.dconst1.toNat) = _
    rw [FP.Core.sub, fp_1, fp_decU h1 h2 (by omega) (by omega), fp_decU (by omega) (by omega) (by omega) (by omega), FP.Core.negate, FP.Core.exactSum]
    have e1 : FP.Core.sumUnits false c (((1023 : Nat) : Int) - 1075) (!false) 4503599627370496 (((1023 : Nat) : Int) - 1075) (min (((1023 : Nat) : Int) - 1075) (((1023 : Nat) : Int) - 1075)) = ((c - 4503599627370496 : Nat) : Int) := by
      rw [FP.Core.sumUnits, FP.Core.inUnits, FP.Core.inUnits, FP.Core.signed, FP.Core.signed]
      have m : min (((1023 : Nat) : Int) - 1075) (((1023 : Nat) : Int) - 1075) = -52 := by omega
      rw [m]
      have z : ((((1023 : Nat) : Int) - 1075) - -52).toNat = 0 := by omega
      rw [z, Nat.pow_zero, Nat.mul_one, Nat.mul_one]
      simp only [Bool.not_false, if_true, Bool.false_eq_true, if_false]
      omega
    rw [e1]
    have e2 : FP.Core.sumSign false (!false) ((c - 4503599627370496 : Nat) : Int) = false := by
      rw [FP.Core.sumSign]
      split
      · rfl
      · exact decide_eq_false (by omega)
    rw [e2, Int.natAbs_natCast]
    have m : min (((1023 : Nat) : Int) - 1075) (((1023 : Nat) : Int) - 1075) = -52 := by omega
    rw [m]
  by_cases h0 : c - 4503599627370496 = 0
  · rw [hs, h0]
    have x1 : UInt64.ofNat (FP.Core.encode FP.Core.b64 (FP.Core.round FP.Core.b64 (.fin false 0 (-52)))) = 0 := by decide +kernel
    rw [x1]
    exact ⟨by decide +kernel, by unfold vf_n64; decide +kernel, by unfold vf_n64; decide +kernel⟩
  · have hp := Nat.two_pow_pos (52 - (c - 4503599627370496).log2)
    have hlt : (c - 4503599627370496).log2 < 52 := (Nat.log2_lt h0).mpr (by have : (2 : Nat) ^ 52 = 4503599627370496 := by decide +kernel
                                                                            omega)
    have c1 : 4503599627370496 ≤ (c - 4503599627370496) * 2 ^ (52 - (c - 4503599627370496).log2) := by
      have := Nat.mul_le_mul_right (2 ^ (52 - (c - 4503599627370496).log2)) (Nat.log2_self_le h0)
      rw [← Nat.pow_add, show (c - 4503599627370496).log2 + (52 - (c - 4503599627370496).log2) = 52 by omega] at this
      exact this
    have c2 : (c - 4503599627370496) * 2 ^ (52 - (c - 4503599627370496).log2) < 9007199254740992 := by
      have := (Nat.mul_lt_mul_right hp).mpr (Nat.lt_log2_self (n := c - 4503599627370496))
      rw [← Nat.pow_add, show (c - 4503599627370496).log2 + 1 + (52 - (c - 4503599627370496).log2) = 53 by omega] at this
      exact this
    have hs2 : FP.dsub (fpU c 1023) FP.dconst1 = fpU ((c - 4503599627370496) * 2 ^ (52 - (c - 4503599627370496).log2)) (971 + (c - 4503599627370496).log2) := by
      rw [hs, FP.Core.round, fp_rrb (b := 52 - (c - 4503599627370496).log2) rfl c1 c2 (by omega) (by omega), fp_enc (e := 971 + (c - 4503599627370496).log2) c1 (by omega) (by omega)]
      rfl
    have hm : FP.dmul (FP.dsub (fpU c 1023) FP.dconst1) 4841369599423283200 = fpU ((c - 4503599627370496) * 2 ^ (52 - (c - 4503599627370496).log2)) (1023 + (c - 4503599627370496).log2) := by
      rw [hs2, fp_52, fp_mul c1 c2 (by omega) (by omega) (by omega) (by omega), show 971 + (c - 4503599627370496).log2 + 1075 - 1023 = 1023 + (c - 4503599627370496).log2 by omega]
    refine ⟨?_, by rw [hs2]; exact fp_n64 c2 (by omega), by rw [hm]; exact fp_n64 c2 (by omega)⟩
    rw [hm]
    show FP.Core.toL (FP.Core.decode FP.Core.b64 (fpU _ _).toNat) = _
    rw [fp_decU c1 c2 (by omega) (by omega), FP.Core.toL, FP.Core.toInt, FP.Core.truncate]
    have z1 : (((1023 + (c - 4503599627370496).log2 : Nat) : Int) - 1075).toNat = 0 := by omega
    have z2 : (-(((1023 + (c - 4503599627370496).log2 : Nat) : Int) - 1075)).toNat = 52 - (c - 4503599627370496).log2 := by omega
    rw [z1, z2, Nat.pow_zero, Nat.mul_one, Nat.mul_div_cancel _ hp, FP.Core.signed]
    simp only [Bool.false_eq_true, if_false]
    have m : max (-2 ^ 63 : Int) (min (2 ^ 63 - 1) ((c - 4503599627370496 : Nat) : Int)) = ((c - 4503599627370496 : Nat) : Int) := by
      have : (2 : Int) ^ 63 = 9223372036854775808 := by decide +kernel
      rw [this]
      omega
    rw [m]
    exact Int64.ofInt_eq_ofNat
