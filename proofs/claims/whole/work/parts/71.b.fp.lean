/-! DOUBLES: halving and doubling -/
set_option maxRecDepth 4096 in
theorem fp_2 : (4611686018427387904 : UInt64) = fpU 4503599627370496 1024 := by decide +kernel
set_option maxRecDepth 4096 in
theorem fp_1 : FP.dconst1 = fpU 4503599627370496 1023 := by decide +kernel
set_option maxRecDepth 4096 in
theorem fp_52 : (4841369599423283200 : UInt64) = fpU 4503599627370496 1075 := by decide +kernel
set_option maxRecDepth 4096 in
theorem fp_half {c e : Nat} (h1 : 4503599627370496 ≤ c) (h2 : c < 9007199254740992) (e1 : 900 ≤ e) (e2 : e ≤ 1100) : FP.ddiv (fpU c e) 4611686018427387904 = fpU c (e - 1) := by
  rw [fp_2]
  show UInt64.ofNat (FP.Core.div FP.Core.b64 (fpU c e).toNat (fpU 4503599627370496 1024).toNat) = _
  rw [FP.Core.div, fp_decU h1 h2 (by omega) (by omega), fp_decU (by omega) (by omega) (by omega) (by omega), FP.Core.quotient, if_neg (by decide), FP.Core.roundRatio, if_neg (by omega), FP.Core.roundAt]
  have hld : FP.Core.leading c 4503599627370496 = 0 := by
    have l1 : c.log2 = 52 := fp_log h1 h2
    have l2 : (4503599627370496 : Nat).log2 = 52 := by decide +kernel
    rw [FP.Core.leading, l1, l2]
    have e1 : ((52 : Nat) : Int) - ((52 : Nat) : Int) = 0 := rfl
    simp only [e1]
    rw [if_pos]
    simpa using h1
  have hq : FP.Core.quantum FP.Core.b64 c 4503599627370496 ((e : Int) - 1075 - (((1024 : Nat) : Int) - 1075)) = (e : Int) - 1076 := by
    rw [FP.Core.quantum, hld, fp_p, fp_qm]; omega
  rw [hq, FP.Core.unitsNum, FP.Core.unitsDen]
  have x1 : ((e : Int) - 1075 - (((1024 : Nat) : Int) - 1075) - ((e : Int) - 1076)).toNat = 52 := by omega
  have x2 : ((e : Int) - 1076 - ((e : Int) - 1075 - (((1024 : Nat) : Int) - 1075))).toNat = 0 := by omega
  have e52 : (2 : Nat) ^ 52 = 4503599627370496 := by decide +kernel
  rw [x1, x2, e52, Nat.pow_zero, Nat.mul_one, fp_near1 c _ (by decide), show (false != false) = false from rfl, fp_settle h2 (by omega), fp_enc (e := e - 1) h1 (by omega) (by omega)]
  rfl
set_option maxRecDepth 4096 in
theorem fp_mul {c e k : Nat} (h1 : 4503599627370496 ≤ c) (h2 : c < 9007199254740992) (e1 : 900 ≤ e) (e2 : e ≤ 1100) (k1 : 1000 ≤ k) (k2 : k ≤ 1100) : FP.dmul (fpU c e) (fpU 4503599627370496 k) = fpU c (e + k - 1023) := by
  show UInt64.ofNat (FP.Core.mul FP.Core.b64 (fpU c e).toNat (fpU 4503599627370496 k).toNat) = _
  rw [FP.Core.mul, fp_decU h1 h2 (by omega) (by omega), fp_decU (by omega) (by omega) (by omega) (by omega), FP.Core.exactProduct, FP.Core.round, show (false != false) = false from rfl]
  have e52 : (4503599627370496 : Nat) = 2 ^ 52 := by decide +kernel
  have hh : FP.Core.roundRatio FP.Core.b64 false (c * 4503599627370496) 1 ((e : Int) - 1075 + ((k : Int) - 1075)) = .fin false c ((e : Int) - 1075 + ((k : Int) - 1075) + ((52 : Nat) : Int)) := by
    conv => lhs; rw [e52]
    exact fp_rra h1 h2 (by omega) (by omega)
  rw [hh, fp_enc (e := e + k - 1023) h1 (by omega) (by omega)]
  rfl
set_option maxRecDepth 4096 in
theorem fp_dbl {c e : Nat} (h1 : 4503599627370496 ≤ c) (h2 : c < 9007199254740992) (e1 : 900 ≤ e) (e2 : e ≤ 1100) : FP.dmul (fpU c e) 4611686018427387904 = fpU c (e + 1) := by
  rw [fp_2, fp_mul h1 h2 e1 e2 (by omega) (by omega), show e + 1024 - 1023 = e + 1 by omega]
set_option maxRecDepth 4096 in
/-- the order of a double and a power of 2 -/
theorem fp_cmp {c e k : Nat} (h1 : 4503599627370496 ≤ c) (h2 : c < 9007199254740992) (e1 : 900 ≤ e) (e2 : e ≤ 1100) (k1 : 1000 ≤ k) (k2 : k ≤ 1100) : (e < k → FP.dcmp (fpU c e) (fpU 4503599627370496 k) = some .lt) ∧ (k ≤ e → FP.dcmp (fpU c e) (fpU 4503599627370496 k) = some .gt ∨ FP.dcmp (fpU c e) (fpU 4503599627370496 k) = some .eq) := by
  have hd : FP.dcmp (fpU c e) (fpU 4503599627370496 k) = FP.Core.order (.fin false c ((e : Int) - 1075)) (.fin false 4503599627370496 ((k : Int) - 1075)) := by
    show FP.Core.cmp FP.Core.b64 (fpU c e).toNat (fpU 4503599627370496 k).toNat = _
    rw [FP.Core.cmp, fp_decU h1 h2 (by omega) (by omega), fp_decU (by omega) (by omega) (by omega) (by omega)]
  rw [hd, FP.Core.order]
  constructor
  · intro h
    have m : min ((e : Int) - 1075) ((k : Int) - 1075) = (e : Int) - 1075 := by omega
    rw [m]
    unfold FP.Core.signed FP.Core.inUnits
    have z : ((e : Int) - 1075 - ((e : Int) - 1075)).toNat = 0 := by omega
    have z2 : ((k : Int) - 1075 - ((e : Int) - 1075)).toNat = (k - e - 1) + 1 := by omega
    rw [z, z2, Nat.pow_zero, Nat.mul_one, Nat.pow_succ]
    have hp : 0 < 2 ^ (k - e - 1) := Nat.two_pow_pos _
    generalize 2 ^ (k - e - 1) = w at hp
    congr 1
    simp only [Bool.false_eq_true, if_false]
    refine Int.compare_eq_lt.mpr ?_
    have : 4503599627370496 * (1 * 2) ≤ 4503599627370496 * (w * 2) := Nat.mul_le_mul_left _ (Nat.mul_le_mul_right _ hp)
    omega
  · intro h
    have m : min ((e : Int) - 1075) ((k : Int) - 1075) = (k : Int) - 1075 := by omega
    rw [m]
    unfold FP.Core.signed FP.Core.inUnits
    have z : ((k : Int) - 1075 - ((k : Int) - 1075)).toNat = 0 := by omega
    have z2 : ((e : Int) - 1075 - ((k : Int) - 1075)).toNat = e - k := by omega
    rw [z, z2, Nat.pow_zero, Nat.mul_one]
    have hp : 0 < 2 ^ (e - k) := Nat.two_pow_pos _
    generalize 2 ^ (e - k) = w at hp
    simp only [Bool.false_eq_true, if_false]
    have hle : 4503599627370496 * 1 ≤ c * w := Nat.mul_le_mul h1 hp
    generalize hcm : compare ((c * w : Nat) : Int) ((4503599627370496 : Nat) : Int) = o
    cases o with
    | lt => have := Int.compare_eq_lt.mp hcm; omega
    | eq => exact Or.inr rfl
    | gt => exact Or.inl rfl
