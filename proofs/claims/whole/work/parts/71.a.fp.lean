/-! DOUBLES: what a share is, and its bits -/
set_option maxRecDepth 4096 in
theorem fp_t : FP.Core.b64.tails = 4503599627370496 := by decide +kernel
set_option maxRecDepth 4096 in
theorem fp_x : FP.Core.b64.exps = 2048 := by decide +kernel
set_option maxRecDepth 4096 in
theorem fp_qm : FP.Core.b64.qmin = -1074 := by decide +kernel
set_option maxRecDepth 4096 in
theorem fp_p : FP.Core.b64.p = 53 := by decide +kernel
set_option maxRecDepth 4096 in
theorem fp_mx : FP.Core.b64.qmax = 971 := by decide +kernel
set_option maxRecDepth 4096 in
theorem fp_p2 : (2 : Nat) ^ FP.Core.b64.p = 9007199254740992 := by decide +kernel
def fpN (c e : Nat) : Nat := e * 4503599627370496 + (c - 4503599627370496)
def fpU (c e : Nat) : UInt64 := UInt64.ofNat (fpN c e)
set_option maxRecDepth 4096 in
theorem fp_nat {c e : Nat} (h2 : c < 9007199254740992) (he : e ≤ 2046) : (fpU c e).toNat = fpN c e := by
  rw [fpU, UInt64.toNat_ofNat']
  unfold fpN
  omega
set_option maxRecDepth 4096 in
theorem fp_dec {c e : Nat} (h1 : 4503599627370496 ≤ c) (h2 : c < 9007199254740992) (e1 : 1 ≤ e) (he : e ≤ 2046) : FP.Core.decode FP.Core.b64 (fpN c e) = .fin false c ((e : Int) - 1075) := by
  have hE : FP.Core.fieldE FP.Core.b64 (fpN c e) = e := by unfold FP.Core.fieldE; rw [fp_t, fp_x]; unfold fpN; omega
  have hT : FP.Core.fieldT FP.Core.b64 (fpN c e) = c - 4503599627370496 := by unfold FP.Core.fieldT; rw [fp_t]; unfold fpN; omega
  have hS : FP.Core.fieldS FP.Core.b64 (fpN c e) = false := by
    have h9 : (e * 4503599627370496 + (c - 4503599627370496)) / 4503599627370496 / 2048 % 2 = 0 := by omega
    unfold FP.Core.fieldS
    rw [fp_t, fp_x]
    unfold fpN
    rw [h9]
    rfl
  rw [FP.Core.decode, hE, hT, hS, fp_x, fp_t, fp_qm, if_neg (by omega), if_neg (by omega)]
  have z1 : 4503599627370496 + (c - 4503599627370496) = c := by omega
  have z2 : (-1074 : Int) + ((e : Int) - 1) = (e : Int) - 1075 := by omega
  rw [z1, z2]
set_option maxRecDepth 4096 in
theorem fp_decU {c e : Nat} (h1 : 4503599627370496 ≤ c) (h2 : c < 9007199254740992) (e1 : 1 ≤ e) (he : e ≤ 2046) : FP.Core.decode FP.Core.b64 (fpU c e).toNat = .fin false c ((e : Int) - 1075) := by
  rw [fp_nat h2 he, fp_dec h1 h2 e1 he]
set_option maxRecDepth 4096 in
theorem fp_enc {c e : Nat} {q : Int} (h1 : 4503599627370496 ≤ c) (e1 : 1 ≤ e) (hq : q = (e : Int) - 1075) : FP.Core.encode FP.Core.b64 (.fin false c q) = fpN c e := by
  have h9 : (q - -1074).toNat + 1 = e := by omega
  have h8 : ¬ c < 4503599627370496 := by omega
  unfold fpN FP.Core.encode
  simp only [fp_t, if_neg h8]
  unfold FP.Core.assemble
  rw [fp_x, fp_t, fp_qm, h9]
  simp
set_option maxRecDepth 4096 in
theorem fp_log {n k : Nat} (h1 : 2 ^ k ≤ n) (h2 : n < 2 ^ (k + 1)) : n.log2 = k := by
  have h0 : n ≠ 0 := by have := Nat.two_pow_pos k; omega
  apply Nat.le_antisymm
  · have := (Nat.log2_lt h0 (k := k + 1)).mpr h2
    omega
  · exact (Nat.le_log2 h0).mpr h1
set_option maxRecDepth 4096 in
theorem fp_near1 (n d : Nat) (hd : 0 < d) : FP.Core.nearest (n * d) d = n := by
  rw [FP.Core.nearest, Nat.mul_mod_left, if_pos (by omega), Nat.mul_div_cancel _ hd]
set_option maxRecDepth 4096 in
theorem fp_settle {c : Nat} {q : Int} (h2 : c < 9007199254740992) (hq : q ≤ 971) : FP.Core.settle FP.Core.b64 false c q = .fin false c q := by
  rw [FP.Core.settle, fp_p, if_pos h2, FP.Core.bound, fp_mx, if_pos hq]
set_option maxRecDepth 4096 in
/-- a number that has too many digits, but zeros at its end -/
theorem fp_rra {c a : Nat} {e : Int} (h1 : 4503599627370496 ≤ c) (h2 : c < 9007199254740992) (hl : -1074 ≤ e + a) (hh : e + a ≤ 971) : FP.Core.roundRatio FP.Core.b64 false (c * 2 ^ a) 1 e = .fin false c (e + a) := by
  have hp : 0 < 2 ^ a := Nat.two_pow_pos a
  have hlog : (c * 2 ^ a).log2 = 52 + a := by
    apply fp_log
    · rw [Nat.pow_add]; exact Nat.mul_le_mul_right _ h1
    · rw [show 52 + a + 1 = 53 + a by omega, Nat.pow_add]; exact (Nat.mul_lt_mul_right hp).mpr h2
  have hlog1 : (1 : Nat).log2 = 0 := by decide +kernel
  have hld : FP.Core.leading (c * 2 ^ a) 1 = ((52 + a : Nat) : Int) := by
    rw [FP.Core.leading, hlog, hlog1]
    have e1 : (((52 + a : Nat) : Int) - ((0 : Nat) : Int)) = ((52 + a : Nat) : Int) := by omega
    simp only [e1]
    rw [if_pos]
    have : (-((52 + a : Nat) : Int)).toNat = 0 := by omega
    rw [this, Int.toNat_natCast, Nat.pow_zero, Nat.mul_one, Nat.one_mul, Nat.pow_add]
    exact Nat.mul_le_mul_right _ h1
  have hq : FP.Core.quantum FP.Core.b64 (c * 2 ^ a) 1 e = e + a := by
    rw [FP.Core.quantum, hld, fp_p, fp_qm]
    omega
  have h0 : c * 2 ^ a ≠ 0 := by
    have := Nat.mul_pos (Nat.lt_of_lt_of_le (by decide) h1 : 0 < c) hp
    omega
  rw [FP.Core.roundRatio, if_neg h0, FP.Core.roundAt, hq, FP.Core.unitsNum, FP.Core.unitsDen]
  have x1 : (e - (e + (a : Int))).toNat = 0 := by omega
  have x2 : ((e + (a : Int)) - e).toNat = a := by omega
  rw [x1, x2, Nat.pow_zero, Nat.mul_one, Nat.one_mul, fp_near1 c _ hp, fp_settle h2 hh]
set_option maxRecDepth 4096 in
/-- a number of few digits -/
theorem fp_rrb {n b c : Nat} {e : Int} (hc : n * 2 ^ b = c) (h1 : 4503599627370496 ≤ c) (h2 : c < 9007199254740992) (hl : -1074 ≤ e - b) (hh : e - b ≤ 971) : FP.Core.roundRatio FP.Core.b64 false n 1 e = .fin false c (e - b) := by
  have hp : 0 < 2 ^ b := Nat.two_pow_pos b
  have h0 : n ≠ 0 := by rintro rfl; omega
  have hb : b ≤ 52 := by
    apply Decidable.byContradiction
    intro h
    have h53 : 2 ^ 53 ≤ 2 ^ b := Nat.pow_le_pow_right (by decide) (by omega)
    have : 1 * 2 ^ b ≤ n * 2 ^ b := Nat.mul_le_mul_right _ (by omega)
    have e53 : (2 : Nat) ^ 53 = 9007199254740992 := by decide +kernel
    omega
  have hlog : n.log2 = 52 - b := by
    apply fp_log
    · apply Nat.le_of_mul_le_mul_right _ hp
      rw [← Nat.pow_add, show 52 - b + b = 52 by omega, hc]
      exact h1
    · apply Nat.lt_of_mul_lt_mul_right (a := 2 ^ b)
      rw [← Nat.pow_add, show 52 - b + 1 + b = 53 by omega, hc]
      exact h2
  have hlog1 : (1 : Nat).log2 = 0 := by decide +kernel
  have hld : FP.Core.leading n 1 = ((52 - b : Nat) : Int) := by
    rw [FP.Core.leading, hlog, hlog1]
    have e1 : (((52 - b : Nat) : Int) - ((0 : Nat) : Int)) = ((52 - b : Nat) : Int) := by omega
    simp only [e1]
    rw [if_pos]
    have : (-((52 - b : Nat) : Int)).toNat = 0 := by omega
    rw [this, Int.toNat_natCast, Nat.pow_zero, Nat.mul_one, Nat.one_mul]
    apply Nat.le_of_mul_le_mul_right _ hp
    rw [← Nat.pow_add, show 52 - b + b = 52 by omega, hc]
    exact h1
  have hq : FP.Core.quantum FP.Core.b64 n 1 e = e - b := by
    rw [FP.Core.quantum, hld, fp_p, fp_qm]
    omega
  rw [FP.Core.roundRatio, if_neg h0, FP.Core.roundAt, hq, FP.Core.unitsNum, FP.Core.unitsDen]
  have x1 : (e - (e - (b : Int))).toNat = b := by omega
  have x2 : ((e - (b : Int)) - e).toNat = 0 := by omega
  rw [x1, x2, hc, Nat.pow_zero, Nat.mul_one]
  have := fp_near1 c 1 (by decide)
  rw [Nat.mul_one] at this
  rw [this, fp_settle h2 hh]
set_option maxRecDepth 4096 in
/-- an int as a double -/
theorem fp_i2d {n : Nat} (h0 : 0 < n) (h1 : n < 16384) : ∃ c b : Nat, b ≤ 52 ∧ 39 ≤ b ∧ n * 2 ^ b = c ∧ 4503599627370496 ≤ c ∧ c < 9007199254740992 ∧ FP.i2d (Int32.ofNat n) = fpU c (1075 - b) := by
  have hl : n.log2 < 14 := (Nat.log2_lt (by omega)).mpr h1
  have hle : 2 ^ n.log2 ≤ n := Nat.log2_self_le (by omega)
  have hlt : n < 2 ^ (n.log2 + 1) := Nat.lt_log2_self
  have hp : 0 < 2 ^ (52 - n.log2) := Nat.two_pow_pos _
  have c1 : 4503599627370496 ≤ n * 2 ^ (52 - n.log2) := by
    have := Nat.mul_le_mul_right (2 ^ (52 - n.log2)) hle
    rw [← Nat.pow_add, show n.log2 + (52 - n.log2) = 52 by omega] at this
    exact this
  have c2 : n * 2 ^ (52 - n.log2) < 9007199254740992 := by
    have := (Nat.mul_lt_mul_right hp).mpr hlt
    rw [← Nat.pow_add, show n.log2 + 1 + (52 - n.log2) = 53 by omega] at this
    exact this
  refine ⟨n * 2 ^ (52 - n.log2), 52 - n.log2, by omega, by omega, rfl, c1, c2, ?_⟩
  show UInt64.ofNat (FP.Core.fromInt FP.Core.b64 (Int32.ofNat n).toInt) = _
  rw [Int32.toInt_ofNat_of_lt (by omega), FP.Core.fromInt, FP.Core.ofInt]
  have d : decide ((n : Int) < 0) = false := by simp
  rw [d, Int.natAbs_natCast, FP.Core.round, fp_rrb (b := 52 - n.log2) rfl c1 c2 (by omega) (by omega), fp_enc (e := 1075 - (52 - n.log2)) c1 (by omega) (by omega)]
  rfl
set_option maxRecDepth 4096 in
/-- a quotient -/
theorem fp_near (n d : Nat) (hd : 0 < d) : n / d ≤ FP.Core.nearest n d ∧ FP.Core.nearest n d ≤ n / d + 1 := by
  rw [FP.Core.nearest]
  have : n / d % 2 < 2 := Nat.mod_lt _ (by decide)
  split
  · omega
  · split
    · omega
    · omega
set_option maxRecDepth 4096 in
theorem fp_quot {c d : Nat} {e : Int} (h1 : 4503599627370496 ≤ c) (h2 : c < 9007199254740992) (h3 : 4503599627370496 ≤ d) (h4 : d < 9007199254740992) (hl : -1000 ≤ e) (hh : e ≤ 900) : ∃ (C : Nat) (Q : Int), FP.Core.roundRatio FP.Core.b64 false c d e = .fin false C Q ∧ 4503599627370496 ≤ C ∧ C < 9007199254740992 ∧ e - 53 ≤ Q ∧ Q ≤ e - 51 := by
  have l1 : c.log2 = 52 := fp_log h1 h2
  have l2 : d.log2 = 52 := fp_log h3 h4
  have key : ∀ (m : Nat) (Q : Int), FP.Core.nearest m d = FP.Core.nearest m d → 4503599627370496 ≤ m / d → m / d < 9007199254740992 → e - 53 ≤ Q → Q ≤ e - 52 → ∃ (C : Nat) (Q1 : Int), FP.Core.settle FP.Core.b64 false (FP.Core.nearest m d) Q = .fin false C Q1 ∧ 4503599627370496 ≤ C ∧ C < 9007199254740992 ∧ e - 53 ≤ Q1 ∧ Q1 ≤ e - 51 := by
    intro m Q _ a1 a2 a3 a4
    obtain ⟨n1, n2⟩ := fp_near m d (by omega)
    by_cases h : FP.Core.nearest m d < 9007199254740992
    · exact ⟨_, _, fp_settle h (by omega), by omega, h, a3, by omega⟩
    · refine ⟨4503599627370496, Q + 1, ?_, by omega, by omega, by omega, by omega⟩
      rw [FP.Core.settle, fp_p2, if_neg h, FP.Core.bound, fp_mx, if_pos (by omega), fp_t]
  rw [FP.Core.roundRatio, if_neg (by omega), FP.Core.roundAt]
  by_cases hcd : d ≤ c
  · have hld : FP.Core.leading c d = 0 := by
      rw [FP.Core.leading, l1, l2]
      have e1 : ((52 : Nat) : Int) - ((52 : Nat) : Int) = 0 := rfl
      simp only [e1]
      rw [if_pos]
      simpa using hcd
    have hq : FP.Core.quantum FP.Core.b64 c d e = e - 52 := by
      rw [FP.Core.quantum, hld, fp_p, fp_qm]; omega
    rw [hq, FP.Core.unitsNum, FP.Core.unitsDen]
    have x1 : (e - (e - 52)).toNat = 52 := by omega
    have x2 : ((e - 52) - e).toNat = 0 := by omega
    rw [x1, x2, Nat.pow_zero, Nat.mul_one]
    have e52 : (2 : Nat) ^ 52 = 4503599627370496 := by decide +kernel
    rw [e52]
    refine key _ _ rfl ?_ ?_ (by omega) (by omega)
    · rw [Nat.le_div_iff_mul_le (by omega)]; rw [Nat.mul_comm]; exact Nat.mul_le_mul_right _ hcd
    · rw [Nat.div_lt_iff_lt_mul (by omega)]
      omega
  · have hld : FP.Core.leading c d = -1 := by
      rw [FP.Core.leading, l1, l2]
      have e1 : ((52 : Nat) : Int) - ((52 : Nat) : Int) = 0 := rfl
      simp only [e1]
      rw [if_neg]
      · rfl
      · simpa using hcd
    have hq : FP.Core.quantum FP.Core.b64 c d e = e - 53 := by
      rw [FP.Core.quantum, hld, fp_p, fp_qm]; omega
    rw [hq, FP.Core.unitsNum, FP.Core.unitsDen]
    have x1 : (e - (e - 53)).toNat = 53 := by omega
    have x2 : ((e - 53) - e).toNat = 0 := by omega
    rw [x1, x2, Nat.pow_zero, Nat.mul_one]
    have e52 : (2 : Nat) ^ 53 = 9007199254740992 := by decide +kernel
    rw [e52]
    refine key _ _ rfl ?_ ?_ (by omega) (by omega)
    · rw [Nat.le_div_iff_mul_le (by omega)]
      omega
    · rw [Nat.div_lt_iff_lt_mul (by omega)]
      omega
set_option maxRecDepth 4096 in
/-- what a share is: 0, or a plain number -/
theorem fp_share {s d : Nat} (hs : 0 < s) (hs1 : s < 16384) (hd : 0 < d) (hd1 : d < 16384) : ∃ c e : Nat, FP.ddiv (FP.i2d (Int32.ofNat s)) (FP.i2d (Int32.ofNat d)) = fpU c e ∧ 4503599627370496 ≤ c ∧ c < 9007199254740992 ∧ 1000 ≤ e ∧ e ≤ 1050 := by
  obtain ⟨c, b, hb, hb2, -, c1, c2, ec⟩ := fp_i2d hs hs1
  obtain ⟨d', b', hb', hb2', -, d1, d2, ed⟩ := fp_i2d hd hd1
  rw [ec, ed]
  show ∃ c' e' : Nat, UInt64.ofNat (FP.Core.div FP.Core.b64 (fpU c (1075 - b)).toNat (fpU d' (1075 - b')).toNat) = fpU c' e' ∧ _
  rw [FP.Core.div, fp_decU c1 c2 (by omega) (by omega), fp_decU d1 d2 (by omega) (by omega), FP.Core.quotient, if_neg (by omega)]
  obtain ⟨C, Q, h1, h2, h3, h4, h5⟩ := fp_quot (e := ((1075 - b : Nat) : Int) - 1075 - (((1075 - b' : Nat) : Int) - 1075)) c1 c2 d1 d2 (by omega) (by omega)
  refine ⟨C, (Q + 1075).toNat, ?_, h2, h3, by omega, by omega⟩
  have hx : (false != false) = false := rfl
  rw [hx, h1, fp_enc (e := (Q + 1075).toNat) h2 (by omega) (by omega)]
  rfl
set_option maxRecDepth 4096 in
theorem fp_share0 {d : Nat} (hd : 0 < d) (hd1 : d < 16384) : FP.ddiv (FP.i2d (Int32.ofNat 0)) (FP.i2d (Int32.ofNat d)) = 0 := by
  obtain ⟨d', b', hb', hb2', -, d1, d2, ed⟩ := fp_i2d hd hd1
  rw [ed]
  show UInt64.ofNat (FP.Core.div FP.Core.b64 (FP.i2d (Int32.ofNat 0)).toNat (fpU d' (1075 - b')).toNat) = 0
  have e0 : FP.i2d (Int32.ofNat 0) = 0 := by decide +kernel
  rw [e0, FP.Core.div, fp_decU d1 d2 (by omega) (by omega)]
  have z : FP.Core.decode FP.Core.b64 (0 : UInt64).toNat = .fin false 0 (-1074) := by decide +kernel
  rw [z, FP.Core.quotient, if_neg (by omega), FP.Core.roundRatio, if_pos rfl]
  decide +kernel
