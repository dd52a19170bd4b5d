/-! BITS: masks of few places -/
def bt (m : Int32) (j : Nat) : Bool := m.toBitVec.getLsbD j
def b2 (b : Bool) : Nat := cond b 1 0
theorem b2_t : b2 true = 1 := rfl
theorem b2_f : b2 false = 0 := rfl
theorem vm_b2 (b : Bool) : vm_bi b = Int32.ofNat (b2 b) := by cases b <;> rfl
theorem bt_or (a b : Int32) (j : Nat) : bt (a ||| b) j = (bt a j || bt b j) := by
  unfold bt
  rw [Int32.toBitVec_or, BitVec.getLsbD_or]
theorem bt_and (a b : Int32) (j : Nat) : bt (a &&& b) j = (bt a j && bt b j) := by
  unfold bt
  rw [Int32.toBitVec_and, BitVec.getLsbD_and]
theorem bt_not (a : Int32) {j : Nat} (h : j < 32) : bt (a ^^^ (-1)) j = !bt a j := by
  unfold bt
  rw [Int32.xor_neg_one, Int32.toBitVec_not, BitVec.getLsbD_not]
  simp [h]
theorem bt_zero (j : Nat) : bt 0 j = false := by
  unfold bt
  rw [Int32.toBitVec_zero, BitVec.getLsbD_zero]
theorem bt_one : ∀ i : Nat, i < 31 → ∀ j : Nat, j < 31 → bt (1 <<< (Int32.ofNat i &&& 31)) j = decide (j = i) := by decide +kernel
theorem bv_and1 (x : BitVec 32) : x &&& 1#32 = if x.getLsbD 0 then 1#32 else 0#32 := by
  apply BitVec.eq_of_toNat_eq
  have h : x.getLsbD 0 = decide (x.toNat % 2 = 1) := Nat.testBit_zero _
  have h2 : (x &&& 1#32).toNat = x.toNat % 2 := by
    rw [BitVec.toNat_and]
    exact Nat.and_one_is_mod _
  rw [h2, h]
  rcases Nat.mod_two_eq_zero_or_one x.toNat with h3 | h3 <;> simp [h3]
theorem bt_sh : ∀ j : Nat, j < 31 → ((Int32.ofNat j &&& 31).toBitVec.smod 32#32).toNat = j := by decide +kernel
theorem bt_val (m : Int32) {j : Nat} (h : j < 31) : ((m >>> (Int32.ofNat j &&& 31)) &&& 1) = vm_bi (bt m j) := by
  have hb : (m >>> (Int32.ofNat j &&& 31)).toBitVec.getLsbD 0 = bt m j := by
    have e : (m >>> (Int32.ofNat j &&& 31)).toBitVec = m.toBitVec.sshiftRight ((Int32.ofNat j &&& 31).toBitVec.smod 32#32).toNat := rfl
    rw [e, bt_sh j h, BitVec.getLsbD_sshiftRight]
    have h1 : j + 0 < 32 := by omega
    rw [if_pos h1]
    simp [bt]
  apply Int32.toBitVec_inj.mp
  rw [Int32.toBitVec_and, Int32.toBitVec_one, bv_and1, hb]
  cases bt m j <;> rfl
theorem vm_bi1 (b : Bool) : (vm_bi b = 1) ↔ b = true := by cases b <;> decide
theorem bt_test (m : Int32) {j : Nat} (h : j < 31) : (((m >>> (Int32.ofNat j &&& 31)) &&& 1) = 1) ↔ bt m j = true := by
  rw [bt_val m h, vm_bi1]
/-- how many of the first twelve -/
def pcn (m : Int32) : Nat := 0 + b2 (bt m 0) + b2 (bt m 1) + b2 (bt m 2) + b2 (bt m 3) + b2 (bt m 4) + b2 (bt m 5) + b2 (bt m 6) + b2 (bt m 7) + b2 (bt m 8) + b2 (bt m 9) + b2 (bt m 10) + b2 (bt m 11)
theorem on_step (m : Int32) {k : Nat} (hk : k < 12) (n : Nat) (acc : Int32) : f_X6_ones_j4 m (n + 1) acc (Int32.ofNat k) = f_X6_ones_j4 m n (acc + Int32.ofNat (b2 (bt m k))) (Int32.ofNat (k + 1)) := by
  have e12 : (12 : Int32) = Int32.ofNat 12 := rfl
  rw [f_X6_ones_j4, if_neg (by rw [e12, pn_le (by omega) (by omega)]; omega), bt_val m (by omega), pn_succ, vm_b2]
theorem on_pcn (m : Int32) : f_X6_ones m = Int32.ofNat (pcn m) := by
  have h : f_X6_ones m = f_X6_ones_j4 m 13 (Int32.ofNat 0) (Int32.ofNat 0) := rfl
  rw [h, on_step m (by decide), on_step m (by decide), on_step m (by decide), on_step m (by decide), on_step m (by decide), on_step m (by decide), on_step m (by decide), on_step m (by decide), on_step m (by decide), on_step m (by decide), on_step m (by decide), on_step m (by decide), f_X6_ones_j4, if_pos (by decide)]
  rw [pn_add, pn_add, pn_add, pn_add, pn_add, pn_add, pn_add, pn_add, pn_add, pn_add, pn_add, pn_add]
  rfl
def msk (m : Int32) : Prop := ∃ n : Nat, n < 4096 ∧ m = Int32.ofNat n
theorem msk_0 : msk 0 := ⟨0, by decide, rfl⟩
theorem bt_pw : ∀ j : Nat, j < 12 → (1 : Int32) <<< (Int32.ofNat j &&& 31) = Int32.ofNat (2 ^ j) := by decide +kernel
theorem of_or (a b : Nat) : Int32.ofNat a ||| Int32.ofNat b = Int32.ofNat (a ||| b) := by
  apply Int32.toBitVec_inj.mp
  rw [Int32.toBitVec_or]
  exact BitVec.ofNat_or.symm
theorem msk_or {m : Int32} (h : msk m) {j : Nat} (hj : j < 12) : msk (m ||| (1 <<< (Int32.ofNat j &&& 31))) := by
  obtain ⟨n, hn, rfl⟩ := h
  rw [bt_pw j hj, of_or]
  refine ⟨n ||| 2 ^ j, Nat.or_lt_two_pow (n := 12) hn ?_, rfl⟩
  exact Nat.pow_lt_pow_right (by decide) hj
set_option maxRecDepth 100000 in
theorem bc_ones : ∀ n : Nat, n < 4096 → f_J6_bitCount_0f7a4 (Int32.ofNat n) = f_X6_ones (Int32.ofNat n) := by decide +kernel
theorem bc_pcn {m : Int32} (h : msk m) : f_J6_bitCount_0f7a4 m = Int32.ofNat (pcn m) := by
  obtain ⟨n, hn, rfl⟩ := h
  rw [bc_ones n hn, on_pcn]
theorem c12 {j : Nat} (h : j < 12) : j = 0 ∨ j = 1 ∨ j = 2 ∨ j = 3 ∨ j = 4 ∨ j = 5 ∨ j = 6 ∨ j = 7 ∨ j = 8 ∨ j = 9 ∨ j = 10 ∨ j = 11 := by omega
theorem pcn_add {m : Int32} {j : Nat} (hj : j < 12) (h : bt m j = false) : pcn (m ||| (1 <<< (Int32.ofNat j &&& 31))) = pcn m + 1 := by
  have e : ∀ i : Nat, i < 12 → bt (m ||| (1 <<< (Int32.ofNat j &&& 31))) i = (bt m i || decide (i = j)) := fun i hi => by rw [bt_or, bt_one j (by omega) i (by omega)]
  unfold pcn
  rw [e 0 (by decide), e 1 (by decide), e 2 (by decide), e 3 (by decide), e 4 (by decide), e 5 (by decide), e 6 (by decide), e 7 (by decide), e 8 (by decide), e 9 (by decide), e 10 (by decide), e 11 (by decide)]
  rcases c12 hj with rfl | rfl | rfl | rfl | rfl | rfl | rfl | rfl | rfl | rfl | rfl | rfl <;> simp [h, b2_t, b2_f] <;> omega
theorem pcn_sub {m : Int32} {j : Nat} (hj : j < 12) (h : bt m j = true) : pcn (m &&& ((1 <<< (Int32.ofNat j &&& 31)) ^^^ (-1))) + 1 = pcn m := by
  have e : ∀ i : Nat, i < 12 → bt (m &&& ((1 <<< (Int32.ofNat j &&& 31)) ^^^ (-1))) i = (bt m i && !decide (i = j)) := fun i hi => by rw [bt_and, bt_not _ (by omega), bt_one j (by omega) i (by omega)]
  unfold pcn
  rw [e 0 (by decide), e 1 (by decide), e 2 (by decide), e 3 (by decide), e 4 (by decide), e 5 (by decide), e 6 (by decide), e 7 (by decide), e 8 (by decide), e 9 (by decide), e 10 (by decide), e 11 (by decide)]
  rcases c12 hj with rfl | rfl | rfl | rfl | rfl | rfl | rfl | rfl | rfl | rfl | rfl | rfl <;> simp [h, b2_t, b2_f] <;> omega
theorem pcn_le (m : Int32) : pcn m ≤ 12 := by
  have e : ∀ b : Bool, b2 b ≤ 1 := fun b => by cases b <;> decide
  have e0 := e (bt m 0); have e1 := e (bt m 1); have e2 := e (bt m 2); have e3 := e (bt m 3); have e4 := e (bt m 4); have e5 := e (bt m 5); have e6 := e (bt m 6); have e7 := e (bt m 7); have e8 := e (bt m 8); have e9 := e (bt m 9); have e10 := e (bt m 10); have e11 := e (bt m 11)
  unfold pcn
  omega
theorem pcn_0 : pcn 0 = 0 := by unfold pcn; simp only [bt_zero, b2_f]
theorem pcn_pos {m : Int32} {j : Nat} (hj : j < 12) (h : bt m j = true) : 1 ≤ pcn m := by
  have := pcn_sub hj h
  omega
/-- a mask is known by its places -/
theorem msk_bt {m : Int32} (h : msk m) {j : Nat} (hj : 12 ≤ j) : bt m j = false := by
  obtain ⟨n, hn, rfl⟩ := h
  show (BitVec.ofNat 32 n).getLsbD j = false
  rw [BitVec.getLsbD_ofNat]
  have : n < 2 ^ j := Nat.lt_of_lt_of_le hn (Nat.pow_le_pow_right (n := 2) (by decide) hj)
  rw [Nat.testBit_lt_two_pow this, Bool.and_false]
theorem bt_isIn {m : Int32} {k : Nat} (hk : k < 12) : f_X2_isIn m (Int32.ofNat k) = bt m k := by
  have e12 : (12 : Int32) = Int32.ofNat 12 := rfl
  rw [f_X2_isIn, if_neg (pn_nn (by omega)), if_neg (by rw [e12, pn_le (by omega) (by omega)]; omega)]
  cases h : bt m k with
  | true => rw [if_pos ((bt_test m (by omega)).mpr h)]
  | false => rw [if_neg (fun q => by rw [(bt_test m (by omega)).mp q] at h; exact absurd h (by decide))]
theorem bt_has {m : Int32} {k : Nat} (hk : k < 12) : f_X6_has m (Int32.ofNat k) = bt m k := by
  rw [f_X6_has]
  cases h : bt m k with
  | true => rw [if_pos ((bt_test m (by omega)).mpr h)]
  | false => rw [if_neg (fun q => by rw [(bt_test m (by omega)).mp q] at h; exact absurd h (by decide))]
theorem bt_isPerson {m : Int32} {k : Nat} (hk : k < 8) : f_X0_isPersonIn m (Int32.ofNat k) = bt m k := by
  have e8 : (8 : Int32) = Int32.ofNat 8 := rfl
  rw [f_X0_isPersonIn, if_neg (pn_nn (by omega)), if_neg (by rw [e8, pn_le (by omega) (by omega)]; omega)]
  cases h : bt m k with
  | true => rw [if_pos ((bt_test m (by omega)).mpr h)]
  | false => rw [if_neg (fun q => by rw [(bt_test m (by omega)).mp q] at h; exact absurd h (by decide))]
