/-! TEXTS: how they are read -/
section TXS
variable {n k rd : Nat} {tx rx pa : Nat → Int32} {num due : Int32}
def dg_ (tx : Nat → Int32) (q : Nat) : Prop := ∃ d : Nat, d ≤ 9 ∧ tx q = Int32.ofNat (48 + d)
def dv_ (tx : Nat → Int32) (q : Nat) : Nat := (Int32.toNatClampNeg (tx q)) - 48
def nv_ (tx : Nat → Int32) (a : Nat) : Nat → Nat
  | 0 => 0
  | m + 1 => nv_ tx a m * 10 + dv_ tx (a + m)
def DG (tx : Nat → Int32) (a m : Nat) : Prop := ∀ q : Nat, q < m → dg_ tx (a + q)
def HD (tx pa : Nat → Int32) (i a : Nat) : Prop := (tx a = 115 ∨ tx a = 117) ∧ pa (3 * i) = vm_bi (decide (tx a = 117))
/-- the mandate's number lies from a + 1 on, m signs long -/
def MN (tx pa : Nat → Int32) (i a m : Nat) : Prop := 1 ≤ m ∧ DG tx (a + 1) m ∧ nv_ tx (a + 1) m < 12 ∧ pa (3 * i + 1) = Int32.ofNat (nv_ tx (a + 1) m)
/-- the amount from c + 1 on, m signs long -/
def AN (tx pa : Nat → Int32) (i c m : Nat) : Prop := 1 ≤ m ∧ m ≤ 4 ∧ DG tx (c + 1) m ∧ 10 ^ (m - 1) ≤ nv_ tx (c + 1) m ∧ nv_ tx (c + 1) m < 10 ^ m ∧ pa (3 * i + 2) = Int32.ofNat (nv_ tx (c + 1) m)
/-- a whole spending, from a to e -/
def SG (tx pa : Nat → Int32) (i a e : Nat) : Prop := HD tx pa i a ∧ ∃ m1 m2 : Nat, MN tx pa i a m1 ∧ tx (a + 1 + m1) = 58 ∧ AN tx pa i (a + 1 + m1) m2 ∧ e = a + 1 + m1 + 1 + m2
def ms_ (st : Nat) : Nat := if st = 0 then 0 else if st = 1 then 1 else if st ≤ 3 then 2 else if st = 4 then 3 else 4
/-- what is read of the last one, at the state st -/
def lst_ (tx pa : Nat → Int32) (k rd : Nat) (num due : Int32) (a st : Nat) : Prop :=
  (st = 0 ∧ due = 0 ∧ k = a) ∨
  (st = 1 ∧ due = 1 ∧ num = -1 ∧ k = a + 1 ∧ HD tx pa rd a) ∨
  ((st = 2 ∨ st = 3) ∧ due = 1 ∧ HD tx pa rd a ∧ ∃ m : Nat, k = a + 1 + m ∧ MN tx pa rd a m ∧ num = Int32.ofNat (nv_ tx (a + 1) m) ∧ (st = 2 ↔ nv_ tx (a + 1) m = 1)) ∨
  (st = 4 ∧ due = 2 ∧ num = -1 ∧ HD tx pa rd a ∧ ∃ m : Nat, k = a + 1 + m + 1 ∧ MN tx pa rd a m ∧ tx (a + 1 + m) = 58) ∨
  (5 ≤ st ∧ due = 2 ∧ HD tx pa rd a ∧ ∃ m1 m2 : Nat, k = a + 1 + m1 + 1 + m2 ∧ MN tx pa rd a m1 ∧ tx (a + 1 + m1) = 58 ∧ AN tx pa rd (a + 1 + m1) m2 ∧ st = m2 + 4 ∧ num = Int32.ofNat (nv_ tx (a + 1 + m1 + 1) m2))
def PS (tx pa : Nat → Int32) (k rd : Nat) (num due : Int32) (st : Nat) : Prop := st ≤ 8 ∧ 5 * rd + ms_ st ≤ k ∧ ∃ S : Nat → Nat, S 0 = 0 ∧ (∀ i : Nat, i < rd → ∃ e : Nat, SG tx pa i (S i) e ∧ tx e = 59 ∧ S (i + 1) = e + 1 ∧ e < k) ∧ lst_ tx pa k rd num due (S rd) st
theorem in_dg : ∀ c : Nat, c < 127 → f_X6_within (Int32.ofNat c - 48) 0 9 = f_X4_isDigit (Int32.ofNat c) := by decide +kernel
theorem isd_ : ∀ c : Nat, c < 127 → f_X4_isDigit (Int32.ofNat c) = decide (48 ≤ c ∧ c ≤ 57) := by decide +kernel
theorem sub48 {c : Nat} (h : 48 ≤ c) : Int32.ofNat c - 48 = Int32.ofNat (c - 48) := (Int32.ofNat_sub c 48 h).symm
theorem td_ (rd num due x : Int32) (pa : Nat → Int32) (v : Int32) (hv : v = if num = -1 then x else 10 * num + x) (b : Bool) (hb : b = (f_X6_within x 0 9 && (!decide (num = 0) && (if due = 1 then !decide (12 ≤ v) else f_X6_isMoney v)))) : f_X6_takesDigit rd num due pa x = (b, (if b = true then v else num), upd pa (Int32.toNatClampNeg ((3 * rd) + due)) (if b = true then v else num)) := by
  have h21 : f_X6_takesDigit rd num due pa x = f_X6_takesDigit_j21 rd num due pa x v := by
    rw [f_X6_takesDigit]
    by_cases h : num = -1
    · rw [if_pos h] at hv
      rw [if_pos h, hv]
    · rw [if_neg h] at hv
      rw [if_neg h, hv]
  rw [h21, f_X6_takesDigit_j21, f_X6_takesDigit_j67, f_X6_takesDigit_j63, f_X6_takesDigit_j68, f_X6_takesDigit_j68, f_X6_takesDigit_j82, f_X6_takesDigit_j82, f_X6_takesDigit_j82, f_X6_takesDigit_j82, if_pos (vb_f rfl : vm_bi false = 0), if_neg (vb_t rfl : ¬ vm_bi true = 0)]
  cases hw : f_X6_within x 0 9 with
  | false =>
    rw [hw, Bool.false_and] at hb
    subst hb
    rw [if_pos (vb_f rfl), if_neg (by decide)]
  | true =>
    rw [hw, Bool.true_and] at hb
    rw [if_neg (vb_t rfl)]
    by_cases h0 : num = 0
    · rw [decide_eq_true h0] at hb
      have hb : b = false := hb
      subst hb
      rw [if_pos h0, if_neg (by decide)]
    · rw [decide_eq_false h0, Bool.not_false, Bool.true_and] at hb
      rw [if_neg h0]
      by_cases h1 : due = 1
      · rw [if_pos h1] at hb
        rw [if_pos h1]
        by_cases h12 : 12 ≤ v
        · rw [decide_eq_true h12] at hb
          have hb : b = false := hb
          subst hb
          rw [if_pos h12, if_neg (by decide)]
        · rw [decide_eq_false h12] at hb
          have hb : b = true := hb
          subst hb
          rw [if_neg h12, if_pos rfl]
      · rw [if_neg h1] at hb
        rw [if_neg h1]
        cases hm : f_X6_isMoney v with
        | false =>
          rw [hm] at hb
          subst hb
          rw [if_pos (vb_f rfl), if_neg (by decide)]
        | true =>
          rw [hm] at hb
          subst hb
          rw [if_neg (vb_t rfl), if_pos rfl]
theorem tdo_ (rd num due x : Int32) (pa : Nat → Int32) (h : vp_in ((3 * rd) + due) 42) : o_X6_takesDigit rd num due pa x := by
  have h82 : ∀ (b : Bool) (w : Int32), o_X6_takesDigit_j82 rd due pa b w := fun b w => by
    rw [o_X6_takesDigit_j82]
    exact ⟨h, trivial⟩
  have h68 : ∀ (w : Int32) (b : Bool), o_X6_takesDigit_j68 rd num due pa w b := fun w b => by
    rw [o_X6_takesDigit_j68]
    split <;> exact h82 _ _
  have h21 : ∀ w : Int32, o_X6_takesDigit_j21 rd num due pa x w := fun w => by
    rw [o_X6_takesDigit_j21, o_X6_takesDigit_j67, o_X6_takesDigit_j63]
    split
    · exact h68 _ _
    · split
      · exact h68 _ _
      · split
        · split <;> exact h68 _ _
        · split <;> exact h68 _ _
  rw [o_X6_takesDigit]
  split <;> exact h21 _
theorem vp42 {rd d : Nat} (h : rd ≤ 11) (hd : d ≤ 2) : vp_in ((3 * Int32.ofNat rd) + Int32.ofNat d) 42 ∧ Int32.toNatClampNeg ((3 * Int32.ofNat rd) + Int32.ofNat d) = 3 * rd + d := by
  rw [show (3 : Int32) = Int32.ofNat 3 from rfl, pn_mul, pn_add, pn_clamp (by omega)]
  exact ⟨pz_vp (by omega) (by omega), rfl⟩
theorem vp420 {rd : Nat} (h : rd ≤ 13) : vp_in (3 * Int32.ofNat rd) 42 ∧ Int32.toNatClampNeg (3 * Int32.ofNat rd) = 3 * rd := by
  rw [show (3 : Int32) = Int32.ofNat 3 from rfl, pn_mul, pn_clamp (by omega)]
  exact ⟨pz_vp (by omega) (by omega), rfl⟩
/-! earlier spendings don't change -/
theorem MN.keep {pa' : Nat → Int32} {i a m : Nat} (h : MN tx pa i a m) (e : pa' (3 * i + 1) = pa (3 * i + 1)) : MN tx pa' i a m := ⟨h.1, h.2.1, h.2.2.1, e.trans h.2.2.2⟩
theorem HD.keep {pa' : Nat → Int32} {i a : Nat} (h : HD tx pa i a) (e : pa' (3 * i) = pa (3 * i)) : HD tx pa' i a := ⟨h.1, e.trans h.2⟩
theorem SG.keep {pa' : Nat → Int32} {i a e : Nat} (h : SG tx pa i a e) (e0 : pa' (3 * i) = pa (3 * i)) (e1 : pa' (3 * i + 1) = pa (3 * i + 1)) (e2 : pa' (3 * i + 2) = pa (3 * i + 2)) : SG tx pa' i a e := by
  obtain ⟨h0, m1, m2, h1, h2, ⟨a1, a2, a3, a4, a5, a6⟩, h4⟩ := h
  exact ⟨h0.keep e0, m1, m2, h1.keep e1, h2, ⟨a1, a2, a3, a4, a5, e2.trans a6⟩, h4⟩
theorem ne_c {a b : Nat} (h : a ≠ b) (ha : a < 127) (hb : b < 127) : ¬ Int32.ofNat a = Int32.ofNat b := fun q => h (pn_inj (by omega) (by omega) q)
theorem DG.more {a m : Nat} (h : DG tx a m) {d : Nat} (hd : d ≤ 9) (e : tx (a + m) = Int32.ofNat (48 + d)) : DG tx a (m + 1) ∧ nv_ tx a (m + 1) = nv_ tx a m * 10 + d := by
  refine ⟨fun q hq => ?_, ?_⟩
  · by_cases h2 : q = m
    · subst h2; exact ⟨d, hd, e⟩
    · exact h q (by omega)
  · show nv_ tx a m * 10 + dv_ tx (a + m) = _
    unfold dv_
    rw [e, pn_clamp (by omega)]
    omega
/-- a sign more -/
theorem step_ {st c : Nat} (P : PS tx pa k rd num due st) (hk : k < 60) (hc : c < 127) (hx : tx k = Int32.ofNat c) : o_X6_takes (Int32.ofNat rd) num due pa (tx k) ∧ ((∃ (st' rd' : Nat) (num' due' : Int32) (pa' : Nat → Int32), f_X4_stateAfter (Int32.ofNat st) (tx k) = Int32.ofNat st' ∧ f_X6_takes (Int32.ofNat rd) num due pa (tx k) = (true, Int32.ofNat rd', num', due', pa') ∧ PS tx pa' (k + 1) rd' num' due' st') ∨ (f_X4_stateAfter (Int32.ofNat st) (tx k) = -1 ∧ (f_X6_takes (Int32.ofNat rd) num due pa (tx k)).1 = false)) := by
  obtain ⟨hst, hkr, S, S0, Sall, L⟩ := P
  have hrd : rd ≤ 11 := by omega
  have hisd := isd_ c hc
  have hin := in_dg c hc
  rw [hisd] at hin
  -- earlier ones, after a write at the present one
  have keepS : ∀ (pa' : Nat → Int32) (j : Nat) (v : Int32), pa' = upd pa (3 * rd + j) v → ∀ i : Nat, i < rd → ∃ e : Nat, SG tx pa' i (S i) e ∧ tx e = 59 ∧ S (i + 1) = e + 1 ∧ e < k + 1 := fun pa' j v hpa i hi => by
    obtain ⟨e, h1, h2, h3, h4⟩ := Sall i hi
    subst hpa
    exact ⟨e, h1.keep (upd_n _ _ (by omega)) (upd_n _ _ (by omega)) (upd_n _ _ (by omega)), h2, h3, by omega⟩
  have keepS0 : ∀ i : Nat, i < rd → ∃ e : Nat, SG tx pa i (S i) e ∧ tx e = 59 ∧ S (i + 1) = e + 1 ∧ e < k + 1 := fun i hi => by
    obtain ⟨e, h1, h2, h3, h4⟩ := Sall i hi
    exact ⟨e, h1, h2, h3, by omega⟩
  obtain ⟨v30, c30⟩ := vp420 (rd := rd) (by omega)
  obtain ⟨v31, c31⟩ := vp42 (d := 1) hrd (by omega)
  obtain ⟨v32, c32⟩ := vp42 (d := 2) hrd (by omega)
  rcases L with ⟨rfl, rfl, hka⟩ | ⟨rfl, rfl, rfl, hka, hh⟩ | ⟨h23, rfl, hh, m, hka, hm, hn, h2⟩ | ⟨rfl, rfl, rfl, hh, m, hka, hm, h58⟩ | ⟨h5, rfl, hh, m1, m2, hka, hm, h58, ham, hst4, hn⟩
  · -- at the start
    refine ⟨?_, ?_⟩
    · rw [o_X6_takes, if_pos rfl]
      have : ∀ b : Bool, o_X6_takes_j28 (Int32.ofNat rd) pa (tx k) b := fun b => by
        rw [o_X6_takes_j28, o_X6_takes_j51]
        refine ⟨v30, ?_⟩
        split
        · trivial
        · split <;> trivial
      split <;> exact this _
    · have hs0 : f_X4_stateAfter (Int32.ofNat 0) (tx k) = if tx k = 115 then 1 else if tx k = 117 then 1 else -1 := by
        rw [f_X4_stateAfter, if_neg (by decide), if_neg (by decide), if_pos (by decide), f_X4_stateAfter_j52]
      rw [hs0, f_X6_takes, if_pos rfl, f_X6_takes_j28, f_X6_takes_j28, f_X6_takes_j51, f_X6_takes_j51, c30]
      have good : ∀ b : Bool, (tx k = 115 ∨ tx k = 117) → b = decide (tx k = 117) → PS tx (upd pa (3 * rd) (vm_bi b)) (k + 1) rd (-1) 1 1 := fun b h1 h2 => by
        have hms : ms_ 1 = 1 := rfl
        have hms0 : ms_ 0 = 0 := rfl
        rw [hms0] at hkr
        refine ⟨by omega, by rw [hms]; omega, S, S0, keepS _ 0 _ rfl, Or.inr (Or.inl ⟨rfl, rfl, rfl, by omega, ?_⟩)⟩
        rw [← hka]
        exact ⟨h1, by rw [upd_s, h2]⟩
      by_cases h117 : tx k = 117
      · left
        rw [if_pos h117]
        have h115 : ¬ tx k = 115 := by rw [h117]; decide
        rw [if_neg h115, if_neg h115, if_pos h117, if_pos h117]
        exact ⟨1, rd, -1, 1, _, rfl, rfl, good true (Or.inr h117) (decide_eq_true h117).symm⟩
      · by_cases h115 : tx k = 115
        · left
          rw [if_pos h115, if_neg h117, if_pos h115]
          exact ⟨1, rd, -1, 1, _, rfl, rfl, good false (Or.inl h115) (decide_eq_false h117).symm⟩
        · right
          rw [if_neg h115, if_neg h117, if_neg h117, if_neg h115, if_neg h117]
          exact ⟨rfl, rfl⟩
  · -- behind the kind
    have hms : ms_ 1 = 1 := rfl
    rw [hms] at hkr
    have hO : o_X6_takes_j130 (Int32.ofNat rd) (-1) 1 pa (tx k) := by
      rw [o_X6_takes_j130, o_X6_takes_c138]
      exact ⟨tdo_ _ _ _ _ _ v31, trivial⟩
    have hO91 : o_X6_takes_j91 (Int32.ofNat rd) (-1) 1 pa (tx k) := by
      rw [o_X6_takes_j91, if_neg (by decide)]
      exact hO
    have hF91 : f_X6_takes_j91 (Int32.ofNat rd) (-1) 1 pa (tx k) = f_X6_takes_j130 (Int32.ofNat rd) (-1) 1 pa (tx k) := by
      rw [f_X6_takes_j91, if_neg (by decide)]
    have hF : f_X6_takes (Int32.ofNat rd) (-1) 1 pa (tx k) = f_X6_takes_j130 (Int32.ofNat rd) (-1) 1 pa (tx k) := by
      rw [f_X6_takes, if_neg (by decide), if_pos rfl, if_pos rfl, hF91, ite_self]
    refine ⟨?_, ?_⟩
    · rw [o_X6_takes, if_neg (by decide), if_pos rfl, if_pos rfl, ite_self]
      exact hO91
    · have hs1 : f_X4_stateAfter (Int32.ofNat 1) (tx k) = if tx k = 49 then 2 else if vm_bi (f_X4_isDigit (tx k)) = 0 then -1 else 3 := by
        rw [f_X4_stateAfter, if_neg (by decide), if_neg (by decide), if_neg (by decide), if_pos (by decide), f_X4_stateAfterMandateDigit]
      rw [hs1, hF, f_X6_takes_j130, hx, hisd]
      by_cases hdg : 48 ≤ c ∧ c ≤ 57
      · left
        have hv12 : ¬ (12 : Int32) ≤ Int32.ofNat (c - 48) := by
          rw [e12_, pn_le (by omega) (by omega)]
          omega
        have ht := td_ (Int32.ofNat rd) (-1) 1 (Int32.ofNat c - 48) pa (Int32.ofNat (c - 48)) (by rw [if_pos rfl, sub48 hdg.1]) true (by
          rw [hin, decide_eq_true hdg, if_pos rfl, decide_eq_false hv12]
          decide)
        have c31' : Int32.toNatClampNeg ((3 * Int32.ofNat rd) + 1) = 3 * rd + 1 := c31
        rw [if_pos rfl, c31'] at ht
        rw [ht, f_X6_takes_c138, decide_eq_true hdg, if_neg (vb_t rfl)]
        dsimp only
        have hmore := DG.more (tx := tx) (a := S rd + 1) (m := 0) (fun q hq => absurd hq (by omega)) (d := c - 48) (by omega) (by rw [← hka, hx]; congr 1; omega)
        have hnv : nv_ tx (S rd + 1) 1 = c - 48 := by
          have this : nv_ tx (S rd + 1) 1 = nv_ tx (S rd + 1) 0 * 10 + (c - 48) := hmore.2
          have z0 : nv_ tx (S rd + 1) 0 = 0 := rfl
          rw [z0] at this
          omega
        have goodM : MN tx (upd pa (3 * rd + 1) (Int32.ofNat (c - 48))) rd (S rd) 1 := ⟨by omega, hmore.1, by rw [hnv]; omega, by rw [upd_s, hnv]⟩
        have good : ∀ st' : Nat, (st' = 2 ∨ st' = 3) → (st' = 2 ↔ c - 48 = 1) → PS tx (upd pa (3 * rd + 1) (Int32.ofNat (c - 48))) (k + 1) rd (Int32.ofNat (c - 48)) 1 st' := fun st' q1 q2 => by
          have hms' : ms_ st' = 2 := by rcases q1 with rfl | rfl <;> rfl
          refine ⟨by omega, by rw [hms']; omega, S, S0, keepS _ 1 _ rfl, Or.inr (Or.inr (Or.inl ⟨q1, rfl, hh.keep (upd_n _ _ (by omega)), 1, by omega, goodM, by rw [hnv], by rw [hnv]; exact q2⟩))⟩
        by_cases h49 : c = 49
        · rw [if_pos (by rw [h49]; rfl)]
          exact ⟨2, rd, _, 1, _, rfl, rfl, good 2 (Or.inl rfl) (by omega)⟩
        · have n49 : ¬ Int32.ofNat c = 49 := ne_c (b := 49) h49 hc (by omega)
          rw [if_neg n49]
          exact ⟨3, rd, _, 1, _, rfl, rfl, good 3 (Or.inr rfl) (by omega)⟩
      · right
        have ht := td_ (Int32.ofNat rd) (-1) 1 (Int32.ofNat c - 48) pa (Int32.ofNat c - 48) (by rw [if_pos rfl]) false (by rw [hin, decide_eq_false hdg, Bool.false_and])
        have n49 : ¬ Int32.ofNat c = 49 := ne_c (b := 49) (by omega) hc (by omega)
        rw [ht, f_X6_takes_c138, decide_eq_false hdg, if_pos (vb_f rfl), if_neg n49]
        exact ⟨rfl, rfl⟩
  · -- in the mandate's number
    have hms : ms_ st = 2 := by rcases h23 with rfl | rfl <;> rfl
    rw [hms] at hkr
    have hn11 := hm.2.2.1
    have hnm : ¬ num = -1 := by rw [hn]; exact pn_nm (by omega)
    have hO : o_X6_takes_j130 (Int32.ofNat rd) num 1 pa (tx k) := by
      rw [o_X6_takes_j130, o_X6_takes_c138]
      exact ⟨tdo_ _ _ _ _ _ v31, trivial⟩
    refine ⟨?_, ?_⟩
    · rw [o_X6_takes, if_neg (by decide : ¬ (1 : Int32) = 0), if_pos (rfl : (1 : Int32) = 1), if_neg hnm, o_X6_takes_j91, if_neg (by decide : ¬ (1 : Int32) = 2)]
      split
      · trivial
      · exact hO
    · have hs2 : f_X4_stateAfter (Int32.ofNat st) (tx k) = if st = 2 ∧ (tx k = 48 ∨ tx k = 49) then 3 else if tx k = 58 then 4 else -1 := by
        rw [f_X4_stateAfter, f_X4_stateAfter_j75, f_X4_stateAfterMandate]
        rcases h23 with rfl | rfl
        · rw [if_neg (by decide), if_neg (by decide), if_neg (by decide), if_neg (by decide), if_pos (by decide)]
          by_cases q48 : tx k = 48
          · rw [if_pos q48, if_pos ⟨rfl, Or.inl q48⟩]
          · by_cases q49 : tx k = 49
            · rw [if_neg q48, if_pos q49, if_pos ⟨rfl, Or.inr q49⟩]
            · have qq : ¬ (2 = 2 ∧ (tx k = 48 ∨ tx k = 49)) := fun q => q.2.elim q48 q49
              rw [if_neg q48, if_neg q49, if_neg qq]
        · have qq : ¬ (3 = 2 ∧ (tx k = 48 ∨ tx k = 49)) := fun q => absurd q.1 (by decide)
          rw [if_neg (by decide), if_neg (by decide), if_neg (by decide), if_neg (by decide), if_neg (by decide), if_pos (by decide), if_neg qq]
      rw [hs2, f_X6_takes, if_neg (by decide : ¬ (1 : Int32) = 0), if_pos (rfl : (1 : Int32) = 1), if_neg hnm, f_X6_takes_j91, if_neg (by decide : ¬ (1 : Int32) = 2), f_X6_takes_j130]
      by_cases h58 : tx k = 58
      · left
        have q48 : ¬ (st = 2 ∧ (tx k = 48 ∨ tx k = 49)) := fun q => by
          rcases q.2 with q | q <;> rw [h58] at q <;> exact absurd q (by decide)
        rw [if_neg q48, if_pos h58, if_pos h58]
        refine ⟨4, rd, -1, 2, pa, rfl, rfl, by omega, by have : ms_ 4 = 3 := rfl; rw [this]; omega, S, S0, keepS0, Or.inr (Or.inr (Or.inr (Or.inl ⟨rfl, rfl, rfl, hh, m, by omega, hm, by rw [← hka]; exact h58⟩)))⟩
      · rw [if_neg h58, if_neg h58]
        have hne58 : c ≠ 58 := fun q => h58 (by rw [hx, q]; rfl)
        by_cases hdg : 48 ≤ c ∧ c ≤ 57
        · have hv : (10 : Int32) * Int32.ofNat (nv_ tx (S rd + 1) m) + (Int32.ofNat c - 48) = Int32.ofNat (10 * nv_ tx (S rd + 1) m + (c - 48)) := by
            rw [sub48 hdg.1, show (10 : Int32) = Int32.ofNat 10 from rfl, pn_mul, pn_add]
          have hv12 : ((12 : Int32) ≤ Int32.ofNat (10 * nv_ tx (S rd + 1) m + (c - 48))) ↔ 12 ≤ 10 * nv_ tx (S rd + 1) m + (c - 48) := by
            rw [e12_, pn_le (by omega) (by omega)]
          have hz0 : (num = 0) ↔ nv_ tx (S rd + 1) m = 0 := by
            rw [hn]
            exact ⟨fun q => pn_inj (b := 0) (by omega) (by omega) q, fun q => by rw [q]; rfl⟩
          by_cases hgood : nv_ tx (S rd + 1) m = 1 ∧ c - 48 ≤ 1
          · left
            have ht := td_ (Int32.ofNat rd) num 1 (Int32.ofNat c - 48) pa (Int32.ofNat (10 * nv_ tx (S rd + 1) m + (c - 48))) (by rw [if_neg hnm, hn, hv]) true (by
              have q1 : ¬ (12 : Int32) ≤ Int32.ofNat (10 * nv_ tx (S rd + 1) m + (c - 48)) := fun q => by have := hv12.mp q; omega
              have q2 : ¬ num = 0 := fun q => by have := hz0.mp q; omega
              rw [hin, decide_eq_true hdg, if_pos rfl, decide_eq_false q1, decide_eq_false q2]
              decide)
            have c31' : Int32.toNatClampNeg ((3 * Int32.ofNat rd) + 1) = 3 * rd + 1 := c31
            rw [if_pos rfl, c31'] at ht
            rw [hx, ht, f_X6_takes_c138, if_pos ⟨h2.mpr hgood.1, by
              have : c = 48 ∨ c = 49 := by omega
              rcases this with rfl | rfl
              · exact Or.inl rfl
              · exact Or.inr rfl⟩]
            dsimp only
            obtain ⟨g1, g2⟩ := DG.more hm.2.1 (d := c - 48) (by omega) (by rw [← hka, hx]; congr 1; omega)
            have g2' : nv_ tx (S rd + 1) (m + 1) = 10 * nv_ tx (S rd + 1) m + (c - 48) := by rw [g2]; omega
            refine ⟨3, rd, _, 1, _, rfl, rfl, by omega, by have : ms_ 3 = 2 := rfl; rw [this]; omega, S, S0, keepS _ 1 _ rfl, Or.inr (Or.inr (Or.inl ⟨Or.inr rfl, rfl, hh.keep (upd_n _ _ (by omega)), m + 1, by omega, ⟨by omega, g1, by rw [g2']; omega, by rw [upd_s, g2']⟩, by rw [g2'], by omega⟩))⟩
          · right
            have ht := td_ (Int32.ofNat rd) num 1 (Int32.ofNat c - 48) pa (Int32.ofNat (10 * nv_ tx (S rd + 1) m + (c - 48))) (by rw [if_neg hnm, hn, hv]) false (by
              rw [hin, decide_eq_true hdg, if_pos rfl]
              by_cases h0 : nv_ tx (S rd + 1) m = 0
              · rw [decide_eq_true (hz0.mpr h0)]
                rfl
              · rw [decide_eq_true (hv12.mpr (by omega))]
                cases (!decide (num = 0)) <;> rfl)
            rw [hx, ht, f_X6_takes_c138, if_neg (fun q => by
              have q1 := h2.mp q.1
              rcases q.2 with q2 | q2
              · have := pn_inj (b := 48) (by omega) (by omega) q2; omega
              · have := pn_inj (b := 49) (by omega) (by omega) q2; omega)]
            exact ⟨rfl, rfl⟩
        · right
          have ht := td_ (Int32.ofNat rd) num 1 (Int32.ofNat c - 48) pa (if num = -1 then Int32.ofNat c - 48 else 10 * num + (Int32.ofNat c - 48)) rfl false (by rw [hin, decide_eq_false hdg, Bool.false_and])
          rw [hx, ht, f_X6_takes_c138, if_neg (fun q => by
            rcases q.2 with q2 | q2
            · have := pn_inj (b := 48) (by omega) (by omega) q2; omega
            · have := pn_inj (b := 49) (by omega) (by omega) q2; omega)]
          exact ⟨rfl, rfl⟩
  · -- behind the colon
    have hms : ms_ 4 = 3 := rfl
    rw [hms] at hkr
    have hO : o_X6_takes_j130 (Int32.ofNat rd) (-1) 2 pa (tx k) := by
      rw [o_X6_takes_j130, o_X6_takes_c138]
      exact ⟨tdo_ _ _ _ _ _ v32, trivial⟩
    have hF : f_X6_takes (Int32.ofNat rd) (-1) 2 pa (tx k) = f_X6_takes_j130 (Int32.ofNat rd) (-1) 2 pa (tx k) := by
      rw [f_X6_takes, if_neg (by decide), if_neg (by decide), f_X6_takes_j91, if_pos rfl, if_pos rfl, ite_self]
    refine ⟨?_, ?_⟩
    · rw [o_X6_takes, if_neg (by decide), if_neg (by decide), o_X6_takes_j91, if_pos rfl, if_pos rfl, ite_self]
      exact hO
    · have hs4 : f_X4_stateAfter (Int32.ofNat 4) (tx k) = if vm_bi (f_X4_isDigit (tx k)) = 0 then -1 else if tx k = 48 then -1 else 5 := by
        rw [f_X4_stateAfter, if_neg (by decide), if_neg (by decide), if_neg (by decide), if_neg (by decide), if_neg (by decide), if_neg (by decide)]
      rw [hs4, hF, f_X6_takes_j130, hx, hisd]
      by_cases hdg : 48 ≤ c ∧ c ≤ 57
      · have hmon : f_X6_isMoney (Int32.ofNat (c - 48)) = decide (1 ≤ c - 48) := by
          rw [f_X6_isMoney, f_X6_within, show (1 : Int32) = Int32.ofNat 1 from rfl, show (9999 : Int32) = Int32.ofNat 9999 from rfl]
          by_cases h : 1 ≤ c - 48
          · rw [if_neg (by rw [pn_lt (by omega) (by omega)]; omega), if_neg (by rw [pn_lt (by omega) (by omega)]; omega), decide_eq_true h]
          · rw [if_pos (by rw [pn_lt (by omega) (by omega)]; omega), decide_eq_false h]
        rw [decide_eq_true hdg, if_neg (vb_t rfl)]
        by_cases h48 : c = 48
        · right
          have ht := td_ (Int32.ofNat rd) (-1) 2 (Int32.ofNat c - 48) pa (Int32.ofNat (c - 48)) (by rw [if_pos rfl, sub48 hdg.1]) false (by
            rw [hin, decide_eq_true hdg, if_neg (by decide), hmon, decide_eq_false (by omega : ¬ 1 ≤ c - 48)]
            decide)
          rw [ht, f_X6_takes_c138, if_pos (by rw [h48]; rfl)]
          exact ⟨rfl, rfl⟩
        · left
          have ht := td_ (Int32.ofNat rd) (-1) 2 (Int32.ofNat c - 48) pa (Int32.ofNat (c - 48)) (by rw [if_pos rfl, sub48 hdg.1]) true (by
            rw [hin, decide_eq_true hdg, if_neg (by decide), hmon, decide_eq_true (by omega : 1 ≤ c - 48)]
            decide)
          have c32' : Int32.toNatClampNeg ((3 * Int32.ofNat rd) + 2) = 3 * rd + 2 := c32
          rw [if_pos rfl, c32'] at ht
          have n48 : ¬ Int32.ofNat c = 48 := ne_c (b := 48) h48 hc (by omega)
          rw [ht, f_X6_takes_c138, if_neg n48]
          dsimp only
          have hmore := DG.more (tx := tx) (a := S rd + 1 + m + 1) (m := 0) (fun q hq => absurd hq (by omega)) (d := c - 48) (by omega) (by rw [Nat.add_zero, ← hka, hx]; congr 1; omega)
          have hnv : nv_ tx (S rd + 1 + m + 1) 1 = c - 48 := by
            have this : nv_ tx (S rd + 1 + m + 1) 1 = nv_ tx (S rd + 1 + m + 1) 0 * 10 + (c - 48) := hmore.2
            have z0 : nv_ tx (S rd + 1 + m + 1) 0 = 0 := rfl
            rw [z0] at this
            omega
          refine ⟨5, rd, _, 2, _, rfl, rfl, by omega, by have : ms_ 5 = 4 := rfl; rw [this]; omega, S, S0, keepS _ 2 _ rfl, Or.inr (Or.inr (Or.inr (Or.inr ⟨by omega, rfl, hh.keep (upd_n _ _ (by omega)), m, 1, by omega, hm.keep (upd_n _ _ (by omega)), h58, ⟨by omega, by omega, hmore.1, by rw [hnv]; omega, by rw [hnv]; omega, by rw [upd_s, hnv]⟩, rfl, by rw [hnv]⟩)))⟩
      · right
        have ht := td_ (Int32.ofNat rd) (-1) 2 (Int32.ofNat c - 48) pa (Int32.ofNat c - 48) (by rw [if_pos rfl]) false (by rw [hin, decide_eq_false hdg, Bool.false_and])
        rw [ht, f_X6_takes_c138, decide_eq_false hdg, if_pos (vb_f rfl)]
        exact ⟨rfl, rfl⟩
  · -- in the amount
    have hms : ms_ st = 4 := by
      unfold ms_
      rw [if_neg (by omega), if_neg (by omega), if_neg (by omega), if_neg (by omega)]
    rw [hms] at hkr
    obtain ⟨am1, am2, am3, am4, am5, am6⟩ := ham
    have hpow : 10 ^ m2 ≤ 10000 := by
      have h9 : m2 = 1 ∨ m2 = 2 ∨ m2 = 3 ∨ m2 = 4 := by omega
      rcases h9 with rfl | rfl | rfl | rfl <;> decide
    have hpos : 1 ≤ nv_ tx (S rd + 1 + m1 + 1) m2 := Nat.le_trans (Nat.le_trans Nat.one_le_two_pow (Nat.pow_le_pow_left (by decide : 2 ≤ 10) (m2 - 1))) am4
    have hnm : ¬ num = -1 := by rw [hn]; exact pn_nm (by omega)
    have hn0 : ¬ num = 0 := by
      rw [hn]
      exact fun q => by have := pn_inj (b := 0) (by omega) (by omega) q; omega
    have hO : o_X6_takes_j130 (Int32.ofNat rd) num 2 pa (tx k) := by
      rw [o_X6_takes_j130, o_X6_takes_c138]
      exact ⟨tdo_ _ _ _ _ _ v32, trivial⟩
    refine ⟨?_, ?_⟩
    · rw [o_X6_takes, if_neg (by decide), if_neg (by decide), o_X6_takes_j91, if_pos rfl, if_neg hnm]
      split
      · trivial
      · exact hO
    · have h4 : 4 < (Int32.ofNat st).toInt := by rw [pn_toInt (by omega)]; omega
      rw [f_X4_stateAfter, if_pos (Or.inr h4), f_X4_stateAfterAmountDigit, f_X6_takes, if_neg (by decide : ¬ (2 : Int32) = 0), if_neg (by decide : ¬ (2 : Int32) = 1), f_X6_takes_j91, if_pos (rfl : (2 : Int32) = 2), if_neg hnm, f_X6_takes_j130]
      by_cases h59 : tx k = 59
      · left
        rw [if_pos h59, if_pos h59, pn_succ]
        refine ⟨0, rd + 1, num, 0, pa, rfl, rfl, by omega, by have : ms_ 0 = 0 := rfl; rw [this]; omega, va_up S (rd + 1) (k + 1), by rw [va_up_ne _ _ (by omega)]; exact S0, fun i hi => ?_, Or.inl ⟨rfl, rfl, by rw [va_up_self]⟩⟩
        rw [va_up_ne _ _ (by omega : i ≠ rd + 1)]
        by_cases hir : i = rd
        · subst hir
          rw [va_up_self]
          exact ⟨k, ⟨hh, m1, m2, hm, h58, ⟨am1, am2, am3, am4, am5, am6⟩, hka⟩, h59, rfl, by omega⟩
        · rw [va_up_ne _ _ (by omega : i + 1 ≠ rd + 1)]
          exact keepS0 i (by omega)
      · rw [if_neg h59, if_neg h59, hx, hisd]
        by_cases hdg : 48 ≤ c ∧ c ≤ 57
        · rw [decide_eq_true hdg, if_neg (vb_t rfl)]
          have hv : (10 : Int32) * Int32.ofNat (nv_ tx (S rd + 1 + m1 + 1) m2) + (Int32.ofNat c - 48) = Int32.ofNat (10 * nv_ tx (S rd + 1 + m1 + 1) m2 + (c - 48)) := by
            rw [sub48 hdg.1, show (10 : Int32) = Int32.ofNat 10 from rfl, pn_mul, pn_add]
          have hmon : f_X6_isMoney (Int32.ofNat (10 * nv_ tx (S rd + 1 + m1 + 1) m2 + (c - 48))) = decide (10 * nv_ tx (S rd + 1 + m1 + 1) m2 + (c - 48) ≤ 9999) := by
            rw [f_X6_isMoney, f_X6_within, show (1 : Int32) = Int32.ofNat 1 from rfl, show (9999 : Int32) = Int32.ofNat 9999 from rfl, if_neg (by rw [pn_lt (by omega) (by omega)]; omega)]
            by_cases h : 10 * nv_ tx (S rd + 1 + m1 + 1) m2 + (c - 48) ≤ 9999
            · rw [if_neg (by rw [pn_lt (by omega) (by omega)]; omega), decide_eq_true h]
            · rw [if_pos (by rw [pn_lt (by omega) (by omega)]; omega), decide_eq_false h]
          by_cases h8 : st = 8
          · right
            have hm4 : m2 = 4 := by omega
            have hbig : ¬ 10 * nv_ tx (S rd + 1 + m1 + 1) m2 + (c - 48) ≤ 9999 := by
              have : 10 ^ (m2 - 1) = 1000 := by rw [hm4]
              omega
            have ht := td_ (Int32.ofNat rd) num 2 (Int32.ofNat c - 48) pa (Int32.ofNat (10 * nv_ tx (S rd + 1 + m1 + 1) m2 + (c - 48))) (by rw [if_neg hnm, hn, hv]) false (by
              rw [hin, decide_eq_true hdg, if_neg (by decide), hmon, decide_eq_false hbig]
              cases (!decide (num = 0)) <;> rfl)
            rw [ht, f_X6_takes_c138, if_pos (by rw [h8]; decide)]
            exact ⟨rfl, rfl⟩
          · left
            have hm3 : m2 ≤ 3 := by omega
            have hsm : nv_ tx (S rd + 1 + m1 + 1) m2 < 10 ^ m2 := am5
            have hp1 : 10 ^ (m2 + 1) = 10 ^ m2 * 10 := Nat.pow_succ 10 m2
            have hp2 : 10 ^ m2 = 10 ^ (m2 - 1) * 10 := by
              have : m2 = (m2 - 1) + 1 := by omega
              conv => lhs; rw [this]
              exact Nat.pow_succ 10 (m2 - 1)
            have hp3 : 10 ^ m2 ≤ 1000 := by
              have h9 : m2 = 1 ∨ m2 = 2 ∨ m2 = 3 := by omega
              rcases h9 with rfl | rfl | rfl <;> decide
            have hok : 10 * nv_ tx (S rd + 1 + m1 + 1) m2 + (c - 48) ≤ 9999 := by omega
            have ht := td_ (Int32.ofNat rd) num 2 (Int32.ofNat c - 48) pa (Int32.ofNat (10 * nv_ tx (S rd + 1 + m1 + 1) m2 + (c - 48))) (by rw [if_neg hnm, hn, hv]) true (by
              rw [hin, decide_eq_true hdg, if_neg (by decide), hmon, decide_eq_true hok, decide_eq_false hn0]
              decide)
            have c32' : Int32.toNatClampNeg ((3 * Int32.ofNat rd) + 2) = 3 * rd + 2 := c32
            rw [if_pos rfl, c32'] at ht
            obtain ⟨g1, g2⟩ := DG.more am3 (d := c - 48) (by omega) (by rw [← hka, hx]; congr 1; omega)
            have g2' : nv_ tx (S rd + 1 + m1 + 1) (m2 + 1) = 10 * nv_ tx (S rd + 1 + m1 + 1) m2 + (c - 48) := by rw [g2]; omega
            have hle8 : ¬ (8 : Int32) ≤ Int32.ofNat st := le8c (by omega)
            rw [ht, f_X6_takes_c138, if_neg hle8, pn_succ]
            dsimp only
            refine ⟨st + 1, rd, _, 2, _, rfl, rfl, by omega, ?_, S, S0, keepS _ 2 _ rfl, Or.inr (Or.inr (Or.inr (Or.inr ⟨by omega, rfl, hh.keep (upd_n _ _ (by omega)), m1, m2 + 1, by omega, hm.keep (upd_n _ _ (by omega)), h58, ⟨by omega, by omega, g1, ?_, ?_, by rw [upd_s, g2']⟩, by omega, by rw [g2']⟩)))⟩
            · have : ms_ (st + 1) = 4 := by
                unfold ms_
                rw [if_neg (by omega), if_neg (by omega), if_neg (by omega), if_neg (by omega)]
              rw [this]
              omega
            · rw [g2', Nat.add_sub_cancel]
              omega
            · rw [g2']
              omega
        · right
          have ht := td_ (Int32.ofNat rd) num 2 (Int32.ofNat c - 48) pa (if num = -1 then Int32.ofNat c - 48 else 10 * num + (Int32.ofNat c - 48)) rfl false (by rw [hin, decide_eq_false hdg, Bool.false_and])
          rw [ht, f_X6_takes_c138, decide_eq_false hdg, if_pos (vb_f rfl)]
          exact ⟨rfl, rfl⟩
end TXS
