/-! READS -/
section RDS
variable {r s k : Nat} {f g ap z : Nat → Int32} {day grace longest spent spentIn spendings urgentSp dropped lapsedLate : Int32}
theorem mprop0 (B : BZ r s f g ap day grace longest spent spentIn spendings urgentSp dropped lapsedLate z) (hk : k < r) : f_X0_mandateProperty (Int32.ofNat r) f (Int32.ofNat s) g (Int32.ofNat k) 0 = f_X6_mandateNow z (Int32.ofNat k) 0 ∧ o_X6_mandateNow z (Int32.ofNat k) 0 := by
  have M := B.1
  have R := B.2.1
  have h12 := M.1
  have e1 : f_X0_mandateProperty (Int32.ofNat r) f (Int32.ofNat s) g (Int32.ofNat k) 0 = f_X2_get (Int32.ofNat r) f (Int32.ofNat k) 0 := by
    rw [f_X0_mandateProperty, if_neg (by decide), if_pos (by decide)]
  have e2 : f_X6_mandateNow z (Int32.ofNat k) 0 = f_X6_of z (Int32.ofNat k) 0 := by
    rw [f_X6_mandateNow, if_pos (by decide)]
  have e3 : o_X6_mandateNow z (Int32.ofNat k) 0 := by
    rw [o_X6_mandateNow, if_pos (by decide)]
    exact ⟨oo0 h12 hk, trivial⟩
  rw [e1, e2]
  refine ⟨?_, e3⟩
  rw [f_X2_get, p8_0 h12 hk, mo0 M hk]
theorem mprop1 (B : BZ r s f g ap day grace longest spent spentIn spendings urgentSp dropped lapsedLate z) (hk : k < r) : f_X0_mandateProperty (Int32.ofNat r) f (Int32.ofNat s) g (Int32.ofNat k) 1 = f_X6_mandateNow z (Int32.ofNat k) 1 ∧ o_X6_mandateNow z (Int32.ofNat k) 1 := by
  have M := B.1
  have R := B.2.1
  have h12 := M.1
  have e1 : f_X0_mandateProperty (Int32.ofNat r) f (Int32.ofNat s) g (Int32.ofNat k) 1 = f_X2_get (Int32.ofNat r) f (Int32.ofNat k) 1 := by
    rw [f_X0_mandateProperty, if_neg (by decide), if_neg (by decide), if_pos (by decide)]
  have e2 : f_X6_mandateNow z (Int32.ofNat k) 1 = f_X6_of z (Int32.ofNat k) 1 := by
    rw [f_X6_mandateNow, if_pos (by decide)]
  have e3 : o_X6_mandateNow z (Int32.ofNat k) 1 := by
    rw [o_X6_mandateNow, if_pos (by decide)]
    exact ⟨oo1 h12 hk, trivial⟩
  rw [e1, e2]
  refine ⟨?_, e3⟩
  rw [f_X2_get, p8_1 h12 hk, mo1 M hk]
theorem mprop2 (B : BZ r s f g ap day grace longest spent spentIn spendings urgentSp dropped lapsedLate z) (hk : k < r) : f_X0_mandateProperty (Int32.ofNat r) f (Int32.ofNat s) g (Int32.ofNat k) 2 = f_X6_mandateNow z (Int32.ofNat k) 2 ∧ o_X6_mandateNow z (Int32.ofNat k) 2 := by
  have M := B.1
  have R := B.2.1
  have h12 := M.1
  have e1 : f_X0_mandateProperty (Int32.ofNat r) f (Int32.ofNat s) g (Int32.ofNat k) 2 = f_X2_get (Int32.ofNat r) f (Int32.ofNat k) 2 := by
    rw [f_X0_mandateProperty, if_neg (by decide), if_neg (by decide), if_neg (by decide), if_pos (by decide)]
  have e2 : f_X6_mandateNow z (Int32.ofNat k) 2 = f_X6_of z (Int32.ofNat k) 2 := by
    rw [f_X6_mandateNow, if_pos (by decide)]
  have e3 : o_X6_mandateNow z (Int32.ofNat k) 2 := by
    rw [o_X6_mandateNow, if_pos (by decide)]
    exact ⟨oo2 h12 hk, trivial⟩
  rw [e1, e2]
  refine ⟨?_, e3⟩
  rw [f_X2_get, p8_2 h12 hk, mo2 M hk]
theorem mprop3 (B : BZ r s f g ap day grace longest spent spentIn spendings urgentSp dropped lapsedLate z) (hk : k < r) : f_X0_mandateProperty (Int32.ofNat r) f (Int32.ofNat s) g (Int32.ofNat k) 3 = f_X6_mandateNow z (Int32.ofNat k) 3 ∧ o_X6_mandateNow z (Int32.ofNat k) 3 := by
  have M := B.1
  have R := B.2.1
  have h12 := M.1
  have e1 : f_X0_mandateProperty (Int32.ofNat r) f (Int32.ofNat s) g (Int32.ofNat k) 3 = f_X2_get (Int32.ofNat r) f (Int32.ofNat k) 3 := by
    rw [f_X0_mandateProperty, if_neg (by decide), if_neg (by decide), if_neg (by decide), if_neg (by decide), if_pos (by decide)]
  have e2 : f_X6_mandateNow z (Int32.ofNat k) 3 = f_X6_of z (Int32.ofNat k) 3 := by
    rw [f_X6_mandateNow, if_pos (by decide)]
  have e3 : o_X6_mandateNow z (Int32.ofNat k) 3 := by
    rw [o_X6_mandateNow, if_pos (by decide)]
    exact ⟨oo3 h12 hk, trivial⟩
  rw [e1, e2]
  refine ⟨?_, e3⟩
  rw [f_X2_get, p8_3 h12 hk, mo3 M hk]
theorem mprop4 (B : BZ r s f g ap day grace longest spent spentIn spendings urgentSp dropped lapsedLate z) (hk : k < r) : f_X0_mandateProperty (Int32.ofNat r) f (Int32.ofNat s) g (Int32.ofNat k) 4 = f_X6_mandateNow z (Int32.ofNat k) 4 ∧ o_X6_mandateNow z (Int32.ofNat k) 4 := by
  have M := B.1
  have R := B.2.1
  have h12 := M.1
  have e1 : f_X0_mandateProperty (Int32.ofNat r) f (Int32.ofNat s) g (Int32.ofNat k) 4 = f_X2_get (Int32.ofNat r) f (Int32.ofNat k) 4 := by
    rw [f_X0_mandateProperty, if_neg (by decide), if_neg (by decide), if_neg (by decide), if_neg (by decide), if_neg (by decide), if_pos (by decide)]
  have e2 : f_X6_mandateNow z (Int32.ofNat k) 4 = f_X6_of z (Int32.ofNat k) 4 := by
    rw [f_X6_mandateNow, if_pos (by decide)]
  have e3 : o_X6_mandateNow z (Int32.ofNat k) 4 := by
    rw [o_X6_mandateNow, if_pos (by decide)]
    exact ⟨oo4 h12 hk, trivial⟩
  rw [e1, e2]
  refine ⟨?_, e3⟩
  rw [f_X2_get, p8_4 h12 hk, mo4 M hk]
theorem mprop5 (B : BZ r s f g ap day grace longest spent spentIn spendings urgentSp dropped lapsedLate z) (hk : k < r) : f_X0_mandateProperty (Int32.ofNat r) f (Int32.ofNat s) g (Int32.ofNat k) 5 = f_X6_mandateNow z (Int32.ofNat k) 5 ∧ o_X6_mandateNow z (Int32.ofNat k) 5 := by
  have M := B.1
  have R := B.2.1
  have h12 := M.1
  have e1 : f_X0_mandateProperty (Int32.ofNat r) f (Int32.ofNat s) g (Int32.ofNat k) 5 = (if (vm_bi (f_X2_stands (Int32.ofNat r) f (Int32.ofNat k))) = 0 then 0 else 1) := by
    rw [f_X0_mandateProperty, if_neg (by decide), if_neg (by decide), if_neg (by decide), if_neg (by decide), if_neg (by decide), if_neg (by decide), if_pos (by decide)]
  have e2 : f_X6_mandateNow z (Int32.ofNat k) 5 = f_X6_of z (Int32.ofNat k) 5 := by
    rw [f_X6_mandateNow, if_pos (by decide)]
  have e3 : o_X6_mandateNow z (Int32.ofNat k) 5 := by
    rw [o_X6_mandateNow, if_pos (by decide)]
    exact ⟨oo5 h12 hk, trivial⟩
  rw [e1, e2]
  refine ⟨?_, e3⟩
  rw [ms_c M hk, mo5 M hk]
  cases decide (f (8 * k + 5) = -1) with
  | true => rw [if_neg (vb_t rfl)]; rfl
  | false => rw [if_pos (vb_f rfl)]; rfl
theorem mprop6 (B : BZ r s f g ap day grace longest spent spentIn spendings urgentSp dropped lapsedLate z) (hk : k < r) : f_X0_mandateProperty (Int32.ofNat r) f (Int32.ofNat s) g (Int32.ofNat k) 6 = f_X6_mandateNow z (Int32.ofNat k) 6 ∧ o_X6_mandateNow z (Int32.ofNat k) 6 := by
  have M := B.1
  have R := B.2.1
  have h12 := M.1
  have e1 : f_X0_mandateProperty (Int32.ofNat r) f (Int32.ofNat s) g (Int32.ofNat k) 6 = f_X2_get (Int32.ofNat r) f (Int32.ofNat k) 6 := by
    rw [f_X0_mandateProperty, if_neg (by decide), if_neg (by decide), if_neg (by decide), if_neg (by decide), if_neg (by decide), if_neg (by decide), if_neg (by decide), if_pos (by decide)]
  have e2 : f_X6_mandateNow z (Int32.ofNat k) 6 = f_X6_of z (Int32.ofNat k) 6 := by
    rw [f_X6_mandateNow, if_pos (by decide)]
  have e3 : o_X6_mandateNow z (Int32.ofNat k) 6 := by
    rw [o_X6_mandateNow, if_pos (by decide)]
    exact ⟨oo6 h12 hk, trivial⟩
  rw [e1, e2]
  refine ⟨?_, e3⟩
  rw [f_X2_get, p8_6 h12 hk, mo6 M hk]
theorem mprop7 (B : BZ r s f g ap day grace longest spent spentIn spendings urgentSp dropped lapsedLate z) (hk : k < r) : f_X0_mandateProperty (Int32.ofNat r) f (Int32.ofNat s) g (Int32.ofNat k) 7 = f_X6_mandateNow z (Int32.ofNat k) 7 ∧ o_X6_mandateNow z (Int32.ofNat k) 7 := by
  have M := B.1
  have R := B.2.1
  have h12 := M.1
  have e1 : f_X0_mandateProperty (Int32.ofNat r) f (Int32.ofNat s) g (Int32.ofNat k) 7 = f_X2_get (Int32.ofNat r) f (Int32.ofNat k) 7 := by
    rw [f_X0_mandateProperty, if_neg (by decide), if_neg (by decide), if_neg (by decide), if_neg (by decide), if_neg (by decide), if_neg (by decide), if_neg (by decide), if_neg (by decide), if_pos (by decide)]
  have e2 : f_X6_mandateNow z (Int32.ofNat k) 7 = f_X6_of z (Int32.ofNat k) 7 := by
    rw [f_X6_mandateNow, if_pos (by decide)]
  have e3 : o_X6_mandateNow z (Int32.ofNat k) 7 := by
    rw [o_X6_mandateNow, if_pos (by decide)]
    exact ⟨oo7 h12 hk, trivial⟩
  rw [e1, e2]
  refine ⟨?_, e3⟩
  rw [f_X2_get, p8_7 h12 hk, mo7 M hk]
theorem mprop8 (B : BZ r s f g ap day grace longest spent spentIn spendings urgentSp dropped lapsedLate z) (hk : k < r) : f_X0_mandateProperty (Int32.ofNat r) f (Int32.ofNat s) g (Int32.ofNat k) 8 = f_X6_mandateNow z (Int32.ofNat k) 8 ∧ o_X6_mandateNow z (Int32.ofNat k) 8 := by
  have M := B.1
  have R := B.2.1
  have h12 := M.1
  have e1 : f_X0_mandateProperty (Int32.ofNat r) f (Int32.ofNat s) g (Int32.ofNat k) 8 = f_X2_chainLength (Int32.ofNat r) f (Int32.ofNat k) := by
    rw [f_X0_mandateProperty, if_neg (by decide), if_neg (by decide), if_neg (by decide), if_neg (by decide), if_neg (by decide), if_neg (by decide), if_neg (by decide), if_neg (by decide), if_neg (by decide), if_pos (by decide)]
  have e2 : f_X6_mandateNow z (Int32.ofNat k) 8 = f_X6_chainOf z (Int32.ofNat k) := by
    rw [f_X6_mandateNow, if_neg (by decide), if_pos (by decide)]
  have e3 : o_X6_mandateNow z (Int32.ofNat k) 8 := by
    rw [o_X6_mandateNow, if_neg (by decide), if_pos (by decide)]
    exact ⟨(mchainOf M hk).2.2, trivial⟩
  rw [e1, e2]
  refine ⟨?_, e3⟩
  exact (mchainOf M hk).2.1
theorem mprop9 (B : BZ r s f g ap day grace longest spent spentIn spendings urgentSp dropped lapsedLate z) (hk : k < r) : f_X0_mandateProperty (Int32.ofNat r) f (Int32.ofNat s) g (Int32.ofNat k) 9 = f_X6_mandateNow z (Int32.ofNat k) 9 ∧ o_X6_mandateNow z (Int32.ofNat k) 9 := by
  have M := B.1
  have R := B.2.1
  have h12 := M.1
  have e1 : f_X0_mandateProperty (Int32.ofNat r) f (Int32.ofNat s) g (Int32.ofNat k) 9 = f_X2_standingUnder (Int32.ofNat r) f (Int32.ofNat k) := by
    rw [f_X0_mandateProperty, if_neg (by decide), if_neg (by decide), if_neg (by decide), if_neg (by decide), if_neg (by decide), if_neg (by decide), if_neg (by decide), if_neg (by decide), if_neg (by decide), if_neg (by decide), if_pos (by decide)]
  have e2 : f_X6_mandateNow z (Int32.ofNat k) 9 = f_X6_ones ((f_X6_standingUnder z (Int32.ofNat k)) &&& ((1 <<< (Int32.ofNat k &&& 31)) ^^^ (-1))) := by
    rw [f_X6_mandateNow, if_neg (by decide), if_neg (by decide), if_pos (by decide)]
  have e3 : o_X6_mandateNow z (Int32.ofNat k) 9 := by
    rw [o_X6_mandateNow, if_neg (by decide), if_neg (by decide), if_pos (by decide)]
    exact ⟨(mlapse M hk).2.1, trivial⟩
  rw [e1, e2]
  refine ⟨?_, e3⟩
  exact munder M hk
theorem mprop10 (B : BZ r s f g ap day grace longest spent spentIn spendings urgentSp dropped lapsedLate z) (hk : k < r) : f_X0_mandateProperty (Int32.ofNat r) f (Int32.ofNat s) g (Int32.ofNat k) 10 = f_X6_mandateNow z (Int32.ofNat k) 10 ∧ o_X6_mandateNow z (Int32.ofNat k) 10 := by
  have M := B.1
  have R := B.2.1
  have h12 := M.1
  have e1 : f_X0_mandateProperty (Int32.ofNat r) f (Int32.ofNat s) g (Int32.ofNat k) 10 = f_X0_waitingBy (Int32.ofNat s) g (Int32.ofNat k) := by
    rw [f_X0_mandateProperty, if_neg (by decide), if_neg (by decide), if_neg (by decide), if_neg (by decide), if_neg (by decide), if_neg (by decide), if_neg (by decide), if_neg (by decide), if_neg (by decide), if_neg (by decide), if_neg (by decide)]
  have e2 : f_X6_mandateNow z (Int32.ofNat k) 10 = f_X6_requestsBy z (Int32.ofNat k) := by
    rw [f_X6_mandateNow, if_neg (by decide), if_neg (by decide), if_neg (by decide), if_pos (by decide)]
  have e3 : o_X6_mandateNow z (Int32.ofNat k) 10 := by
    rw [o_X6_mandateNow, if_neg (by decide), if_neg (by decide), if_neg (by decide), if_pos (by decide)]
    exact ⟨(rwaiting R _).2, trivial⟩
  rw [e1, e2]
  refine ⟨?_, e3⟩
  exact (rwaiting R _).1
theorem mprop11 (B : BZ r s f g ap day grace longest spent spentIn spendings urgentSp dropped lapsedLate z) (hk : k < r) : f_X0_mandateProperty (Int32.ofNat r) f (Int32.ofNat s) g (Int32.ofNat k) 11 = f_X6_mandateNow z (Int32.ofNat k) 11 ∧ o_X6_mandateNow z (Int32.ofNat k) 11 := by
  have M := B.1
  have R := B.2.1
  have h12 := M.1
  have e1 : f_X0_mandateProperty (Int32.ofNat r) f (Int32.ofNat s) g (Int32.ofNat k) 11 = f_X2_get (Int32.ofNat r) f (Int32.ofNat k) 5 := by
    rw [f_X0_mandateProperty, if_pos (by decide)]
  have e2 : f_X6_mandateNow z (Int32.ofNat k) 11 = f_X6_of z (Int32.ofNat k) 8 := by
    rw [f_X6_mandateNow, if_neg (by decide), if_neg (by decide), if_neg (by decide), if_neg (by decide)]
  have e3 : o_X6_mandateNow z (Int32.ofNat k) 11 := by
    rw [o_X6_mandateNow, if_neg (by decide), if_neg (by decide), if_neg (by decide), if_neg (by decide)]
    exact ⟨oo8 h12 hk, trivial⟩
  rw [e1, e2]
  refine ⟨?_, e3⟩
  rw [f_X2_get, p8_5 h12 hk, mo8 M hk]
theorem mprop (B : BZ r s f g ap day grace longest spent spentIn spendings urgentSp dropped lapsedLate z) (hk : k < r) {c : Nat} (hc : c ≤ 11) : f_X0_mandateProperty (Int32.ofNat r) f (Int32.ofNat s) g (Int32.ofNat k) (Int32.ofNat c) = f_X6_mandateNow z (Int32.ofNat k) (Int32.ofNat c) ∧ o_X6_mandateNow z (Int32.ofNat k) (Int32.ofNat c) := by
  have h : c = 0 ∨ c = 1 ∨ c = 2 ∨ c = 3 ∨ c = 4 ∨ c = 5 ∨ c = 6 ∨ c = 7 ∨ c = 8 ∨ c = 9 ∨ c = 10 ∨ c = 11 := by omega
  rcases h with rfl | rfl | rfl | rfl | rfl | rfl | rfl | rfl | rfl | rfl | rfl | rfl
  · exact mprop0 B hk
  · exact mprop1 B hk
  · exact mprop2 B hk
  · exact mprop3 B hk
  · exact mprop4 B hk
  · exact mprop5 B hk
  · exact mprop6 B hk
  · exact mprop7 B hk
  · exact mprop8 B hk
  · exact mprop9 B hk
  · exact mprop10 B hk
  · exact mprop11 B hk
theorem rprop0 (B : BZ r s f g ap day grace longest spent spentIn spendings urgentSp dropped lapsedLate z) (hk : k < s) : f_X0_requestProperty (Int32.ofNat r) f (Int32.ofNat s) g (Int32.ofNat k) 0 = f_X6_requestNow z (Int32.ofNat k) 0 ∧ o_X6_requestNow z (Int32.ofNat k) 0 := by
  have M := B.1
  have R := B.2.1
  have h6 := R.1
  rw [f_X0_requestProperty, if_neg (by decide), if_pos (by decide), f_X6_requestNow, if_neg (by decide), o_X6_requestNow, if_neg (by decide), p6_0 h6 hk, ro0 R hk]
  exact ⟨rfl, roo0 h6 hk, trivial⟩
theorem rprop1 (B : BZ r s f g ap day grace longest spent spentIn spendings urgentSp dropped lapsedLate z) (hk : k < s) : f_X0_requestProperty (Int32.ofNat r) f (Int32.ofNat s) g (Int32.ofNat k) 1 = f_X6_requestNow z (Int32.ofNat k) 1 ∧ o_X6_requestNow z (Int32.ofNat k) 1 := by
  have M := B.1
  have R := B.2.1
  have h6 := R.1
  rw [f_X0_requestProperty, if_neg (by decide), if_neg (by decide), if_pos (by decide), f_X6_requestNow, if_neg (by decide), o_X6_requestNow, if_neg (by decide), p6_1 h6 hk, ro1 R hk]
  exact ⟨rfl, roo1 h6 hk, trivial⟩
theorem rprop2 (B : BZ r s f g ap day grace longest spent spentIn spendings urgentSp dropped lapsedLate z) (hk : k < s) : f_X0_requestProperty (Int32.ofNat r) f (Int32.ofNat s) g (Int32.ofNat k) 2 = f_X6_requestNow z (Int32.ofNat k) 2 ∧ o_X6_requestNow z (Int32.ofNat k) 2 := by
  have M := B.1
  have R := B.2.1
  have h6 := R.1
  rw [f_X0_requestProperty, if_neg (by decide), if_neg (by decide), if_neg (by decide), if_pos (by decide), f_X6_requestNow, if_neg (by decide), o_X6_requestNow, if_neg (by decide), p6_2 h6 hk, ro2 R hk]
  exact ⟨rfl, roo2 h6 hk, trivial⟩
theorem rprop3 (B : BZ r s f g ap day grace longest spent spentIn spendings urgentSp dropped lapsedLate z) (hk : k < s) : f_X0_requestProperty (Int32.ofNat r) f (Int32.ofNat s) g (Int32.ofNat k) 3 = f_X6_requestNow z (Int32.ofNat k) 3 ∧ o_X6_requestNow z (Int32.ofNat k) 3 := by
  have M := B.1
  have R := B.2.1
  have h6 := R.1
  rw [f_X0_requestProperty, if_neg (by decide), if_neg (by decide), if_neg (by decide), if_neg (by decide), if_pos (by decide), f_X6_requestNow, if_neg (by decide), o_X6_requestNow, if_neg (by decide), p6_3 h6 hk, ro3 R hk]
  exact ⟨rfl, roo3 h6 hk, trivial⟩
theorem rprop4 (B : BZ r s f g ap day grace longest spent spentIn spendings urgentSp dropped lapsedLate z) (hk : k < s) : f_X0_requestProperty (Int32.ofNat r) f (Int32.ofNat s) g (Int32.ofNat k) 4 = f_X6_requestNow z (Int32.ofNat k) 4 ∧ o_X6_requestNow z (Int32.ofNat k) 4 := by
  have M := B.1
  have R := B.2.1
  have h6 := R.1
  rw [f_X0_requestProperty, if_neg (by decide), if_neg (by decide), if_neg (by decide), if_neg (by decide), if_neg (by decide), if_pos (by decide), f_X6_requestNow, if_neg (by decide), o_X6_requestNow, if_neg (by decide), p6_4 h6 hk, ro4 R hk]
  exact ⟨rfl, roo4 h6 hk, trivial⟩
theorem rprop5 (B : BZ r s f g ap day grace longest spent spentIn spendings urgentSp dropped lapsedLate z) (hk : k < s) : f_X0_requestProperty (Int32.ofNat r) f (Int32.ofNat s) g (Int32.ofNat k) 5 = f_X6_requestNow z (Int32.ofNat k) 5 ∧ o_X6_requestNow z (Int32.ofNat k) 5 := by
  have M := B.1
  have R := B.2.1
  have h6 := R.1
  rw [f_X0_requestProperty, if_neg (by decide), if_neg (by decide), if_neg (by decide), if_neg (by decide), if_neg (by decide), if_neg (by decide), f_X6_requestNow, if_neg (by decide), o_X6_requestNow, if_neg (by decide), p6_5 h6 hk, ro5 R hk]
  exact ⟨rfl, roo5 h6 hk, trivial⟩
theorem rprop6 (B : BZ r s f g ap day grace longest spent spentIn spendings urgentSp dropped lapsedLate z) (hk : k < s) : f_X0_requestProperty (Int32.ofNat r) f (Int32.ofNat s) g (Int32.ofNat k) 6 = f_X6_requestNow z (Int32.ofNat k) 6 ∧ o_X6_requestNow z (Int32.ofNat k) 6 := by
  have M := B.1
  have R := B.2.1
  have h6 := R.1
  rw [f_X0_requestProperty, if_pos (by decide), f_X6_requestNow, if_pos (by decide), o_X6_requestNow, if_pos (by decide)]
  obtain ⟨a1, a2⟩ := rapprovers M R hk
  exact ⟨a1, a2, trivial⟩
theorem rprop (B : BZ r s f g ap day grace longest spent spentIn spendings urgentSp dropped lapsedLate z) (hk : k < s) {c : Nat} (hc : c ≤ 6) : f_X0_requestProperty (Int32.ofNat r) f (Int32.ofNat s) g (Int32.ofNat k) (Int32.ofNat c) = f_X6_requestNow z (Int32.ofNat k) (Int32.ofNat c) ∧ o_X6_requestNow z (Int32.ofNat k) (Int32.ofNat c) := by
  have h : c = 0 ∨ c = 1 ∨ c = 2 ∨ c = 3 ∨ c = 4 ∨ c = 5 ∨ c = 6 := by omega
  rcases h with rfl | rfl | rfl | rfl | rfl | rfl | rfl
  · exact rprop0 B hk
  · exact rprop1 B hk
  · exact rprop2 B hk
  · exact rprop3 B hk
  · exact rprop4 B hk
  · exact rprop5 B hk
  · exact rprop6 B hk
theorem pprop0 (B : BZ r s f g ap day grace longest spent spentIn spendings urgentSp dropped lapsedLate z) (hk : k < 8) : f_X0_personNumber (Int32.ofNat r) f (Int32.ofNat s) g ap (Int32.ofNat k) 0 = f_X6_personNow z (Int32.ofNat k) 0 ∧ o_X6_personNow z (Int32.ofNat k) 0 := by
  have M := B.1
  have R := B.2.1
  rw [f_X0_personNumber, if_neg (by decide), if_pos (by decide), f_X6_personNow, if_neg (by decide), if_pos (by decide), o_X6_personNow, if_neg (by decide), if_pos (by decide)]
  obtain ⟨a1, a2⟩ := mheldBy M _
  exact ⟨a1, a2, trivial⟩
theorem pprop1 (B : BZ r s f g ap day grace longest spent spentIn spendings urgentSp dropped lapsedLate z) (hk : k < 8) : f_X0_personNumber (Int32.ofNat r) f (Int32.ofNat s) g ap (Int32.ofNat k) 1 = f_X6_personNow z (Int32.ofNat k) 1 ∧ o_X6_personNow z (Int32.ofNat k) 1 := by
  have M := B.1
  have R := B.2.1
  rw [f_X0_personNumber, if_neg (by decide), if_neg (by decide), if_pos (by decide), f_X6_personNow, if_neg (by decide), if_neg (by decide), if_pos (by decide), o_X6_personNow, if_neg (by decide), if_neg (by decide), if_pos (by decide)]
  obtain ⟨a1, a2⟩ := mspentBy M _
  exact ⟨a1, a2, trivial⟩
theorem pprop2 (B : BZ r s f g ap day grace longest spent spentIn spendings urgentSp dropped lapsedLate z) (hk : k < 8) : f_X0_personNumber (Int32.ofNat r) f (Int32.ofNat s) g ap (Int32.ofNat k) 2 = f_X6_personNow z (Int32.ofNat k) 2 ∧ o_X6_personNow z (Int32.ofNat k) 2 := by
  have M := B.1
  have R := B.2.1
  obtain ⟨e11, v11⟩ := cl_11 hk
  rw [f_X0_personNumber, if_neg (by decide), if_neg (by decide), if_neg (by decide), if_neg (pn_nn (by omega)), if_neg (le8c hk), pn_clamp (by omega), f_X6_personNow, if_neg (by decide), if_neg (by decide), if_neg (by decide), o_X6_personNow, if_neg (by decide), if_neg (by decide), if_neg (by decide), e11]
  exact ⟨(B.2.2.2.2 k hk).symm, v11, trivial⟩
theorem pprop3 (B : BZ r s f g ap day grace longest spent spentIn spendings urgentSp dropped lapsedLate z) (hk : k < 8) : f_X0_personNumber (Int32.ofNat r) f (Int32.ofNat s) g ap (Int32.ofNat k) 3 = f_X6_personNow z (Int32.ofNat k) 3 ∧ o_X6_personNow z (Int32.ofNat k) 3 := by
  have M := B.1
  have R := B.2.1
  rw [f_X0_personNumber, if_pos (by decide), f_X6_personNow, if_pos (by decide), o_X6_personNow, if_pos (by decide)]
  obtain ⟨a1, a2⟩ := rapprovableBy M R hk
  exact ⟨a1, a2, trivial⟩
theorem pprop (B : BZ r s f g ap day grace longest spent spentIn spendings urgentSp dropped lapsedLate z) (hk : k < 8) {c : Nat} (hc : c ≤ 3) : f_X0_personNumber (Int32.ofNat r) f (Int32.ofNat s) g ap (Int32.ofNat k) (Int32.ofNat c) = f_X6_personNow z (Int32.ofNat k) (Int32.ofNat c) ∧ o_X6_personNow z (Int32.ofNat k) (Int32.ofNat c) := by
  have h : c = 0 ∨ c = 1 ∨ c = 2 ∨ c = 3 := by omega
  rcases h with rfl | rfl | rfl | rfl
  · exact pprop0 B hk
  · exact pprop1 B hk
  · exact pprop2 B hk
  · exact pprop3 B hk
theorem cprop0 (B : BZ r s f g ap day grace longest spent spentIn spendings urgentSp dropped lapsedLate z) (kept : Int32) : f_X5_count_n (Int32.ofNat r) f (Int32.ofNat s) day spent spentIn spendings urgentSp dropped lapsedLate kept 0 = f_X6_counted kept z 0 ∧ o_X6_counted kept z 0 ∧ (if (0 : Int32) = 11 then kept else f_X0_number (Int32.ofNat r) f (Int32.ofNat s) day spent spentIn spendings urgentSp dropped lapsedLate 0) = f_X6_counted kept z 0 := by
  obtain ⟨M, R, D, ⟨z0, z1, z2, z5, z6, z7, z8, z9, z10⟩, A⟩ := B
  have e2 : f_X6_counted kept z 0 = z (Int32.toNatClampNeg 3) := by
    rw [f_X6_counted, if_neg (by decide), if_pos (by decide)]
  have e3 : o_X6_counted kept z 0 := by
    rw [o_X6_counted, if_neg (by decide), if_pos (by decide)]
    exact trivial
  have e1 : f_X0_number (Int32.ofNat r) f (Int32.ofNat s) day spent spentIn spendings urgentSp dropped lapsedLate 0 = f_X2_total (Int32.ofNat r) := by
    rw [f_X0_number, if_neg (by decide), if_pos (by decide)]
  have e4 : f_X2_total (Int32.ofNat r) = z (Int32.toNatClampNeg 3) := by rw [f_X2_total, mz3 M]
  rw [f_X5_count_n, if_neg (by decide : ¬ (0 : Int32) = 11), e2, e1]
  exact ⟨e4, e3, e4⟩
theorem cprop1 (B : BZ r s f g ap day grace longest spent spentIn spendings urgentSp dropped lapsedLate z) (kept : Int32) : f_X5_count_n (Int32.ofNat r) f (Int32.ofNat s) day spent spentIn spendings urgentSp dropped lapsedLate kept 1 = f_X6_counted kept z 1 ∧ o_X6_counted kept z 1 ∧ (if (1 : Int32) = 11 then kept else f_X0_number (Int32.ofNat r) f (Int32.ofNat s) day spent spentIn spendings urgentSp dropped lapsedLate 1) = f_X6_counted kept z 1 := by
  obtain ⟨M, R, D, ⟨z0, z1, z2, z5, z6, z7, z8, z9, z10⟩, A⟩ := B
  have e2 : f_X6_counted kept z 1 = f_X6_standing z := by
    rw [f_X6_counted, if_neg (by decide), if_neg (by decide), if_pos (by decide)]
  have e3 : o_X6_counted kept z 1 := by
    rw [o_X6_counted, if_neg (by decide), if_neg (by decide), if_pos (by decide)]
    exact ⟨(mstandingT M).2, trivial⟩
  have e1 : f_X0_number (Int32.ofNat r) f (Int32.ofNat s) day spent spentIn spendings urgentSp dropped lapsedLate 1 = f_X2_standingTotal (Int32.ofNat r) f := by
    rw [f_X0_number, if_neg (by decide), if_neg (by decide), if_pos (by decide)]
  have e4 : f_X2_standingTotal (Int32.ofNat r) f = f_X6_standing z := by rw [(mstandingT M).1]
  rw [f_X5_count_n, if_neg (by decide : ¬ (1 : Int32) = 11), e2, e1]
  exact ⟨e4, e3, e4⟩
theorem cprop2 (B : BZ r s f g ap day grace longest spent spentIn spendings urgentSp dropped lapsedLate z) (kept : Int32) : f_X5_count_n (Int32.ofNat r) f (Int32.ofNat s) day spent spentIn spendings urgentSp dropped lapsedLate kept 2 = f_X6_counted kept z 2 ∧ o_X6_counted kept z 2 ∧ (if (2 : Int32) = 11 then kept else f_X0_number (Int32.ofNat r) f (Int32.ofNat s) day spent spentIn spendings urgentSp dropped lapsedLate 2) = f_X6_counted kept z 2 := by
  obtain ⟨M, R, D, ⟨z0, z1, z2, z5, z6, z7, z8, z9, z10⟩, A⟩ := B
  have e2 : f_X6_counted kept z 2 = z (Int32.toNatClampNeg 4) := by
    rw [f_X6_counted, if_neg (by decide), if_neg (by decide), if_neg (by decide), if_pos (by decide)]
  have e3 : o_X6_counted kept z 2 := by
    rw [o_X6_counted, if_neg (by decide), if_neg (by decide), if_neg (by decide), if_pos (by decide)]
    exact trivial
  have e1 : f_X0_number (Int32.ofNat r) f (Int32.ofNat s) day spent spentIn spendings urgentSp dropped lapsedLate 2 = Int32.ofNat s := by
    rw [f_X0_number, if_neg (by decide), if_neg (by decide), if_neg (by decide), if_pos (by decide)]
  have e4 : Int32.ofNat s = z (Int32.toNatClampNeg 4) := by rw [rz4 R]
  rw [f_X5_count_n, if_neg (by decide : ¬ (2 : Int32) = 11), e2, e1]
  exact ⟨e4, e3, e4⟩
theorem cprop3 (B : BZ r s f g ap day grace longest spent spentIn spendings urgentSp dropped lapsedLate z) (kept : Int32) : f_X5_count_n (Int32.ofNat r) f (Int32.ofNat s) day spent spentIn spendings urgentSp dropped lapsedLate kept 3 = f_X6_counted kept z 3 ∧ o_X6_counted kept z 3 ∧ (if (3 : Int32) = 11 then kept else f_X0_number (Int32.ofNat r) f (Int32.ofNat s) day spent spentIn spendings urgentSp dropped lapsedLate 3) = f_X6_counted kept z 3 := by
  obtain ⟨M, R, D, ⟨z0, z1, z2, z5, z6, z7, z8, z9, z10⟩, A⟩ := B
  have e2 : f_X6_counted kept z 3 = z (Int32.toNatClampNeg 2) := by
    rw [f_X6_counted, if_neg (by decide), if_neg (by decide), if_neg (by decide), if_neg (by decide), if_pos (by decide)]
  have e3 : o_X6_counted kept z 3 := by
    rw [o_X6_counted, if_neg (by decide), if_neg (by decide), if_neg (by decide), if_neg (by decide), if_pos (by decide)]
    exact trivial
  have e1 : f_X0_number (Int32.ofNat r) f (Int32.ofNat s) day spent spentIn spendings urgentSp dropped lapsedLate 3 = day := by
    rw [f_X0_number, if_neg (by decide), if_neg (by decide), if_neg (by decide), if_neg (by decide), if_pos (by decide)]
  have e4 : day = z (Int32.toNatClampNeg 2) := by rw [cn_2, z2]
  rw [f_X5_count_n, if_neg (by decide : ¬ (3 : Int32) = 11), e2, e1]
  exact ⟨e4, e3, e4⟩
theorem cprop4 (B : BZ r s f g ap day grace longest spent spentIn spendings urgentSp dropped lapsedLate z) (kept : Int32) : f_X5_count_n (Int32.ofNat r) f (Int32.ofNat s) day spent spentIn spendings urgentSp dropped lapsedLate kept 4 = f_X6_counted kept z 4 ∧ o_X6_counted kept z 4 ∧ (if (4 : Int32) = 11 then kept else f_X0_number (Int32.ofNat r) f (Int32.ofNat s) day spent spentIn spendings urgentSp dropped lapsedLate 4) = f_X6_counted kept z 4 := by
  obtain ⟨M, R, D, ⟨z0, z1, z2, z5, z6, z7, z8, z9, z10⟩, A⟩ := B
  have e2 : f_X6_counted kept z 4 = (z (Int32.toNatClampNeg 2)) / 10 := by
    rw [f_X6_counted, if_neg (by decide), if_neg (by decide), if_neg (by decide), if_neg (by decide), if_neg (by decide), if_pos (by decide)]
  have e3 : o_X6_counted kept z 4 := by
    rw [o_X6_counted, if_neg (by decide), if_neg (by decide), if_neg (by decide), if_neg (by decide), if_neg (by decide), if_pos (by decide)]
    exact trivial
  have e1 : f_X0_number (Int32.ofNat r) f (Int32.ofNat s) day spent spentIn spendings urgentSp dropped lapsedLate 4 = day / 10 := by
    rw [f_X0_number, if_neg (by decide), if_neg (by decide), if_neg (by decide), if_neg (by decide), if_neg (by decide), if_pos (by decide)]
  have e4 : day / 10 = (z (Int32.toNatClampNeg 2)) / 10 := by rw [cn_2, z2]
  rw [f_X5_count_n, if_neg (by decide : ¬ (4 : Int32) = 11), e2, e1]
  exact ⟨e4, e3, e4⟩
theorem cprop5 (B : BZ r s f g ap day grace longest spent spentIn spendings urgentSp dropped lapsedLate z) (kept : Int32) : f_X5_count_n (Int32.ofNat r) f (Int32.ofNat s) day spent spentIn spendings urgentSp dropped lapsedLate kept 5 = f_X6_counted kept z 5 ∧ o_X6_counted kept z 5 ∧ (if (5 : Int32) = 11 then kept else f_X0_number (Int32.ofNat r) f (Int32.ofNat s) day spent spentIn spendings urgentSp dropped lapsedLate 5) = f_X6_counted kept z 5 := by
  obtain ⟨M, R, D, ⟨z0, z1, z2, z5, z6, z7, z8, z9, z10⟩, A⟩ := B
  have e2 : f_X6_counted kept z 5 = z (Int32.toNatClampNeg 5) := by
    rw [f_X6_counted, if_neg (by decide), if_neg (by decide), if_neg (by decide), if_neg (by decide), if_neg (by decide), if_neg (by decide), if_pos (by decide)]
  have e3 : o_X6_counted kept z 5 := by
    rw [o_X6_counted, if_neg (by decide), if_neg (by decide), if_neg (by decide), if_neg (by decide), if_neg (by decide), if_neg (by decide), if_pos (by decide)]
    exact ⟨pz_vp (i := 5) (by decide) (by decide), trivial⟩
  have e1 : f_X0_number (Int32.ofNat r) f (Int32.ofNat s) day spent spentIn spendings urgentSp dropped lapsedLate 5 = spent := by
    rw [f_X0_number, if_neg (by decide), if_neg (by decide), if_neg (by decide), if_neg (by decide), if_neg (by decide), if_neg (by decide), if_pos (by decide)]
  have e4 : spent = z (Int32.toNatClampNeg 5) := by rw [cn_5, z5]
  rw [f_X5_count_n, if_neg (by decide : ¬ (5 : Int32) = 11), e2, e1]
  exact ⟨e4, e3, e4⟩
theorem cprop6 (B : BZ r s f g ap day grace longest spent spentIn spendings urgentSp dropped lapsedLate z) (kept : Int32) : f_X5_count_n (Int32.ofNat r) f (Int32.ofNat s) day spent spentIn spendings urgentSp dropped lapsedLate kept 6 = f_X6_counted kept z 6 ∧ o_X6_counted kept z 6 ∧ (if (6 : Int32) = 11 then kept else f_X0_number (Int32.ofNat r) f (Int32.ofNat s) day spent spentIn spendings urgentSp dropped lapsedLate 6) = f_X6_counted kept z 6 := by
  obtain ⟨M, R, D, ⟨z0, z1, z2, z5, z6, z7, z8, z9, z10⟩, A⟩ := B
  have e2 : f_X6_counted kept z 6 = z (Int32.toNatClampNeg 6) := by
    rw [f_X6_counted, if_neg (by decide), if_neg (by decide), if_neg (by decide), if_neg (by decide), if_neg (by decide), if_neg (by decide), if_neg (by decide), if_pos (by decide)]
  have e3 : o_X6_counted kept z 6 := by
    rw [o_X6_counted, if_neg (by decide), if_neg (by decide), if_neg (by decide), if_neg (by decide), if_neg (by decide), if_neg (by decide), if_neg (by decide), if_pos (by decide)]
    exact ⟨pz_vp (i := 6) (by decide) (by decide), trivial⟩
  have e1 : f_X0_number (Int32.ofNat r) f (Int32.ofNat s) day spent spentIn spendings urgentSp dropped lapsedLate 6 = spentIn := by
    rw [f_X0_number, if_neg (by decide), if_neg (by decide), if_neg (by decide), if_neg (by decide), if_neg (by decide), if_neg (by decide), if_neg (by decide), if_pos (by decide)]
  have e4 : spentIn = z (Int32.toNatClampNeg 6) := by rw [cn_6, z6]
  rw [f_X5_count_n, if_neg (by decide : ¬ (6 : Int32) = 11), e2, e1]
  exact ⟨e4, e3, e4⟩
theorem cprop7 (B : BZ r s f g ap day grace longest spent spentIn spendings urgentSp dropped lapsedLate z) (kept : Int32) : f_X5_count_n (Int32.ofNat r) f (Int32.ofNat s) day spent spentIn spendings urgentSp dropped lapsedLate kept 7 = f_X6_counted kept z 7 ∧ o_X6_counted kept z 7 ∧ (if (7 : Int32) = 11 then kept else f_X0_number (Int32.ofNat r) f (Int32.ofNat s) day spent spentIn spendings urgentSp dropped lapsedLate 7) = f_X6_counted kept z 7 := by
  obtain ⟨M, R, D, ⟨z0, z1, z2, z5, z6, z7, z8, z9, z10⟩, A⟩ := B
  have e2 : f_X6_counted kept z 7 = z (Int32.toNatClampNeg 7) := by
    rw [f_X6_counted, if_neg (by decide), if_neg (by decide), if_neg (by decide), if_neg (by decide), if_neg (by decide), if_neg (by decide), if_neg (by decide), if_neg (by decide), if_pos (by decide)]
  have e3 : o_X6_counted kept z 7 := by
    rw [o_X6_counted, if_neg (by decide), if_neg (by decide), if_neg (by decide), if_neg (by decide), if_neg (by decide), if_neg (by decide), if_neg (by decide), if_neg (by decide), if_pos (by decide)]
    exact ⟨pz_vp (i := 7) (by decide) (by decide), trivial⟩
  have e1 : f_X0_number (Int32.ofNat r) f (Int32.ofNat s) day spent spentIn spendings urgentSp dropped lapsedLate 7 = spendings := by
    rw [f_X0_number, if_neg (by decide), if_neg (by decide), if_neg (by decide), if_neg (by decide), if_neg (by decide), if_neg (by decide), if_neg (by decide), if_neg (by decide), if_pos (by decide)]
  have e4 : spendings = z (Int32.toNatClampNeg 7) := by rw [cn_7, z7]
  rw [f_X5_count_n, if_neg (by decide : ¬ (7 : Int32) = 11), e2, e1]
  exact ⟨e4, e3, e4⟩
theorem cprop8 (B : BZ r s f g ap day grace longest spent spentIn spendings urgentSp dropped lapsedLate z) (kept : Int32) : f_X5_count_n (Int32.ofNat r) f (Int32.ofNat s) day spent spentIn spendings urgentSp dropped lapsedLate kept 8 = f_X6_counted kept z 8 ∧ o_X6_counted kept z 8 ∧ (if (8 : Int32) = 11 then kept else f_X0_number (Int32.ofNat r) f (Int32.ofNat s) day spent spentIn spendings urgentSp dropped lapsedLate 8) = f_X6_counted kept z 8 := by
  obtain ⟨M, R, D, ⟨z0, z1, z2, z5, z6, z7, z8, z9, z10⟩, A⟩ := B
  have e2 : f_X6_counted kept z 8 = z (Int32.toNatClampNeg 8) := by
    rw [f_X6_counted, if_neg (by decide), if_neg (by decide), if_neg (by decide), if_neg (by decide), if_neg (by decide), if_neg (by decide), if_neg (by decide), if_neg (by decide), if_neg (by decide), if_pos (by decide)]
  have e3 : o_X6_counted kept z 8 := by
    rw [o_X6_counted, if_neg (by decide), if_neg (by decide), if_neg (by decide), if_neg (by decide), if_neg (by decide), if_neg (by decide), if_neg (by decide), if_neg (by decide), if_neg (by decide), if_pos (by decide)]
    exact ⟨pz_vp (i := 8) (by decide) (by decide), trivial⟩
  have e1 : f_X0_number (Int32.ofNat r) f (Int32.ofNat s) day spent spentIn spendings urgentSp dropped lapsedLate 8 = urgentSp := by
    rw [f_X0_number, if_neg (by decide), if_neg (by decide), if_neg (by decide), if_neg (by decide), if_neg (by decide), if_neg (by decide), if_neg (by decide), if_neg (by decide), if_neg (by decide), if_pos (by decide)]
  have e4 : urgentSp = z (Int32.toNatClampNeg 8) := by rw [cn_8, z8]
  rw [f_X5_count_n, if_neg (by decide : ¬ (8 : Int32) = 11), e2, e1]
  exact ⟨e4, e3, e4⟩
theorem cprop9 (B : BZ r s f g ap day grace longest spent spentIn spendings urgentSp dropped lapsedLate z) (kept : Int32) : f_X5_count_n (Int32.ofNat r) f (Int32.ofNat s) day spent spentIn spendings urgentSp dropped lapsedLate kept 9 = f_X6_counted kept z 9 ∧ o_X6_counted kept z 9 ∧ (if (9 : Int32) = 11 then kept else f_X0_number (Int32.ofNat r) f (Int32.ofNat s) day spent spentIn spendings urgentSp dropped lapsedLate 9) = f_X6_counted kept z 9 := by
  obtain ⟨M, R, D, ⟨z0, z1, z2, z5, z6, z7, z8, z9, z10⟩, A⟩ := B
  have e2 : f_X6_counted kept z 9 = z (Int32.toNatClampNeg 9) := by
    rw [f_X6_counted, if_neg (by decide), if_neg (by decide), if_neg (by decide), if_neg (by decide), if_neg (by decide), if_neg (by decide), if_neg (by decide), if_neg (by decide), if_neg (by decide), if_neg (by decide), if_pos (by decide)]
  have e3 : o_X6_counted kept z 9 := by
    rw [o_X6_counted, if_neg (by decide), if_neg (by decide), if_neg (by decide), if_neg (by decide), if_neg (by decide), if_neg (by decide), if_neg (by decide), if_neg (by decide), if_neg (by decide), if_neg (by decide), if_pos (by decide)]
    exact ⟨pz_vp (i := 9) (by decide) (by decide), trivial⟩
  have e1 : f_X0_number (Int32.ofNat r) f (Int32.ofNat s) day spent spentIn spendings urgentSp dropped lapsedLate 9 = dropped := by
    rw [f_X0_number, if_neg (by decide), if_neg (by decide), if_neg (by decide), if_neg (by decide), if_neg (by decide), if_neg (by decide), if_neg (by decide), if_neg (by decide), if_neg (by decide), if_neg (by decide)]
  have e4 : dropped = z (Int32.toNatClampNeg 9) := by rw [cn_9, z9]
  rw [f_X5_count_n, if_neg (by decide : ¬ (9 : Int32) = 11), e2, e1]
  exact ⟨e4, e3, e4⟩
theorem cprop10 (B : BZ r s f g ap day grace longest spent spentIn spendings urgentSp dropped lapsedLate z) (kept : Int32) : f_X5_count_n (Int32.ofNat r) f (Int32.ofNat s) day spent spentIn spendings urgentSp dropped lapsedLate kept 10 = f_X6_counted kept z 10 ∧ o_X6_counted kept z 10 ∧ (if (10 : Int32) = 11 then kept else f_X0_number (Int32.ofNat r) f (Int32.ofNat s) day spent spentIn spendings urgentSp dropped lapsedLate 10) = f_X6_counted kept z 10 := by
  obtain ⟨M, R, D, ⟨z0, z1, z2, z5, z6, z7, z8, z9, z10⟩, A⟩ := B
  have e2 : f_X6_counted kept z 10 = z (Int32.toNatClampNeg 10) := by
    rw [f_X6_counted, if_neg (by decide), if_neg (by decide), if_neg (by decide), if_neg (by decide), if_neg (by decide), if_neg (by decide), if_neg (by decide), if_neg (by decide), if_neg (by decide), if_neg (by decide), if_neg (by decide), if_pos (by decide)]
  have e3 : o_X6_counted kept z 10 := by
    rw [o_X6_counted, if_neg (by decide), if_neg (by decide), if_neg (by decide), if_neg (by decide), if_neg (by decide), if_neg (by decide), if_neg (by decide), if_neg (by decide), if_neg (by decide), if_neg (by decide), if_neg (by decide), if_pos (by decide)]
    exact ⟨pz_vp (i := 10) (by decide) (by decide), trivial⟩
  have e1 : f_X0_number (Int32.ofNat r) f (Int32.ofNat s) day spent spentIn spendings urgentSp dropped lapsedLate 10 = lapsedLate := by
    rw [f_X0_number, if_pos (by decide)]
  have e4 : lapsedLate = z (Int32.toNatClampNeg 10) := by rw [cn_10, z10]
  rw [f_X5_count_n, if_neg (by decide : ¬ (10 : Int32) = 11), e2, e1]
  exact ⟨e4, e3, e4⟩
theorem cprop11 (B : BZ r s f g ap day grace longest spent spentIn spendings urgentSp dropped lapsedLate z) (kept : Int32) : f_X5_count_n (Int32.ofNat r) f (Int32.ofNat s) day spent spentIn spendings urgentSp dropped lapsedLate kept 11 = f_X6_counted kept z 11 ∧ o_X6_counted kept z 11 ∧ (if (11 : Int32) = 11 then kept else f_X0_number (Int32.ofNat r) f (Int32.ofNat s) day spent spentIn spendings urgentSp dropped lapsedLate 11) = f_X6_counted kept z 11 := by
  obtain ⟨M, R, D, ⟨z0, z1, z2, z5, z6, z7, z8, z9, z10⟩, A⟩ := B
  have e2 : f_X6_counted kept z 11 = kept := by
    rw [f_X6_counted, if_neg (by decide), if_neg (by decide), if_neg (by decide), if_neg (by decide), if_neg (by decide), if_neg (by decide), if_neg (by decide), if_neg (by decide), if_neg (by decide), if_neg (by decide), if_neg (by decide), if_neg (by decide)]
  have e3 : o_X6_counted kept z 11 := by
    rw [o_X6_counted, if_neg (by decide), if_neg (by decide), if_neg (by decide), if_neg (by decide), if_neg (by decide), if_neg (by decide), if_neg (by decide), if_neg (by decide), if_neg (by decide), if_neg (by decide), if_neg (by decide), if_neg (by decide)]
    exact trivial
  rw [f_X5_count_n, if_pos rfl, e2]
  exact ⟨rfl, e3, rfl⟩
theorem cprop (B : BZ r s f g ap day grace longest spent spentIn spendings urgentSp dropped lapsedLate z) (kept : Int32) {c : Nat} (hc : c ≤ 11) : f_X5_count_n (Int32.ofNat r) f (Int32.ofNat s) day spent spentIn spendings urgentSp dropped lapsedLate kept (Int32.ofNat c) = f_X6_counted kept z (Int32.ofNat c) ∧ o_X6_counted kept z (Int32.ofNat c) ∧ (if (Int32.ofNat c) = 11 then kept else f_X0_number (Int32.ofNat r) f (Int32.ofNat s) day spent spentIn spendings urgentSp dropped lapsedLate (Int32.ofNat c)) = f_X6_counted kept z (Int32.ofNat c) := by
  have h : c = 0 ∨ c = 1 ∨ c = 2 ∨ c = 3 ∨ c = 4 ∨ c = 5 ∨ c = 6 ∨ c = 7 ∨ c = 8 ∨ c = 9 ∨ c = 10 ∨ c = 11 := by omega
  rcases h with rfl | rfl | rfl | rfl | rfl | rfl | rfl | rfl | rfl | rfl | rfl | rfl
  · exact cprop0 B kept
  · exact cprop1 B kept
  · exact cprop2 B kept
  · exact cprop3 B kept
  · exact cprop4 B kept
  · exact cprop5 B kept
  · exact cprop6 B kept
  · exact cprop7 B kept
  · exact cprop8 B kept
  · exact cprop9 B kept
  · exact cprop10 B kept
  · exact cprop11 B kept
/-! a double's bits, both ways -/
theorem fp_self {c e : Nat} (h1 : 4503599627370496 ≤ c) (h2 : c < 9007199254740992) (e1 : 900 ≤ e) (e2 : e ≤ 1100) : FP.dcmp (fpU c e) (fpU c e) = some .eq := by
  have hd : FP.dcmp (fpU c e) (fpU c e) = FP.Core.order (.fin false c ((e : Int) - 1075)) (.fin false c ((e : Int) - 1075)) := by
    show FP.Core.cmp FP.Core.b64 (fpU c e).toNat (fpU c e).toNat = _
    rw [FP.Core.cmp, fp_decU h1 h2 (by omega) (by omega)]
  rw [hd, FP.Core.order]
  refine congrArg some ?_
  generalize FP.Core.signed false (FP.Core.inUnits c ((e : Int) - 1075) (min ((e : Int) - 1075) ((e : Int) - 1075))) = v
  generalize hcm : compare v v = x
  cases x with
  | lt => have := Int.compare_eq_lt.mp hcm; omega
  | eq => rfl
  | gt => have := Int.compare_eq_gt.mp hcm; omega
theorem mbits {u : UInt64} (h : u = 0 ∨ ∃ c e : Nat, u = fpU c e ∧ 4503599627370496 ≤ c ∧ c < 9007199254740992 ∧ 1000 ≤ e ∧ e ≤ 1050) : f_X5_bitsOf u = f_Jxe99ae_doubleToLongBits_ccdee u ∧ o_X5_bitsOf u := by
  rcases h with rfl | ⟨c, e, rfl, h1, h2, h3, h4⟩
  · have hg : ¬ 0 < (Op.cmpValue (FP.dcmp (0 : UInt64) FP.dconst0) .g) := by decide +kernel
    have hn : f_Jxe99ae_isNaN_b9ae7 (0 : UInt64) = false := by decide +kernel
    rw [f_X5_bitsOf, o_X5_bitsOf, if_neg hg, if_neg hg, f_Jxe99ae_doubleToLongBits_ccdee, hn, if_pos (vb_f rfl)]
    exact ⟨by decide +kernel, trivial⟩
  · obtain ⟨b1, b2⟩ := fp_bits h1 h2 h3 h4
    have hn : f_Jxe99ae_isNaN_b9ae7 (fpU c e) = false := by
      rw [f_Jxe99ae_isNaN_b9ae7, fp_self h1 h2 (by omega) (by omega), if_pos (by decide)]
    rw [b1, f_Jxe99ae_doubleToLongBits_ccdee, hn, if_pos (vb_f rfl)]
    exact ⟨rfl, b2⟩
end RDS
