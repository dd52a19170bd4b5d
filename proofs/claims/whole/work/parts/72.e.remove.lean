/-! A REQUEST GOES; MANDATES LAPSE -/
section RMS
variable {r s k : Nat} {f g z : Nat → Int32}
theorem upd_s (f : Nat → Int32) (k : Nat) (v : Int32) : upd f k v k = v := by
  unfold upd
  rw [if_pos rfl]
theorem upd_n (f : Nat → Int32) {k j : Nat} (v : Int32) (h : j ≠ k) : upd f k v j = f j := by
  unfold upd
  rw [if_neg h]
theorem pn_sub1 {a : Nat} (h : 1 ≤ a) : Int32.ofNat a - 1 = Int32.ofNat (a - 1) := (Int32.ofNat_sub a 1 h).symm
theorem pn_dec (x : Int32) : x + (-1) = x - 1 := (Int32.sub_eq_add_neg x 1).symm
theorem MB.toz {z' : Nat → Int32} (M : MB r f z) (h3 : z' 3 = z 3) (h : ∀ i : Nat, 19 ≤ i → i < 127 → z' i = z i) : MB r f z' := by
  have h12 := M.1
  refine ⟨M.1, ⟨h3.trans M.2.1.1, fun k hk => ?_⟩, M.2.2⟩
  rw [h _ (by omega) (by omega), h _ (by omega) (by omega), h _ (by omega) (by omega), h _ (by omega) (by omega), h _ (by omega) (by omega), h _ (by omega) (by omega), h _ (by omega) (by omega), h _ (by omega) (by omega), h _ (by omega) (by omega)]
  exact M.2.1.2 k hk
theorem RQ.toz {z' : Nat → Int32} (R : RQ r s g z) (h4 : z' 4 = z 4) (h : ∀ i : Nat, 127 ≤ i → i < 163 → z' i = z i) : RQ r s g z' := by
  have h6 := R.1
  refine ⟨R.1, ⟨h4.trans R.2.1.1, fun k hk c hc => ?_⟩, R.2.2⟩
  rw [h _ (by omega) (by omega)]
  exact R.2.1.2 k hk c hc
theorem le6c {c : Nat} (h : c < 6) : ¬ (6 : Int32) ≤ Int32.ofNat c := by
  rw [show (6 : Int32) = Int32.ofNat 6 from rfl, pn_le (by omega) (by omega)]
  omega
theorem rem_in (hs : s ≤ 6) {nx : Nat} (h1 : 1 ≤ nx) (h2 : nx < s) (kj : Int32 → (Nat → Int32) → Int32 × (Nat → Int32)) : ∀ (n c : Nat) (g : Nat → Int32), c ≤ 6 → 6 - c < n → f_X3_removeRow_j27 6 (Int32.ofNat s) 36 (Int32.ofNat nx) kj n (Int32.ofNat c) g = kj (Int32.ofNat (nx + 1)) (fun i => if 6 * (nx - 1) + c ≤ i ∧ i < 6 * nx then g (i + 6) else g i) := by
  intro n
  induction n with
  | zero => intro c g hc hn; omega
  | succ n ih =>
    intro c g hc hn
    rw [f_X3_removeRow_j27]
    by_cases h : c = 6
    · subst h
      rw [if_pos (by decide), pn_succ]
      congr 1
      funext i
      rw [if_neg (by omega)]
    · rw [if_neg (le6c (by omega)), f_X3_removeRow_c49, pn_succ, pn_sub1 h1, pp_6 hs (by omega) (by omega), pg_6 hs h2 (by omega), ih (c + 1) _ (by omega) (by omega)]
      congr 1
      funext i
      by_cases hi : i = 6 * (nx - 1) + c
      · rw [if_neg (by omega), if_pos (by omega), hi, upd_s]
        congr 1
        omega
      · by_cases hh : 6 * (nx - 1) + (c + 1) ≤ i ∧ i < 6 * nx
        · rw [if_pos hh, if_pos (by omega), upd_n _ _ (by omega)]
        · rw [if_neg hh, if_neg (by omega), upd_n _ _ hi]
theorem rem_out (hs : s ≤ 6) : ∀ (n nx : Nat) (g : Nat → Int32), 1 ≤ nx → nx ≤ s → s - nx < n → f_X3_removeRow_j17 6 (Int32.ofNat s) 36 n (Int32.ofNat nx) g = (Int32.ofNat (s - 1), fun i => if 6 * (nx - 1) ≤ i ∧ i < 6 * (s - 1) then g (i + 6) else g i) := by
  have h12 : s ≤ 12 := by omega
  intro n
  induction n with
  | zero => intro nx g h1 h2 h3; omega
  | succ n ih =>
    intro nx g h1 h2 h3
    rw [f_X3_removeRow_j17]
    by_cases h : nx = s
    · subst h
      rw [if_pos (lez h12 (Nat.le_refl _) (by omega)), pn_sub1 h1]
      congr 1
      funext i
      rw [if_neg (by omega)]
    · have h7 : (((6 : Int32)).toInt - ((0 : Int32)).toInt).toNat + 1 = 7 := rfl
      have hin := rem_in hs h1 (by omega) (f_X3_removeRow_j17 6 (Int32.ofNat s) 36 n) 7 0 g (by omega) (by omega)
      rw [if_neg (ltz h12 (by omega)), h7]
      refine hin.trans ?_
      rw [ih (nx + 1) _ (by omega) (by omega) (by omega)]
      congr 1
      funext i
      by_cases q1 : 6 * (nx + 1 - 1) ≤ i ∧ i < 6 * (s - 1)
      · rw [if_pos q1, if_neg (by omega), if_pos (by omega)]
      · rw [if_neg q1]
        by_cases q2 : 6 * (nx - 1) + 0 ≤ i ∧ i < 6 * nx
        · rw [if_pos q2, if_pos (by omega)]
        · rw [if_neg q2, if_neg (by omega)]
def rmr (p s : Nat) (g : Nat → Int32) : Nat → Int32 := fun i => if 6 * p ≤ i ∧ i < 6 * (s - 1) then g (i + 6) else g i
theorem rem_c (hs : s ≤ 6) {p : Nat} (hp : p < s) : f_X3_removeRow 6 (Int32.ofNat s) 36 g (Int32.ofNat p) = (Int32.ofNat (s - 1), rmr p s g) := by
  rw [f_X3_removeRow, if_neg (pn_nn (by omega)), if_pos ((pn_lt (by omega) (by omega)).mpr hp), pn_succ, toI2 (by omega) (by omega), rem_out hs _ _ _ (by omega) (by omega) (by omega)]
  rfl
def rmz (p s : Nat) (z : Nat → Int32) : Nat → Int32 := fun i => if i = 4 then Int32.ofNat (s - 1) else if 127 + 6 * p ≤ i ∧ i < 127 + 6 * (s - 1) then z (i + 6) else z i
theorem rem_zl {t : Nat} (ht : t ≤ 5) : ∀ (n x : Nat) (z : Nat → Int32), z 4 = Int32.ofNat t → 127 ≤ x → x ≤ 127 + 6 * t → 127 + 6 * t - x < n → f_X6_removeRequest_j18 n (Int32.ofNat x) z = (fun i => if x ≤ i ∧ i < 127 + 6 * t then z (i + 6) else z i) ∧ o_X6_removeRequest_j18 n (Int32.ofNat x) z := by
  intro n
  induction n with
  | zero => intro x z h1 h2 h3; omega
  | succ n ih =>
    intro x z h4 h1 h2 h3
    have e : (127 : Int32) + (6 * Int32.ofNat t) = Int32.ofNat (127 + 6 * t) := by
      rw [show (6 : Int32) = Int32.ofNat 6 from rfl, show (127 : Int32) = Int32.ofNat 127 from rfl, pn_mul, pn_add]
    rw [f_X6_removeRequest_j18, o_X6_removeRequest_j18, cn_4, h4, e]
    by_cases h : x = 127 + 6 * t
    · subst h
      rw [if_pos (by rw [pn_le (by omega) (by omega)]; omega), if_pos (by rw [pn_le (by omega) (by omega)]; omega)]
      refine ⟨?_, trivial⟩
      funext i
      rw [if_neg (by omega)]
    · have hle : ¬ Int32.ofNat (127 + 6 * t) ≤ Int32.ofNat x := by rw [pn_le (by omega) (by omega)]; omega
      have e6 : Int32.ofNat x + 6 = Int32.ofNat (x + 6) := pn_add x 6
      rw [if_neg hle, if_neg hle, e6, pn_succ, pn_clamp (by omega), pn_clamp (by omega)]
      obtain ⟨a1, a2⟩ := ih (x + 1) (upd z x (z (x + 6))) (by rw [upd_n _ _ (by omega)]; exact h4) (by omega) (by omega) (by omega)
      refine ⟨?_, pz_vp (by omega) (by omega), pz_vp (by omega) (by omega), a2⟩
      rw [a1]
      funext i
      by_cases hi : i = x
      · rw [if_neg (by omega), if_pos (by omega), hi, upd_s]
      · by_cases hh : x + 1 ≤ i ∧ i < 127 + 6 * t
        · rw [if_pos hh, if_pos (by omega), upd_n _ _ (by omega)]
        · rw [if_neg hh, if_neg (by omega), upd_n _ _ hi]
theorem rem_z (R : RQ r s g z) {p : Nat} (hp : p < s) : f_X6_removeRequest z (Int32.ofNat p) = rmz p s z ∧ o_X6_removeRequest z (Int32.ofNat p) := by
  have h6 := R.1
  have e : (127 : Int32) + (6 * Int32.ofNat p) = Int32.ofNat (127 + 6 * p) := by
    rw [show (6 : Int32) = Int32.ofNat 6 from rfl, show (127 : Int32) = Int32.ofNat 127 from rfl, pn_mul, pn_add]
  have h4 := rz4 R
  rw [cn_4] at h4
  rw [f_X6_removeRequest, o_X6_removeRequest, cn_4, h4, pn_sub1 (by omega), e]
  obtain ⟨a1, a2⟩ := rem_zl (t := s - 1) (by omega) 1000 (127 + 6 * p) (upd z 4 (Int32.ofNat (s - 1))) (upd_s _ _ _) (by omega) (by omega) (by omega)
  refine ⟨?_, a2⟩
  rw [a1]
  funext i
  unfold rmz
  by_cases h : i = 4
  · rw [if_pos h, if_neg (by omega), h, upd_s]
  · rw [if_neg h]
    by_cases hh : 127 + 6 * p ≤ i ∧ i < 127 + 6 * (s - 1)
    · rw [if_pos hh, if_pos hh, upd_n _ _ (by omega)]
    · rw [if_neg hh, if_neg hh, upd_n _ _ h]
theorem rmr_lt {p k c : Nat} (h : k < p) (hc : c < 6) : rmr p s g (6 * k + c) = g (6 * k + c) := by
  unfold rmr
  rw [if_neg (by omega)]
theorem rmr_ge {p k c : Nat} (h : p ≤ k) (hk : k < s - 1) (hc : c < 6) : rmr p s g (6 * k + c) = g (6 * (k + 1) + c) := by
  unfold rmr
  rw [if_pos (by omega)]
  congr 1
  omega
theorem RQ.rem (R : RQ r s g z) {p : Nat} (hp : p < s) : RQ r (s - 1) (rmr p s g) (rmz p s z) := by
  have h6 := R.1
  refine ⟨by omega, ⟨?_, fun k hk c hc => ?_⟩, fun k hk => ?_⟩
  · unfold rmz
    rw [if_pos rfl]
  · have q := R.2.1.2
    unfold rmz rmr
    rw [if_neg (by omega)]
    by_cases h : 6 * p ≤ 6 * k + c ∧ 6 * k + c < 6 * (s - 1)
    · rw [if_pos (by omega), if_pos h]
      have := q (k + 1) (by omega) c hc
      rw [show 127 + 6 * k + c + 6 = 127 + 6 * (k + 1) + c by omega, show 6 * k + c + 6 = 6 * (k + 1) + c by omega]
      exact this
    · rw [if_neg (by omega), if_neg h]
      exact q k (by omega) c hc
  · by_cases h : k < p
    · have e0 := rmr_lt (g := g) (s := s) (c := 0) h (by omega)
      have e1 := rmr_lt (g := g) (s := s) (c := 1) h (by omega)
      have e3 := rmr_lt (g := g) (s := s) (c := 3) h (by omega)
      have e5 := rmr_lt (g := g) (s := s) (c := 5) h (by omega)
      rw [Nat.add_zero] at e0
      rw [e0, e1, e3, e5]
      exact R.2.2 k (by omega)
    · have e0 := rmr_ge (g := g) (s := s) (c := 0) (by omega : p ≤ k) hk (by omega)
      have e1 := rmr_ge (g := g) (s := s) (c := 1) (by omega : p ≤ k) hk (by omega)
      have e3 := rmr_ge (g := g) (s := s) (c := 3) (by omega : p ≤ k) hk (by omega)
      have e5 := rmr_ge (g := g) (s := s) (c := 5) (by omega : p ≤ k) hk (by omega)
      rw [Nat.add_zero, Nat.add_zero] at e0
      rw [e0, e1, e3, e5]
      exact R.2.2 (k + 1) (by omega)
theorem rmz_out {p i : Nat} (h4 : i ≠ 4) (h : i < 127) : rmz p s z i = z i := by
  unfold rmz
  rw [if_neg h4, if_neg (by omega)]
/-! mandates lapse -/
theorem d_nm {d : Nat} (h : d ≤ 5000) : ¬ Int32.ofNat d = -1 := pn_nm (by omega)
theorem tb_lapse (T : tb_ r f z) {i d : Nat} (h12 : r ≤ 12) (hi : i < r) (hd : d ≤ 5000) : tb_ r (upd f (8 * i + 5) (Int32.ofNat d)) (upd (upd z (19 + 9 * i + 5) 0) (19 + 9 * i + 8) (Int32.ofNat d)) := by
  refine ⟨by rw [upd_n _ _ (by omega), upd_n _ _ (by omega)]; exact T.1, fun k hk => ?_⟩
  obtain ⟨c0, c1, c2, c3, c4, c5, c6, c7, c8⟩ := T.2 k hk
  by_cases h : k = i
  · subst h
    rw [upd_n _ _ (by omega), upd_n _ _ (by omega), upd_n f _ (by omega), upd_n _ _ (by omega), upd_n _ _ (by omega), upd_n f _ (by omega), upd_n _ _ (by omega), upd_n _ _ (by omega), upd_n f _ (by omega), upd_n _ _ (by omega), upd_n _ _ (by omega), upd_n f _ (by omega), upd_n _ _ (by omega), upd_n _ _ (by omega), upd_n f _ (by omega), upd_n _ _ (by omega), upd_s, upd_s, upd_n _ _ (by omega), upd_n _ _ (by omega), upd_n f _ (by omega), upd_n _ _ (by omega), upd_n _ _ (by omega), upd_n f _ (by omega), upd_s]
    exact ⟨c0, c1, c2, c3, c4, by rw [decide_eq_false (d_nm hd)]; rfl, c6, c7, rfl⟩
  · rw [upd_n _ _ (by omega), upd_n _ _ (by omega), upd_n f _ (by omega), upd_n _ _ (by omega), upd_n _ _ (by omega), upd_n f _ (by omega), upd_n _ _ (by omega), upd_n _ _ (by omega), upd_n f _ (by omega), upd_n _ _ (by omega), upd_n _ _ (by omega), upd_n f _ (by omega), upd_n _ _ (by omega), upd_n _ _ (by omega), upd_n f _ (by omega), upd_n _ _ (by omega), upd_n _ _ (by omega), upd_n f _ (by omega), upd_n _ _ (by omega), upd_n _ _ (by omega), upd_n f _ (by omega), upd_n _ _ (by omega), upd_n _ _ (by omega), upd_n f _ (by omega), upd_n _ _ (by omega), upd_n _ _ (by omega)]
    exact ⟨c0, c1, c2, c3, c4, c5, c6, c7, c8⟩
theorem lap_all {z0 : Nat → Int32} {p d : Nat} (h12 : r ≤ 12) (hd : d ≤ 5000) (m : Int32) (hm : f_X6_standingUnder z0 (Int32.ofNat p) = m) : ∀ (n1 n2 i : Nat) (f z : Nat → Int32), i ≤ r → r - i < n1 → r - i < n2 → tb_ r f z → z 2 = Int32.ofNat d → ∃ f' z' : Nat → Int32, f_X2_lapseAll_j2 (Int32.ofNat r) m (Int32.ofNat d) n1 (Int32.ofNat i) f = f' ∧ f_X6_lapse_j8 z0 (Int32.ofNat p) n2 (Int32.ofNat i) z = f_X6_lapse_j61 z0 (Int32.ofNat p) (((((z' 4) - 1)).toInt + 1).toNat + 1) ((z' 4) - 1) z' ∧ (o_X6_lapse_j61 z0 (Int32.ofNat p) (((((z' 4) - 1)).toInt + 1).toNat + 1) ((z' 4) - 1) z' → o_X6_lapse_j8 z0 (Int32.ofNat p) n2 (Int32.ofNat i) z) ∧ tb_ r f' z' ∧ (∀ k : Nat, k < r → ∀ c : Nat, c < 8 → f' (8 * k + c) = if c = 5 ∧ i ≤ k ∧ bt m k = true then Int32.ofNat d else f (8 * k + c)) ∧ (∀ q : Nat, q < 19 ∨ 127 ≤ q → z' q = z q) := by
  intro n1
  induction n1 with
  | zero => intro n2 i f z h1 h2; omega
  | succ n1 ih =>
    intro n2 i f z h1 h2 h3 T hz2
    cases n2 with
    | zero => omega
    | succ n2 =>
      rw [f_X2_lapseAll_j2, f_X6_lapse_j8, o_X6_lapse_j8, f_X2_total, cn_3, cn_4, T.1, hm]
      by_cases hi : i = r
      · subst hi
        rw [if_pos (lez h12 (Nat.le_refl _) (by omega)), if_pos (lez h12 (Nat.le_refl _) (by omega)), if_pos (lez h12 (Nat.le_refl _) (by omega))]
        refine ⟨f, z, rfl, rfl, id, T, fun k hk c hc => ?_, fun q _ => rfl⟩
        rw [if_neg (by omega)]
      · have hir : i < r := by omega
        rw [if_neg (ltz h12 hir), if_neg (ltz h12 hir), if_neg (ltz h12 hir), bt_isIn (by omega), bt_has (by omega), f_X2_lapseAll_j28, f_X2_lapseAll_c28, f_X6_lapse_j46, o_X6_lapse_j46, f_X6_lapse_c33, o_X6_lapse_c33, f_X6_lapse_c46, o_X6_lapse_c46, cn_2, pn_succ]
        have hcomb : ∀ (f1 f' : Nat → Int32), (∀ k : Nat, k < r → ∀ c : Nat, c < 8 → f1 (8 * k + c) = if c = 5 ∧ k = i ∧ bt m k = true then Int32.ofNat d else f (8 * k + c)) → (∀ k : Nat, k < r → ∀ c : Nat, c < 8 → f' (8 * k + c) = if c = 5 ∧ i + 1 ≤ k ∧ bt m k = true then Int32.ofNat d else f1 (8 * k + c)) → (∀ k : Nat, k < r → ∀ c : Nat, c < 8 → f' (8 * k + c) = if c = 5 ∧ i ≤ k ∧ bt m k = true then Int32.ofNat d else f (8 * k + c)) := fun f1 f' q1 q2 k hk c hc => by
          rw [q2 k hk c hc, q1 k hk c hc]
          by_cases hb : bt m k = true
          · by_cases h5 : c = 5
            · by_cases hk1 : i + 1 ≤ k
              · rw [if_pos ⟨h5, hk1, hb⟩, if_pos ⟨h5, by omega, hb⟩]
              · rw [if_neg (fun q => hk1 q.2.1)]
                by_cases hk2 : k = i
                · rw [if_pos ⟨h5, hk2, hb⟩, if_pos ⟨h5, by omega, hb⟩]
                · rw [if_neg (fun q => hk2 q.2.1), if_neg (fun q => by have := q.2.1; omega)]
            · rw [if_neg (fun q => h5 q.1), if_neg (fun q => h5 q.1), if_neg (fun q => h5 q.1)]
          · rw [if_neg (fun q => hb q.2.2), if_neg (fun q => hb q.2.2), if_neg (fun q => hb q.2.2)]
        cases hb : bt m i with
        | false =>
          rw [if_pos (vb_f rfl), if_pos (vb_f rfl), if_pos (vb_f rfl)]
          obtain ⟨f', z', a1, a2, a3, a4, a5, a6⟩ := ih n2 (i + 1) f z (by omega) (by omega) (by omega) T hz2
          refine ⟨f', z', a1, a2, a3, a4, hcomb f f' (fun k hk c hc => ?_) a5, a6⟩
          rw [if_neg (fun q => by rw [q.2.1, hb] at q; exact absurd q.2.2 (by decide))]
        | true =>
          rw [if_neg (vb_t rfl), if_neg (vb_t rfl), if_neg (vb_t rfl)]
          have e5 : f_X3_put 8 (Int32.ofNat r) 96 f (Int32.ofNat i) 5 (Int32.ofNat d) = upd f (8 * i + 5) (Int32.ofNat d) := pp_8 (c := 5) h12 hir (by omega)
          have hz : (f_X6_put z (Int32.ofNat i) 5 0) 2 = Int32.ofNat d := by rw [mp5 h12 hir, upd_n _ _ (by omega), hz2]
          have e8 : f_X6_put (f_X6_put z (Int32.ofNat i) 5 0) (Int32.ofNat i) 8 ((f_X6_put z (Int32.ofNat i) 5 0) 2) = upd (upd z (19 + 9 * i + 5) 0) (19 + 9 * i + 8) (Int32.ofNat d) := by rw [hz, mp8 h12 hir, mp5 h12 hir]
          rw [e5, e8]
          obtain ⟨f', z', a1, a2, a3, a4, a5, a6⟩ := ih n2 (i + 1) (upd f (8 * i + 5) (Int32.ofNat d)) (upd (upd z (19 + 9 * i + 5) 0) (19 + 9 * i + 8) (Int32.ofNat d)) (by omega) (by omega) (by omega) (tb_lapse T h12 hir hd) (by rw [upd_n _ _ (by omega), upd_n _ _ (by omega), hz2])
          refine ⟨f', z', a1, a2, fun q => ⟨op5 h12 hir, op8 h12 hir, a3 q⟩, a4, hcomb _ f' (fun k hk c hc => ?_) a5, fun q hq => ?_⟩
          · by_cases h : c = 5 ∧ k = i
            · rw [if_pos ⟨h.1, h.2, by rw [h.2]; exact hb⟩, h.1, h.2, upd_s]
            · rw [if_neg (fun q => h ⟨q.1, q.2.1⟩), upd_n _ _ (by omega)]
          · rw [a6 q hq, upd_n _ _ (by omega), upd_n _ _ (by omega)]
/-- the requests that go with them -/
theorem lap_req {z0 f0 f' : Nat → Int32} {p : Nat} (mc : Int32) (hmc : f_X2_wouldLapse (Int32.ofNat r) f0 (Int32.ofNat p) = mc) (hmz : f_X6_standingUnder z0 (Int32.ofNat p) = mc) (h12 : r ≤ 12) : ∀ (i n1 n2 s : Nat) (g z : Nat → Int32) (dr : Int32), i < n1 → i < n2 → i ≤ s → RQ r s g z → z 9 = dr → ∃ (s' : Nat) (g' z' : Nat → Int32) (dr' : Int32), f_X0_lapse_j31 (Int32.ofNat r) f0 (Int32.ofNat p) n1 (Int32.ofNat i - 1) dr f' (Int32.ofNat s) g = (f_J6_bitCount_0f7a4 mc, dr', f', Int32.ofNat s', g') ∧ f_X6_lapse_j61 z0 (Int32.ofNat p) n2 (Int32.ofNat i - 1) z = (f_X6_ones mc, z') ∧ o_X6_lapse_j61 z0 (Int32.ofNat p) n2 (Int32.ofNat i - 1) z ∧ RQ r s' g' z' ∧ z' 9 = dr' ∧ s' ≤ s ∧ (∀ q : Nat, q ≠ 4 → q ≠ 9 → q < 127 → z' q = z q) := by
  intro i
  induction i with
  | zero =>
    intro n1 n2 s g z dr h1 h2 h3 R h9
    cases n1 with
    | zero => omega
    | succ n1 =>
    cases n2 with
    | zero => omega
    | succ n2 =>
      have hneg : Int32.ofNat 0 - 1 < 0 := by decide
      rw [f_X0_lapse_j31, f_X6_lapse_j61, o_X6_lapse_j61, if_pos hneg, if_pos hneg, if_pos hneg, hmc, hmz]
      exact ⟨s, g, z, dr, rfl, rfl, trivial, R, h9, Nat.le_refl _, fun q _ _ _ => rfl⟩
  | succ i ih =>
    intro n1 n2 s g z dr h1 h2 h3 R h9
    have h6 := R.1
    cases n1 with
    | zero => omega
    | succ n1 =>
    cases n2 with
    | zero => omega
    | succ n2 =>
      have his : i < s := by omega
      obtain ⟨⟨b, hb, hbe⟩, -, hu01, -⟩ := R.2.2 i his
      have he : Int32.ofNat (i + 1) - 1 = Int32.ofNat i := by rw [pn_sub1 (by omega)]; rfl
      rw [he, f_X0_lapse_j31, f_X6_lapse_j61, o_X6_lapse_j61, if_neg (pn_nn (by omega)), if_neg (pn_nn (by omega)), if_neg (pn_nn (by omega)), hmc, hmz, rurg h6 his, p6_0 h6 his, ro3 R his, ro0 R his, hbe, bt_isIn (by omega), bt_has (by omega), f_X0_lapse_j77, f_X0_lapse_c67, f_X0_lapse_j77, f_X6_lapse_j103, o_X6_lapse_j103, f_X6_lapse_c92, o_X6_lapse_c92, f_X6_lapse_j103, o_X6_lapse_j103, pn_dec]
      have keep := ih n1 n2 s g z dr (by omega) (by omega) (by omega) R h9
      rcases hu01 with hu | hu
      · rw [hu, if_pos (by decide : vm_bi (decide ((0 : Int32) = 1)) = 0), if_pos rfl, if_pos rfl]
        cases hbb : bt mc b with
        | false =>
          rw [if_pos (vb_f rfl), if_pos (vb_f rfl), if_pos (vb_f rfl)]
          obtain ⟨s', g', z', dr', a1, a2, a3, a4⟩ := keep
          exact ⟨s', g', z', dr', a1, a2, ⟨roo3 h6 his, roo0 h6 his, a3⟩, a4⟩
        | true =>
          rw [if_neg (vb_t rfl), if_neg (vb_t rfl), if_neg (vb_t rfl), rem_c h6 his, (rem_z R his).1, cn_9]
          have R1 : RQ r (s - 1) (rmr i s g) (upd (rmz i s z) 9 ((rmz i s z) 9 + 1)) := (R.rem his).toz (upd_n _ _ (by omega)) (fun q h1 _ => upd_n _ _ (by omega))
          have h91 : (rmz i s z) 9 = dr := by rw [rmz_out (by omega) (by omega)]; exact h9
          obtain ⟨s', g', z', dr', a1, a2, a3, a4, a5, a6, a7⟩ := ih n1 n2 (s - 1) (rmr i s g) (upd (rmz i s z) 9 ((rmz i s z) 9 + 1)) (dr + 1) (by omega) (by omega) (by omega) R1 (by rw [upd_s, h91])
          refine ⟨s', g', z', dr', a1, a2, ⟨roo3 h6 his, roo0 h6 his, (rem_z R his).2, a3⟩, a4, a5, by omega, fun q q1 q2 q3 => ?_⟩
          rw [a7 q q1 q2 q3, upd_n _ _ q2, rmz_out q1 q3]
      · rw [hu, if_neg (by decide : ¬ vm_bi (decide ((1 : Int32) = 1)) = 0), if_neg (by decide : ¬ (1 : Int32) = 0), if_neg (by decide : ¬ (1 : Int32) = 0)]
        obtain ⟨s', g', z', dr', a1, a2, a3, a4⟩ := keep
        exact ⟨s', g', z', dr', a1, a2, ⟨roo3 h6 his, a3⟩, a4⟩
theorem toI1 {i : Nat} (h : i ≤ 12) : ((Int32.ofNat i - 1).toInt + 1).toNat = i := by
  have e3 : (Int32.ofNat i - 1).toInt = (i : Int) - 1 := by
    rw [Int32.toInt_sub, pn_toInt (by omega), show (1 : Int32).toInt = 1 from rfl, Int.bmod_eq_of_le (by omega) (by omega)]
  rw [e3]
  omega
/-- a mandate that stands lapses, with all under it -/
theorem lap_ (M : MB r f z) (R : RQ r s g z) {p d : Nat} (hp : p < r) (hst : f (8 * p + 5) = -1) (hd : d ≤ 5000) (h2 : z 2 = Int32.ofNat d) {dr : Int32} (h9 : z 9 = dr) : ∃ (s' : Nat) (f' g' z' : Nat → Int32) (dr' v : Int32), f_X0_lapse (Int32.ofNat r) f (Int32.ofNat s) g (Int32.ofNat d) dr (Int32.ofNat p) = (v, dr', f', Int32.ofNat s', g') ∧ f_X6_lapse z (Int32.ofNat p) = (v, z') ∧ o_X6_lapse z (Int32.ofNat p) ∧ MB r f' z' ∧ RQ r s' g' z' ∧ z' 9 = dr' ∧ s' ≤ s ∧ (∀ q : Nat, q ≠ 4 → q ≠ 9 → q < 19 → z' q = z q) := by
  have h12 := M.1
  have h6 := R.1
  obtain ⟨l1, l2, l3, l4⟩ := mlapse M hp
  rw [f_X6_lapsing, (ms_z M hp).1, decide_eq_true hst, if_neg (vb_t rfl)] at l1
  obtain ⟨f', z1, a1, a2, a3, a4, a5, a6⟩ := lap_all (z0 := z) (p := p) h12 hd (f_X6_standingUnder z (Int32.ofNat p)) rfl (r + 1) 1000 0 f z (by omega) (by omega) (by omega) M.2.1 h2
  have hz4 : z1 4 = Int32.ofNat s := (a6 4 (Or.inl (by omega))).trans R.2.1.1
  have R1 : RQ r s g z1 := R.toz (a6 4 (Or.inl (by omega))) (fun i h _ => a6 i (Or.inr h))
  obtain ⟨s', g', z', dr', b1, b2, b3, b4, b5, b6, b7⟩ := lap_req (r := r) (f0 := f) (f' := f') (z0 := z) (p := p) (f_X6_standingUnder z (Int32.ofNat p)) l1 rfl h12 s (s + 1) (s + 1) s g z1 dr (by omega) (by omega) (by omega) R1 ((a6 9 (Or.inl (by omega))).trans h9)
  have M1 : MB r f' z1 := by
    refine ⟨h12, a4, fun k hk => ?_⟩
    have e0 := a5 k hk 0 (by omega)
    have e1 := a5 k hk 1 (by omega)
    have e3 := a5 k hk 3 (by omega)
    have e4 := a5 k hk 4 (by omega)
    have e5 := a5 k hk 5 (by omega)
    have e6 := a5 k hk 6 (by omega)
    rw [if_neg (by omega)] at e0 e1 e3 e4 e6
    rw [Nat.add_zero] at e0
    obtain ⟨v0, v1, v3, v4, v6, v5⟩ := M.2.2 k hk
    rw [e0, e1, e3, e4, e6]
    refine ⟨v0, v1, v3, v4, v6, fun h5 j hj hu => ?_⟩
    have hbk : ¬ bt (f_X6_standingUnder z (Int32.ofNat p)) k = true := fun q => by
      rw [e5, if_pos ⟨rfl, by omega, q⟩] at h5
      exact d_nm hd h5
    rw [e5, if_neg (fun q => hbk q.2.2)] at h5
    have hj5 := v5 h5 j hj hu
    have ej := a5 j (by omega) 5 (by omega)
    rw [ej, if_neg (fun q => hbk ?_)]
    · exact hj5
    · have qj := q.2.2
      rw [l4 j (by omega), decide_eq_true (by omega : j < r), decide_eq_true hj5, Bool.true_and, Bool.true_and] at qj
      rw [l4 k (by omega), decide_eq_true hk, decide_eq_true h5, Bool.true_and, Bool.true_and, mich_rec M p (by omega) hk, hu, qj, Bool.or_true]
  refine ⟨s', f', g', z', dr', f_X6_ones (f_X6_standingUnder z (Int32.ofNat p)), ?_, ?_, ?_, M1.toz (b7 3 (by omega) (by omega) (by omega)) (fun i q1 q2 => b7 i (by omega) (by omega) q2), b4, b5, b6, fun q q1 q2 q3 => ?_⟩
  · rw [f_X0_lapse, l1, f_X2_lapseAll, f_X2_total, toI (by omega), f_X0_lapse_c21, toI1 (by omega)]
    have a1' : f_X2_lapseAll_j2 (Int32.ofNat r) (f_X6_standingUnder z (Int32.ofNat p)) (Int32.ofNat d) (r + 1) 0 f = f' := a1
    rw [a1', b1, bc_pcn l3, on_pcn]
  · have a2' : f_X6_lapse z (Int32.ofNat p) = _ := a2
    rw [a2', hz4, toI1 (by omega), b2]
  · rw [o_X6_lapse]
    refine ⟨l2, a3 ?_⟩
    rw [hz4, toI1 (by omega)]
    exact b3
  · rw [b7 q q1 q2 (by omega), a6 q (Or.inl q3)]
/-- a mandate that doesn't stand: the class goes through it all the same -/
theorem lap_no (M : MB r f z) (R : RQ r s g z) {p : Nat} (hp : p < r) (hst : ¬ f (8 * p + 5) = -1) (day dr : Int32) : f_X0_lapse (Int32.ofNat r) f (Int32.ofNat s) g day dr (Int32.ofNat p) = (0, dr, f, Int32.ofNat s, g) := by
  have h12 := M.1
  have h6 := R.1
  have l1 : f_X2_wouldLapse (Int32.ofNat r) f (Int32.ofNat p) = 0 := by
    rw [(mlapse M hp).1, f_X6_lapsing, (ms_z M hp).1, decide_eq_false hst, if_pos (vb_f rfl)]
  have la : ∀ (n i : Nat), i ≤ r → r - i < n → f_X2_lapseAll_j2 (Int32.ofNat r) 0 day n (Int32.ofNat i) f = f := by
    intro n
    induction n with
    | zero => intro i h1 h2; omega
    | succ n ih =>
      intro i h1 h2
      rw [f_X2_lapseAll_j2, f_X2_total]
      by_cases hi : i = r
      · subst hi
        rw [if_pos (lez h12 (Nat.le_refl _) (by omega))]
      · rw [if_neg (ltz h12 (by omega)), bt_isIn (by omega), bt_zero, if_pos (vb_f rfl), f_X2_lapseAll_j28, pn_succ]
        exact ih (i + 1) (by omega) (by omega)
  have lr : ∀ (i n : Nat), i < n → i ≤ s → f_X0_lapse_j31 (Int32.ofNat r) f (Int32.ofNat p) n (Int32.ofNat i - 1) dr f (Int32.ofNat s) g = (0, dr, f, Int32.ofNat s, g) := by
    intro i
    induction i with
    | zero =>
      intro n h1 h2
      cases n with
      | zero => omega
      | succ n =>
        have hneg : Int32.ofNat 0 - 1 < 0 := by decide
        have hbc : f_J6_bitCount_0f7a4 0 = 0 := by rw [bc_pcn msk_0, pcn_0]; rfl
        rw [f_X0_lapse_j31, if_pos hneg, l1, hbc]
    | succ i ih =>
      intro n h1 h2
      cases n with
      | zero => omega
      | succ n =>
        have his : i < s := by omega
        obtain ⟨⟨b, hb, hbe⟩, -, -, -⟩ := R.2.2 i his
        have he : Int32.ofNat (i + 1) - 1 = Int32.ofNat i := by rw [pn_sub1 (by omega)]; rfl
        rw [he, f_X0_lapse_j31, if_neg (pn_nn (by omega)), l1, p6_0 h6 his, hbe, bt_isIn (by omega), bt_zero, if_pos (vb_f rfl : vm_bi false = 0), f_X0_lapse_j77, pn_dec, ite_self]
        exact ih n (by omega) (by omega)
  have la' : f_X2_lapseAll (Int32.ofNat r) f 0 day = f := by
    rw [f_X2_lapseAll, f_X2_total, toI (by omega)]
    exact la (r + 1) 0 (by omega) (by omega)
  rw [f_X0_lapse, l1, la', f_X0_lapse_c21, toI1 (by omega)]
  exact lr s (s + 1) (by omega) (by omega)
end RMS
