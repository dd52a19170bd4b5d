/-! THE STEPS: reads -/
theorem sim_mandate : Sim_mandate RRf := by
  intro rm fm rq fr ap day grace longest spent spentIn spendings urgentSp dropped lapsedLate oldest kept RB ln tx states rl thr rd num due hash z hi rx pa p1 p2 hR
  obtain ⟨⟨r, s, rfl, rfl, B⟩, H, TT⟩ := RR_el hR
  have C : CU (Int32.ofNat r) fm (Int32.ofNat s) fr ap day grace longest spent spentIn spendings urgentSp dropped lapsedLate z := ⟨r, s, rfl, rfl, B⟩
  have M := B.1
  have R := B.2.1
  have h12 := M.1
  have h6 := R.1
  have z0 := B.2.2.2.1.1
  have z2 := B.2.2.2.1.2.2.1
  rcases mi_ M p1 with ⟨i1, i2, k, hk, rfl⟩ | ⟨i1, i2, -⟩
  · rcases cr_ p2 0 11 with ⟨r1, r2, r3, r4⟩ | ⟨r1, r2⟩
    · obtain ⟨c, -, c2, rfl⟩ := cr_n (a := 0) (b := 11) (by omega) (by omega) r3 r4
      obtain ⟨x1, x2⟩ := mprop B hk c2
      have hf : f_X5_mandate (Int32.ofNat r) fm (Int32.ofNat s) fr (Int32.ofNat k) (Int32.ofNat c) = (0, f_X6_mandateNow z (Int32.ofNat k) (Int32.ofNat c)) := by
        rw [f_X5_mandate, i2, if_pos rfl, r1, if_pos rfl, x1]
      have hz : f_X6_mandate z (Int32.ofNat k) (Int32.ofNat c) = (f_X6_mandateNow z (Int32.ofNat k) (Int32.ofNat c), 0) := by
        rw [f_X6_mandate, i1, if_neg (vb_t rfl), r2, if_neg (vb_t rfl), f_X6_mandate_j28, if_pos le00]
      have hzo : o_X6_mandate z (Int32.ofNat k) (Int32.ofNat c) := by
        rw [o_X6_mandate, i1, if_neg (vb_t rfl), r2, if_neg (vb_t rfl), o_X6_mandate_j28, if_pos le00]
        exact ⟨x2, trivial⟩
      rw [hf, hz]
      exact ⟨Or.inl rfl, hzo, rfl, fun _ => rfl, RR_mk C H TT⟩
    · skip
      have hf : f_X5_mandate (Int32.ofNat r) fm (Int32.ofNat s) fr (Int32.ofNat k) p2 = (2, 0) := by
        rw [f_X5_mandate, i2, if_pos rfl, r1, if_neg (by decide)]
      have hz : f_X6_mandate z (Int32.ofNat k) p2 = (0, 2) := by
        rw [f_X6_mandate, i1, if_neg (vb_t rfl), r2, if_pos (vb_f rfl), f_X6_mandate_j28, if_neg nle2]
      have hzo : o_X6_mandate z (Int32.ofNat k) p2 := by
        rw [o_X6_mandate, i1, if_neg (vb_t rfl), r2, if_pos (vb_f rfl), o_X6_mandate_j28, if_neg nle2]
        trivial
      rw [hf, hz]
      exact ⟨Or.inr (Or.inr rfl), hzo, rfl, fun q => absurd q (by decide : ¬ (2 : Nat) = 0), RR_mk C H TT⟩
  · skip
    have hf : f_X5_mandate (Int32.ofNat r) fm (Int32.ofNat s) fr p1 p2 = (1, 0) := by
      rw [f_X5_mandate, i2, if_neg (by decide)]
    have hz : f_X6_mandate z p1 p2 = (0, 1) := by
      rw [f_X6_mandate, i1, if_pos (vb_f rfl), f_X6_mandate_j28, if_neg nle1]
    have hzo : o_X6_mandate z p1 p2 := by
      rw [o_X6_mandate, i1, if_pos (vb_f rfl), o_X6_mandate_j28, if_neg nle1]
      trivial
    rw [hf, hz]
    exact ⟨Or.inr (Or.inl rfl), hzo, rfl, fun q => absurd q (by decide : ¬ (1 : Nat) = 0), RR_mk C H TT⟩
theorem sim_request : Sim_request RRf := by
  intro rm fm rq fr ap day grace longest spent spentIn spendings urgentSp dropped lapsedLate oldest kept RB ln tx states rl thr rd num due hash z hi rx pa p1 p2 hR
  obtain ⟨⟨r, s, rfl, rfl, B⟩, H, TT⟩ := RR_el hR
  have C : CU (Int32.ofNat r) fm (Int32.ofNat s) fr ap day grace longest spent spentIn spendings urgentSp dropped lapsedLate z := ⟨r, s, rfl, rfl, B⟩
  have M := B.1
  have R := B.2.1
  have h12 := M.1
  have h6 := R.1
  have z0 := B.2.2.2.1.1
  have z2 := B.2.2.2.1.2.2.1
  rcases ri_ R p1 with ⟨i1, i2, k, hk, rfl⟩ | ⟨i1, i2⟩
  · rcases cr_ p2 0 6 with ⟨r1, r2, r3, r4⟩ | ⟨r1, r2⟩
    · obtain ⟨c, -, c2, rfl⟩ := cr_n (a := 0) (b := 6) (by omega) (by omega) r3 r4
      obtain ⟨x1, x2⟩ := rprop B hk c2
      have hf : f_X5_request (Int32.ofNat r) fm (Int32.ofNat s) fr (Int32.ofNat k) (Int32.ofNat c) = (0, f_X6_requestNow z (Int32.ofNat k) (Int32.ofNat c)) := by
        rw [f_X5_request, i2, if_pos rfl, r1, if_pos rfl, x1]
      have hz : f_X6_request z (Int32.ofNat k) (Int32.ofNat c) = (f_X6_requestNow z (Int32.ofNat k) (Int32.ofNat c), 0) := by
        rw [f_X6_request, i1, if_neg (vb_t rfl), r2, if_neg (vb_t rfl), f_X6_request_j28, if_pos le00]
      have hzo : o_X6_request z (Int32.ofNat k) (Int32.ofNat c) := by
        rw [o_X6_request, i1, if_neg (vb_t rfl), r2, if_neg (vb_t rfl), o_X6_request_j28, if_pos le00]
        exact ⟨x2, trivial⟩
      rw [hf, hz]
      exact ⟨Or.inl rfl, hzo, rfl, fun _ => rfl, RR_mk C H TT⟩
    · skip
      have hf : f_X5_request (Int32.ofNat r) fm (Int32.ofNat s) fr (Int32.ofNat k) p2 = (2, 0) := by
        rw [f_X5_request, i2, if_pos rfl, r1, if_neg (by decide)]
      have hz : f_X6_request z (Int32.ofNat k) p2 = (0, 2) := by
        rw [f_X6_request, i1, if_neg (vb_t rfl), r2, if_pos (vb_f rfl), f_X6_request_j28, if_neg nle2]
      have hzo : o_X6_request z (Int32.ofNat k) p2 := by
        rw [o_X6_request, i1, if_neg (vb_t rfl), r2, if_pos (vb_f rfl), o_X6_request_j28, if_neg nle2]
        trivial
      rw [hf, hz]
      exact ⟨Or.inr (Or.inr rfl), hzo, rfl, fun q => absurd q (by decide : ¬ (2 : Nat) = 0), RR_mk C H TT⟩
  · skip
    have hf : f_X5_request (Int32.ofNat r) fm (Int32.ofNat s) fr p1 p2 = (1, 0) := by
      rw [f_X5_request, i2, if_neg (by decide)]
    have hz : f_X6_request z p1 p2 = (0, 1) := by
      rw [f_X6_request, i1, if_pos (vb_f rfl), f_X6_request_j28, if_neg nle1]
    have hzo : o_X6_request z p1 p2 := by
      rw [o_X6_request, i1, if_pos (vb_f rfl), o_X6_request_j28, if_neg nle1]
      trivial
    rw [hf, hz]
    exact ⟨Or.inr (Or.inl rfl), hzo, rfl, fun q => absurd q (by decide : ¬ (1 : Nat) = 0), RR_mk C H TT⟩
theorem sim_person : Sim_person RRf := by
  intro rm fm rq fr ap day grace longest spent spentIn spendings urgentSp dropped lapsedLate oldest kept RB ln tx states rl thr rd num due hash z hi rx pa p1 p2 hR
  obtain ⟨⟨r, s, rfl, rfl, B⟩, H, TT⟩ := RR_el hR
  have C : CU (Int32.ofNat r) fm (Int32.ofNat s) fr ap day grace longest spent spentIn spendings urgentSp dropped lapsedLate z := ⟨r, s, rfl, rfl, B⟩
  have M := B.1
  have R := B.2.1
  have h12 := M.1
  have h6 := R.1
  have z0 := B.2.2.2.1.1
  have z2 := B.2.2.2.1.2.2.1
  rcases cp_ p1 with ⟨i2, i1, k, hk, rfl⟩ | ⟨i2, i1⟩
  · rcases cr_ p2 0 3 with ⟨r1, r2, r3, r4⟩ | ⟨r1, r2⟩
    · obtain ⟨c, -, c2, rfl⟩ := cr_n (a := 0) (b := 3) (by omega) (by omega) r3 r4
      obtain ⟨x1, x2⟩ := pprop B hk c2
      have hf : f_X5_person (Int32.ofNat r) fm (Int32.ofNat s) fr ap (Int32.ofNat k) (Int32.ofNat c) = (0, f_X6_personNow z (Int32.ofNat k) (Int32.ofNat c)) := by
        rw [f_X5_person, i2, if_pos rfl, r1, if_pos rfl, x1]
      have hz : f_X6_person z (Int32.ofNat k) (Int32.ofNat c) = (f_X6_personNow z (Int32.ofNat k) (Int32.ofNat c), 0) := by
        rw [f_X6_person, i1, if_neg (vb_t rfl), r2, if_neg (vb_t rfl), f_X6_person_j26, if_pos le00]
      have hzo : o_X6_person z (Int32.ofNat k) (Int32.ofNat c) := by
        rw [o_X6_person, i1, if_neg (vb_t rfl), r2, if_neg (vb_t rfl), o_X6_person_j26, if_pos le00]
        exact ⟨x2, trivial⟩
      rw [hf, hz]
      exact ⟨Or.inl rfl, hzo, rfl, fun _ => rfl, RR_mk C H TT⟩
    · skip
      have hf : f_X5_person (Int32.ofNat r) fm (Int32.ofNat s) fr ap (Int32.ofNat k) p2 = (2, 0) := by
        rw [f_X5_person, i2, if_pos rfl, r1, if_neg (by decide)]
      have hz : f_X6_person z (Int32.ofNat k) p2 = (0, 2) := by
        rw [f_X6_person, i1, if_neg (vb_t rfl), r2, if_pos (vb_f rfl), f_X6_person_j26, if_neg nle2]
      have hzo : o_X6_person z (Int32.ofNat k) p2 := by
        rw [o_X6_person, i1, if_neg (vb_t rfl), r2, if_pos (vb_f rfl), o_X6_person_j26, if_neg nle2]
        trivial
      rw [hf, hz]
      exact ⟨Or.inr (Or.inr rfl), hzo, rfl, fun q => absurd q (by decide : ¬ (2 : Nat) = 0), RR_mk C H TT⟩
  · skip
    have hf : f_X5_person (Int32.ofNat r) fm (Int32.ofNat s) fr ap p1 p2 = (1, 0) := by
      rw [f_X5_person, i2, if_neg (by decide)]
    have hz : f_X6_person z p1 p2 = (0, 1) := by
      rw [f_X6_person, i1, if_pos (vb_f rfl), f_X6_person_j26, if_neg nle1]
    have hzo : o_X6_person z p1 p2 := by
      rw [o_X6_person, i1, if_pos (vb_f rfl), o_X6_person_j26, if_neg nle1]
      trivial
    rw [hf, hz]
    exact ⟨Or.inr (Or.inl rfl), hzo, rfl, fun q => absurd q (by decide : ¬ (1 : Nat) = 0), RR_mk C H TT⟩
theorem sim_whyNot : Sim_whyNot RRf := by
  intro rm fm rq fr ap day grace longest spent spentIn spendings urgentSp dropped lapsedLate oldest kept RB ln tx states rl thr rd num due hash z hi rx pa p1 p2 hR
  obtain ⟨⟨r, s, rfl, rfl, B⟩, H, TT⟩ := RR_el hR
  have C : CU (Int32.ofNat r) fm (Int32.ofNat s) fr ap day grace longest spent spentIn spendings urgentSp dropped lapsedLate z := ⟨r, s, rfl, rfl, B⟩
  have M := B.1
  have R := B.2.1
  have h12 := M.1
  have h6 := R.1
  have z0 := B.2.2.2.1.1
  have z2 := B.2.2.2.1.2.2.1
  rcases mi_ M p1 with ⟨i1, i2, k, hk, rfl⟩ | ⟨i1, i2, -⟩
  · rcases cr_ p2 1 9999 with ⟨r1, r2, r3, r4⟩ | ⟨r1, r2⟩
    · obtain ⟨x1, x2⟩ := mreason M hk p2
      have w2 : f_X6_isMoney p2 = true := r2
      have hf : f_X5_whyNot (Int32.ofNat r) fm (Int32.ofNat k) p2 = (0, f_X6_reason z (Int32.ofNat k) p2) := by
        rw [f_X5_whyNot, i2, if_pos rfl, r1, if_pos rfl, x1]
      have hz : f_X6_whyNot z (Int32.ofNat k) p2 = (f_X6_reason z (Int32.ofNat k) p2, 0) := by
        rw [f_X6_whyNot, i1, if_neg (vb_t rfl), w2, if_neg (vb_t rfl), f_X6_whyNot_j25, if_pos le00]
      have hzo : o_X6_whyNot z (Int32.ofNat k) p2 := by
        rw [o_X6_whyNot, i1, if_neg (vb_t rfl), w2, if_neg (vb_t rfl), o_X6_whyNot_j25, if_pos le00]
        exact ⟨x2, trivial⟩
      rw [hf, hz]
      exact ⟨Or.inl rfl, hzo, rfl, fun _ => rfl, RR_mk C H TT⟩
    · have w2 : f_X6_isMoney p2 = false := r2
      have hf : f_X5_whyNot (Int32.ofNat r) fm (Int32.ofNat k) p2 = (2, 0) := by
        rw [f_X5_whyNot, i2, if_pos rfl, r1, if_neg (by decide)]
      have hz : f_X6_whyNot z (Int32.ofNat k) p2 = (0, 2) := by
        rw [f_X6_whyNot, i1, if_neg (vb_t rfl), w2, if_pos (vb_f rfl), f_X6_whyNot_j25, if_neg nle2]
      have hzo : o_X6_whyNot z (Int32.ofNat k) p2 := by
        rw [o_X6_whyNot, i1, if_neg (vb_t rfl), w2, if_pos (vb_f rfl), o_X6_whyNot_j25, if_neg nle2]
        trivial
      rw [hf, hz]
      exact ⟨Or.inr (Or.inr rfl), hzo, rfl, fun q => absurd q (by decide : ¬ (2 : Nat) = 0), RR_mk C H TT⟩
  · skip
    have hf : f_X5_whyNot (Int32.ofNat r) fm p1 p2 = (1, 0) := by
      rw [f_X5_whyNot, i2, if_neg (by decide)]
    have hz : f_X6_whyNot z p1 p2 = (0, 1) := by
      rw [f_X6_whyNot, i1, if_pos (vb_f rfl), f_X6_whyNot_j25, if_neg nle1]
    have hzo : o_X6_whyNot z p1 p2 := by
      rw [o_X6_whyNot, i1, if_pos (vb_f rfl), o_X6_whyNot_j25, if_neg nle1]
      trivial
    rw [hf, hz]
    exact ⟨Or.inr (Or.inl rfl), hzo, rfl, fun q => absurd q (by decide : ¬ (1 : Nat) = 0), RR_mk C H TT⟩
theorem sim_room : Sim_room RRf := by
  intro rm fm rq fr ap day grace longest spent spentIn spendings urgentSp dropped lapsedLate oldest kept RB ln tx states rl thr rd num due hash z hi rx pa p1 p2 hR
  obtain ⟨⟨r, s, rfl, rfl, B⟩, H, TT⟩ := RR_el hR
  have C : CU (Int32.ofNat r) fm (Int32.ofNat s) fr ap day grace longest spent spentIn spendings urgentSp dropped lapsedLate z := ⟨r, s, rfl, rfl, B⟩
  have M := B.1
  have R := B.2.1
  have h12 := M.1
  have h6 := R.1
  have z0 := B.2.2.2.1.1
  have z2 := B.2.2.2.1.2.2.1
  rcases mi_ M p1 with ⟨i1, i2, k, hk, rfl⟩ | ⟨i1, i2, -⟩
  · have x1 := mroom M hk p2
    have hf : f_X5_room (Int32.ofNat r) fm (Int32.ofNat k) p2 = (0, f_X6_roomOf z (Int32.ofNat k) p2) := by
      rw [f_X5_room, i2, if_pos rfl, x1]
    have hz : f_X6_room z (Int32.ofNat k) p2 = (f_X6_roomOf z (Int32.ofNat k) p2, vm_bi false) := by
      rw [f_X6_room, i1, if_neg (vb_t rfl), f_X6_room_j14, if_pos bil0]
    have hzo : o_X6_room z (Int32.ofNat k) p2 := by
      rw [o_X6_room, i1, if_neg (vb_t rfl), o_X6_room_j14, if_pos bil0]
      exact ⟨mroom_o M hk p2, trivial⟩
    rw [hf, hz]
    exact ⟨Or.inl rfl, hzo, rfl, fun _ => rfl, RR_mk C H TT⟩
  · skip
    have hf : f_X5_room (Int32.ofNat r) fm p1 p2 = (1, 0) := by
      rw [f_X5_room, i2, if_neg (by decide)]
    have hz : f_X6_room z p1 p2 = (0, vm_bi true) := by
      rw [f_X6_room, i1, if_pos (vb_f rfl), f_X6_room_j14, if_neg bil1]
    have hzo : o_X6_room z p1 p2 := by
      rw [o_X6_room, i1, if_pos (vb_f rfl), o_X6_room_j14, if_neg bil1]
      trivial
    rw [hf, hz]
    exact ⟨Or.inr rfl, hzo, rfl, fun q => absurd q (by decide : ¬ (1 : Nat) = 0), RR_mk C H TT⟩
theorem sim_under : Sim_under RRf := by
  intro rm fm rq fr ap day grace longest spent spentIn spendings urgentSp dropped lapsedLate oldest kept RB ln tx states rl thr rd num due hash z hi rx pa p1 hR
  obtain ⟨⟨r, s, rfl, rfl, B⟩, H, TT⟩ := RR_el hR
  have C : CU (Int32.ofNat r) fm (Int32.ofNat s) fr ap day grace longest spent spentIn spendings urgentSp dropped lapsedLate z := ⟨r, s, rfl, rfl, B⟩
  have M := B.1
  have R := B.2.1
  have h12 := M.1
  have h6 := R.1
  have z0 := B.2.2.2.1.1
  have z2 := B.2.2.2.1.2.2.1
  rcases mi_ M p1 with ⟨i1, i2, k, hk, rfl⟩ | ⟨i1, i2, -⟩
  · have x1 := (mlapse M hk).1
    have hf : f_X5_under (Int32.ofNat r) fm (Int32.ofNat k) = (0, f_X6_lapsing z (Int32.ofNat k)) := by
      rw [f_X5_under, i2, if_pos rfl, x1]
    have hz : f_X6_under z (Int32.ofNat k) = (f_X6_lapsing z (Int32.ofNat k), vm_bi false) := by
      rw [f_X6_under, i1, if_neg (vb_t rfl), f_X6_under_j14, if_pos bil0]
    have hzo : o_X6_under z (Int32.ofNat k) := by
      rw [o_X6_under, i1, if_neg (vb_t rfl), o_X6_under_j14, if_pos bil0]
      exact ⟨mlapsing_o M hk, trivial⟩
    rw [hf, hz]
    exact ⟨Or.inl rfl, hzo, rfl, fun _ => rfl, RR_mk C H TT⟩
  · skip
    have hf : f_X5_under (Int32.ofNat r) fm p1 = (1, 0) := by
      rw [f_X5_under, i2, if_neg (by decide)]
    have hz : f_X6_under z p1 = (0, vm_bi true) := by
      rw [f_X6_under, i1, if_pos (vb_f rfl), f_X6_under_j14, if_neg bil1]
    have hzo : o_X6_under z p1 := by
      rw [o_X6_under, i1, if_pos (vb_f rfl), o_X6_under_j14, if_neg bil1]
      trivial
    rw [hf, hz]
    exact ⟨Or.inr rfl, hzo, rfl, fun q => absurd q (by decide : ¬ (1 : Nat) = 0), RR_mk C H TT⟩
theorem sim_narrowest : Sim_narrowest RRf := by
  intro rm fm rq fr ap day grace longest spent spentIn spendings urgentSp dropped lapsedLate oldest kept RB ln tx states rl thr rd num due hash z hi rx pa p1 hR
  obtain ⟨⟨r, s, rfl, rfl, B⟩, H, TT⟩ := RR_el hR
  have C : CU (Int32.ofNat r) fm (Int32.ofNat s) fr ap day grace longest spent spentIn spendings urgentSp dropped lapsedLate z := ⟨r, s, rfl, rfl, B⟩
  have M := B.1
  have R := B.2.1
  have h12 := M.1
  have h6 := R.1
  have z0 := B.2.2.2.1.1
  have z2 := B.2.2.2.1.2.2.1
  rcases mi_ M p1 with ⟨i1, i2, k, hk, rfl⟩ | ⟨i1, i2, -⟩
  · have x1 := (mnarrow M hk).1
    have hf : f_X5_narrowest (Int32.ofNat r) fm (Int32.ofNat k) = (0, f_X6_narrowestOf z (Int32.ofNat k)) := by
      rw [f_X5_narrowest, i2, if_pos rfl, x1]
    have hz : f_X6_narrowest z (Int32.ofNat k) = (f_X6_narrowestOf z (Int32.ofNat k), vm_bi false) := by
      rw [f_X6_narrowest, i1, if_neg (vb_t rfl), f_X6_narrowest_j14, if_pos bil0]
    have hzo : o_X6_narrowest z (Int32.ofNat k) := by
      rw [o_X6_narrowest, i1, if_neg (vb_t rfl), o_X6_narrowest_j14, if_pos bil0]
      exact ⟨(mnarrow M hk).2.1, trivial⟩
    rw [hf, hz]
    exact ⟨Or.inl rfl, hzo, rfl, fun _ => rfl, RR_mk C H TT⟩
  · skip
    have hf : f_X5_narrowest (Int32.ofNat r) fm p1 = (1, 0) := by
      rw [f_X5_narrowest, i2, if_neg (by decide)]
    have hz : f_X6_narrowest z p1 = (0, vm_bi true) := by
      rw [f_X6_narrowest, i1, if_pos (vb_f rfl), f_X6_narrowest_j14, if_neg bil1]
    have hzo : o_X6_narrowest z p1 := by
      rw [o_X6_narrowest, i1, if_pos (vb_f rfl), o_X6_narrowest_j14, if_neg bil1]
      trivial
    rw [hf, hz]
    exact ⟨Or.inr rfl, hzo, rfl, fun q => absurd q (by decide : ¬ (1 : Nat) = 0), RR_mk C H TT⟩
theorem sim_lapsesIn : Sim_lapsesIn RRf := by
  intro rm fm rq fr ap day grace longest spent spentIn spendings urgentSp dropped lapsedLate oldest kept RB ln tx states rl thr rd num due hash z hi rx pa p1 hR
  obtain ⟨⟨r, s, rfl, rfl, B⟩, H, TT⟩ := RR_el hR
  have C : CU (Int32.ofNat r) fm (Int32.ofNat s) fr ap day grace longest spent spentIn spendings urgentSp dropped lapsedLate z := ⟨r, s, rfl, rfl, B⟩
  have M := B.1
  have R := B.2.1
  have h12 := M.1
  have h6 := R.1
  have z0 := B.2.2.2.1.1
  have z2 := B.2.2.2.1.2.2.1
  rcases mi_ M p1 with ⟨i1, i2, k, hk, rfl⟩ | ⟨i1, i2, -⟩
  · have x1 := (rdaysLeft M R hk z2 z0).1
    have hf : f_X5_lapsesIn (Int32.ofNat r) fm (Int32.ofNat s) fr day grace (Int32.ofNat k) = (0, f_X6_daysLeft z (Int32.ofNat k)) := by
      rw [f_X5_lapsesIn, i2, if_pos rfl, x1]
    have hz : f_X6_lapsesIn z (Int32.ofNat k) = (f_X6_daysLeft z (Int32.ofNat k), vm_bi false) := by
      rw [f_X6_lapsesIn, i1, if_neg (vb_t rfl), f_X6_lapsesIn_j14, if_pos bil0]
    have hzo : o_X6_lapsesIn z (Int32.ofNat k) := by
      rw [o_X6_lapsesIn, i1, if_neg (vb_t rfl), o_X6_lapsesIn_j14, if_pos bil0]
      exact ⟨(rdaysLeft M R hk z2 z0).2, trivial⟩
    rw [hf, hz]
    exact ⟨Or.inl rfl, hzo, rfl, fun _ => rfl, RR_mk C H TT⟩
  · skip
    have hf : f_X5_lapsesIn (Int32.ofNat r) fm (Int32.ofNat s) fr day grace p1 = (1, 0) := by
      rw [f_X5_lapsesIn, i2, if_neg (by decide)]
    have hz : f_X6_lapsesIn z p1 = (0, vm_bi true) := by
      rw [f_X6_lapsesIn, i1, if_pos (vb_f rfl), f_X6_lapsesIn_j14, if_neg bil1]
    have hzo : o_X6_lapsesIn z p1 := by
      rw [o_X6_lapsesIn, i1, if_pos (vb_f rfl), o_X6_lapsesIn_j14, if_neg bil1]
      trivial
    rw [hf, hz]
    exact ⟨Or.inr rfl, hzo, rfl, fun q => absurd q (by decide : ¬ (1 : Nat) = 0), RR_mk C H TT⟩
theorem sim_usedShare : Sim_usedShare RRf := by
  intro rm fm rq fr ap day grace longest spent spentIn spendings urgentSp dropped lapsedLate oldest kept RB ln tx states rl thr rd num due hash z hi rx pa p1 hR
  obtain ⟨⟨r, s, rfl, rfl, B⟩, H, TT⟩ := RR_el hR
  have C : CU (Int32.ofNat r) fm (Int32.ofNat s) fr ap day grace longest spent spentIn spendings urgentSp dropped lapsedLate z := ⟨r, s, rfl, rfl, B⟩
  have M := B.1
  have R := B.2.1
  have h12 := M.1
  have h6 := R.1
  have z0 := B.2.2.2.1.1
  have z2 := B.2.2.2.1.2.2.1
  rcases mi_ M p1 with ⟨i1, i2, k, hk, rfl⟩ | ⟨i1, i2, -⟩
  · have x1 := (mshare M hk).1
    have hf : f_X5_usedShare (Int32.ofNat r) fm (Int32.ofNat k) = (0, f_X6_usedOf z (Int32.ofNat k)) := by
      rw [f_X5_usedShare, i2, if_pos rfl, x1]
    have ho : o_X5_usedShare (Int32.ofNat r) fm (Int32.ofNat k) := by
      rw [o_X5_usedShare, i2, if_pos rfl]
      exact ⟨(mshare M hk).2.1, trivial⟩
    have hz : f_X6_usedShare z (Int32.ofNat k) = (f_X6_usedOf z (Int32.ofNat k), vm_bi false) := by
      rw [f_X6_usedShare, i1, if_neg (vb_t rfl), f_X6_usedShare_j14, if_pos bil0]
    have hzo : o_X6_usedShare z (Int32.ofNat k) := by
      rw [o_X6_usedShare, i1, if_neg (vb_t rfl), o_X6_usedShare_j14, if_pos bil0]
      exact ⟨(mshare M hk).2.2.1, trivial⟩
    rw [hf, hz]
    exact ⟨ho, Or.inl rfl, hzo, rfl, fun _ => rfl, RR_mk C H TT⟩
  · skip
    have hf : f_X5_usedShare (Int32.ofNat r) fm p1 = (1, 0) := by
      rw [f_X5_usedShare, i2, if_neg (by decide)]
    have ho : o_X5_usedShare (Int32.ofNat r) fm p1 := by
      rw [o_X5_usedShare, i2, if_neg (by decide)]
      trivial
    have hz : f_X6_usedShare z p1 = (FP.dconst0, vm_bi true) := by
      rw [f_X6_usedShare, i1, if_pos (vb_f rfl), f_X6_usedShare_j14, if_neg bil1]
    have hzo : o_X6_usedShare z p1 := by
      rw [o_X6_usedShare, i1, if_pos (vb_f rfl), o_X6_usedShare_j14, if_neg bil1]
      trivial
    rw [hf, hz]
    exact ⟨ho, Or.inr rfl, hzo, rfl, fun q => absurd q (by decide : ¬ (1 : Nat) = 0), RR_mk C H TT⟩
theorem sim_setting : Sim_setting RRf := by
  intro rm fm rq fr ap day grace longest spent spentIn spendings urgentSp dropped lapsedLate oldest kept RB ln tx states rl thr rd num due hash z hi rx pa p1 hR
  obtain ⟨⟨r, s, rfl, rfl, B⟩, H, TT⟩ := RR_el hR
  have C : CU (Int32.ofNat r) fm (Int32.ofNat s) fr ap day grace longest spent spentIn spendings urgentSp dropped lapsedLate z := ⟨r, s, rfl, rfl, B⟩
  have M := B.1
  have R := B.2.1
  have h12 := M.1
  have h6 := R.1
  have z0 := B.2.2.2.1.1
  have z2 := B.2.2.2.1.2.2.1
  have z1 := B.2.2.2.1.2.1
  rcases cs_ p1 with ⟨i2, i1, rfl | rfl⟩ | ⟨i2, i1⟩
  · skip
    have hf : f_X5_setting grace longest 0 = (0, grace) := by
      rw [f_X5_setting, i2, if_pos rfl, f_X0_settingValue, if_pos rfl]
    have hz : f_X6_setting z 0 = (grace, vm_bi false) := by
      rw [f_X6_setting, i1, if_neg (vb_t rfl), f_X6_setting_j13, if_pos bil0, cn_0, z0]
    have hzo : o_X6_setting z 0 := by
      rw [o_X6_setting, i1, if_neg (vb_t rfl), o_X6_setting_j13, if_pos bil0]
      exact ⟨pz_vp (i := 0) (by decide) (by decide), trivial⟩
    rw [hf, hz]
    exact ⟨Or.inl rfl, hzo, rfl, fun _ => rfl, RR_mk C H TT⟩
  · skip
    have hf : f_X5_setting grace longest 1 = (0, longest) := by
      rw [f_X5_setting, i2, if_pos rfl, f_X0_settingValue, if_neg (by decide)]
    have hz : f_X6_setting z 1 = (longest, vm_bi false) := by
      rw [f_X6_setting, i1, if_neg (vb_t rfl), f_X6_setting_j13, if_pos bil0, cn_1, z1]
    have hzo : o_X6_setting z 1 := by
      rw [o_X6_setting, i1, if_neg (vb_t rfl), o_X6_setting_j13, if_pos bil0]
      exact ⟨pz_vp (i := 1) (by decide) (by decide), trivial⟩
    rw [hf, hz]
    exact ⟨Or.inl rfl, hzo, rfl, fun _ => rfl, RR_mk C H TT⟩
  · skip
    have hf : f_X5_setting grace longest p1 = (1, 0) := by
      rw [f_X5_setting, i2, if_neg (by decide)]
    have hz : f_X6_setting z p1 = (0, vm_bi true) := by
      rw [f_X6_setting, i1, if_pos (vb_f rfl), f_X6_setting_j13, if_neg bil1]
    have hzo : o_X6_setting z p1 := by
      rw [o_X6_setting, i1, if_pos (vb_f rfl), o_X6_setting_j13, if_neg bil1]
      trivial
    rw [hf, hz]
    exact ⟨Or.inr rfl, hzo, rfl, fun q => absurd q (by decide : ¬ (1 : Nat) = 0), RR_mk C H TT⟩
theorem sim_count : Sim_count RRf := by
  intro rm fm rq fr ap day grace longest spent spentIn spendings urgentSp dropped lapsedLate oldest kept RB ln tx states rl thr rd num due hash z hi rx pa p1 hR
  obtain ⟨⟨r, s, rfl, rfl, B⟩, H, TT⟩ := RR_el hR
  have C : CU (Int32.ofNat r) fm (Int32.ofNat s) fr ap day grace longest spent spentIn spendings urgentSp dropped lapsedLate z := ⟨r, s, rfl, rfl, B⟩
  have M := B.1
  have R := B.2.1
  have h12 := M.1
  have h6 := R.1
  have z0 := B.2.2.2.1.1
  have z2 := B.2.2.2.1.2.2.1
  obtain ⟨a9, n9, ha9, hn9, rfl, rfl, rfl, hall9⟩ := H
  have H : HI (Int32.ofNat a9) (Int32.ofNat n9) RB (Int32.ofNat n9) hi := ⟨a9, n9, ha9, hn9, rfl, rfl, rfl, hall9⟩
  rcases cr_ p1 0 11 with ⟨r1, r2, r3, r4⟩ | ⟨r1, r2⟩
  · obtain ⟨c, -, c2, rfl⟩ := cr_n (a := 0) (b := 11) (by omega) (by omega) r3 r4
    obtain ⟨-, x2, x3⟩ := cprop B (Int32.ofNat n9) c2
    have hf : f_X5_count (Int32.ofNat r) fm (Int32.ofNat s) day spent spentIn spendings urgentSp dropped lapsedLate (Int32.ofNat n9) (Int32.ofNat c) = (0, f_X6_counted (Int32.ofNat n9) z (Int32.ofNat c)) := by
      rw [f_X5_count, r1, if_pos rfl, ← x3]
      split <;> rfl
    have hz : f_X6_count (Int32.ofNat n9) z (Int32.ofNat c) = (f_X6_counted (Int32.ofNat n9) z (Int32.ofNat c), vm_bi false) := by
      rw [f_X6_count, r2, if_neg (vb_t rfl), f_X6_count_j16, if_pos bil0]
    have hzo : o_X6_count (Int32.ofNat n9) z (Int32.ofNat c) := by
      rw [o_X6_count, r2, if_neg (vb_t rfl), o_X6_count_j16, if_pos bil0]
      exact ⟨x2, trivial⟩
    rw [hf, hz]
    exact ⟨Or.inl rfl, hzo, rfl, fun _ => rfl, RR_mk C H TT⟩
  · skip
    have hf : f_X5_count (Int32.ofNat r) fm (Int32.ofNat s) day spent spentIn spendings urgentSp dropped lapsedLate (Int32.ofNat n9) p1 = (2, 0) := by
      rw [f_X5_count, r1, if_neg (by decide)]
    have hz : f_X6_count (Int32.ofNat n9) z p1 = (0, vm_bi true) := by
      rw [f_X6_count, r2, if_pos (vb_f rfl), f_X6_count_j16, if_neg bil1]
    have hzo : o_X6_count (Int32.ofNat n9) z p1 := by
      rw [o_X6_count, r2, if_pos (vb_f rfl), o_X6_count_j16, if_neg bil1]
      trivial
    rw [hf, hz]
    exact ⟨Or.inr rfl, hzo, rfl, fun q => absurd q (by decide : ¬ (2 : Nat) = 0), RR_mk C H TT⟩
theorem sim_digest : Sim_digest RRf := by
  intro rm fm rq fr ap day grace longest spent spentIn spendings urgentSp dropped lapsedLate oldest kept RB ln tx states rl thr rd num due hash z hi rx pa hR
  obtain ⟨⟨r, s, rfl, rfl, B⟩, H, TT⟩ := RR_el hR
  have C : CU (Int32.ofNat r) fm (Int32.ofNat s) fr ap day grace longest spent spentIn spendings urgentSp dropped lapsedLate z := ⟨r, s, rfl, rfl, B⟩
  have M := B.1
  have R := B.2.1
  have h12 := M.1
  have h6 := R.1
  have z0 := B.2.2.2.1.1
  have z2 := B.2.2.2.1.2.2.1
  obtain ⟨a9, n9, ha9, hn9, rfl, rfl, rfl, hall9⟩ := H
  have H : HI (Int32.ofNat a9) (Int32.ofNat n9) RB (Int32.ofNat n9) hi := ⟨a9, n9, ha9, hn9, rfl, rfl, rfl, hall9⟩
  obtain ⟨n, hn, rfl, rfl, t1, t2⟩ := TT
  have TT : TXR (Int32.ofNat n) tx (Int32.ofNat n) rx := ⟨n, hn, rfl, rfl, t1, t2⟩
  obtain ⟨d1, d2, d3⟩ := dig_ B (kept := Int32.ofNat n9) hn t1 13 13 0 2543 (by omega) (by omega) (by omega)
  exact ⟨d2, d3, d1, RR_mk C H TT⟩
