/-! THE WORDS OF THE START -/
theorem lx_0 : Cond.methodLinkNest "LapseMandates" 11 { cls := "LapseMandates$Book", name := "<init>", desc := "()V" } "LapseMandates" ∈ lw_tbl := List.mem_of_getElem? (i := 88) (by decide +kernel)
theorem lx_1 : Cond.methodLinkNest "LapseMandates$Book" 11 { cls := "LapseMandates$Mandates", name := "<init>", desc := "()V" } "LapseMandates" ∈ lw_tbl := List.mem_of_getElem? (i := 94) (by decide +kernel)
theorem lx_2 : Cond.methodLinkNest "LapseMandates$History" 17 { cls := "LapseMandates$Book", name := "<init>", desc := "()V" } "LapseMandates" ∈ lw_tbl := List.mem_of_getElem? (i := 181) (by decide +kernel)
theorem lx_3 : Cond.methodLinkNest "LapseMandates" 25 { cls := "LapseMandates$Text", name := "<init>", desc := "()V" } "LapseMandates" ∈ lw_tbl := List.mem_of_getElem? (i := 195) (by decide +kernel)
theorem lx_4 : Cond.fieldLinkNest "LapseMandates$Mandates" 20 "LapseMandates$Table" "rows" "I" "LapseMandates" ∈ lw_tbl := List.mem_of_getElem? (i := 111) (by decide +kernel)
theorem lx_5 : Cond.fieldLinkNest "LapseMandates$Book" 88 "LapseMandates$Table" "rows" "I" "LapseMandates" ∈ lw_tbl := List.mem_of_getElem? (i := 112) (by decide +kernel)
theorem lx_6 : Cond.fieldLinkNest "LapseMandates" 223 "LapseMandates$Table" "rows" "I" "LapseMandates" ∈ lw_tbl := List.mem_of_getElem? (i := 113) (by decide +kernel)
theorem lx_7 : Cond.fieldLinkNest "LapseMandates$Book" 38 "LapseMandates$Mandates" "table" "LLapseMandates$Table;" "LapseMandates" ∈ lw_tbl := List.mem_of_getElem? (i := 125) (by decide +kernel)
theorem lx_8 : Cond.fieldLinkNest "LapseMandates" 53 "LapseMandates$Book" "mandates" "LLapseMandates$Mandates;" "LapseMandates" ∈ lw_tbl := List.mem_of_getElem? (i := 132) (by decide +kernel)
theorem lx_9 : Cond.fieldLinkNest "LapseMandates" 219 "LapseMandates$Book" "requests" "LLapseMandates$Table;" "LapseMandates" ∈ lw_tbl := List.mem_of_getElem? (i := 134) (by decide +kernel)
theorem lx_10 : Cond.fieldLinkNest "LapseMandates" 111 "LapseMandates$Book" "day" "I" "LapseMandates" ∈ lw_tbl := List.mem_of_getElem? (i := 137) (by decide +kernel)
theorem lx_11 : Cond.fieldLinkNest "LapseMandates" 206 "LapseMandates$Book" "grace" "I" "LapseMandates" ∈ lw_tbl := List.mem_of_getElem? (i := 139) (by decide +kernel)
theorem lx_12 : Cond.fieldLinkNest "LapseMandates" 209 "LapseMandates$Book" "longestChain" "I" "LapseMandates" ∈ lw_tbl := List.mem_of_getElem? (i := 141) (by decide +kernel)
theorem lx_13 : Cond.fieldLinkNest "LapseMandates" 153 "LapseMandates$History" "kept" "I" "LapseMandates" ∈ lw_tbl := List.mem_of_getElem? (i := 185) (by decide +kernel)
theorem lx_14 : Cond.fieldLinkNest "LapseMandates" 228 "LapseMandates$Text" "length" "I" "LapseMandates" ∈ lw_tbl := List.mem_of_getElem? (i := 201) (by decide +kernel)
theorem lx_15 : Cond.stringRef RX5 106 "an urgent spending cannot be taken back" ∈ lw_tbl := List.mem_of_getElem? (i := 716) (by decide +kernel)
theorem lx_16 : Cond.stringRef RX5 115 "the days end before that" ∈ lw_tbl := List.mem_of_getElem? (i := 725) (by decide +kernel)
theorem lx_17 : Cond.stringRef RX5 131 "the buffer is full" ∈ lw_tbl := List.mem_of_getElem? (i := 769) (by decide +kernel)
theorem lx_18 : Cond.stringRef RX5 147 "the buffer is not a complete row of spendings" ∈ lw_tbl := List.mem_of_getElem? (i := 785) (by decide +kernel)
theorem lx_19 : Cond.stringRef RX5 156 "no state is saved" ∈ lw_tbl := List.mem_of_getElem? (i := 805) (by decide +kernel)
theorem lx_20 : Cond.stringRef RX5 236 "no such mandate" ∈ lw_tbl := List.mem_of_getElem? (i := 507) (by decide +kernel)
theorem lx_21 : Cond.stringRef RX5 239 "no such request" ∈ lw_tbl := List.mem_of_getElem? (i := 686) (by decide +kernel)
theorem lx_22 : Cond.stringRef RX5 241 "no such person" ∈ lw_tbl := List.mem_of_getElem? (i := 690) (by decide +kernel)
theorem lx_23 : Cond.stringRef RX5 243 "no such setting" ∈ lw_tbl := List.mem_of_getElem? (i := 749) (by decide +kernel)
theorem lx_24 : Cond.stringRef RX5 245 "out of range" ∈ lw_tbl := List.mem_of_getElem? (i := 305) (by decide +kernel)
theorem lx_25 : Cond.stringRef RX5 250 "the mandate does not stand" ∈ lw_tbl := List.mem_of_getElem? (i := 587) (by decide +kernel)
theorem lx_26 : Cond.stringRef RX5 256 "the spending cannot be asked for" ∈ lw_tbl := List.mem_of_getElem? (i := 649) (by decide +kernel)
theorem lx_27 : Cond.stringRef RX5 44 "the mandate cannot be given" ∈ lw_tbl := List.mem_of_getElem? (i := 535) (by decide +kernel)
theorem lx_28 : Cond.stringRef RX5 73 "the limits do not fit the mandates round it" ∈ lw_tbl := List.mem_of_getElem? (i := 615) (by decide +kernel)
theorem lx_29 : Cond.stringRef RX5 96 "the person cannot approve it" ∈ lw_tbl := List.mem_of_getElem? (i := 695) (by decide +kernel)
theorem lx_30 : Cond.castable "java/lang/IndexOutOfBoundsException" "java/lang/IndexOutOfBoundsException" ∈ lw_tbl := List.mem_of_getElem? (i := 500) (by decide +kernel)
theorem lx_31 : Cond.castable "java/lang/IllegalArgumentException" "java/lang/IllegalArgumentException" ∈ lw_tbl := List.mem_of_getElem? (i := 266) (by decide +kernel)
theorem lx_32 : Cond.castable "java/lang/IllegalStateException" "java/lang/IllegalStateException" ∈ lw_tbl := List.mem_of_getElem? (i := 528) (by decide +kernel)
theorem lx_33 : Cond.declares ⟨"java/lang/RuntimeException", "<init>", "(Ljava/lang/String;)V"⟩ ∈ lw_tbl := List.mem_of_getElem? (i := 268) (by decide +kernel)
theorem lx_34 : Cond.declares ⟨"java/lang/Exception", "<init>", "(Ljava/lang/String;)V"⟩ ∈ lw_tbl := List.mem_of_getElem? (i := 270) (by decide +kernel)
theorem lx_35 : Cond.declares ⟨"java/lang/Throwable", "<init>", "(Ljava/lang/String;)V"⟩ ∈ lw_tbl := List.mem_of_getElem? (i := 272) (by decide +kernel)
theorem lx_36 : Cond.laysStatic Bundle.tN "UNASSIGNED_STACK" Bundle.steD ∈ lw_tbl := List.mem_of_getElem? (i := 291) (by decide +kernel)
theorem lx_37 : Cond.initialized Bundle.tN ∈ lw_tbl := List.mem_of_getElem? (i := 70) (by decide +kernel)
theorem lx_38 : Cond.laysStatic Bundle.tN "SUPPRESSED_SENTINEL" Bundle.listD ∈ lw_tbl := List.mem_of_getElem? (i := 293) (by decide +kernel)
theorem lx_39 : Cond.arrayOver (.object "LapseMandates$Book") ∈ lw_tbl := List.mem_of_getElem? (i := 180) (by decide +kernel)
theorem lx_40 : Cond.instantiable RX0 12 ∈ lw_tbl := List.mem_of_getElem? (i := 87) (by decide +kernel)
theorem lx_41 : Cond.instantiable RX1 3 ∈ lw_tbl := List.mem_of_getElem? (i := 174) (by decide +kernel)
theorem lx_42 : Cond.instantiable RX2 1 ∈ lw_tbl := List.mem_of_getElem? (i := 93) (by decide +kernel)
theorem lx_43 : Cond.instantiable RX3 4 ∈ lw_tbl := List.mem_of_getElem? (i := 99) (by decide +kernel)
theorem lx_44 : Cond.instantiable RX4 2 ∈ lw_tbl := List.mem_of_getElem? (i := 194) (by decide +kernel)
theorem lx_45 : Cond.instantiable RX5 3 ∈ lw_tbl := List.mem_of_getElem? (i := 79) (by decide +kernel)
theorem lx_46 : Cond.instantiable RX6 11 ∈ lw_tbl := List.mem_of_getElem? (i := 886) (by decide +kernel)
theorem lx_47 : Cond.arrayClass .int ∈ lw_tbl := List.mem_of_getElem? (i := 123) (by decide +kernel)
theorem lx_48 : Cond.classLink RL 8 RX5 ∈ lw_tbl := List.mem_of_getElem? (i := 78) (by decide +kernel)
theorem lx_49 : Cond.initialized RX5 ∈ lw_tbl := List.mem_of_getElem? (i := 62) (by decide +kernel)
theorem lx_50 : Cond.classLink RL 95 RX6 ∈ lw_tbl := List.mem_of_getElem? (i := 885) (by decide +kernel)
theorem lx_51 : Cond.initialized RX6 ∈ lw_tbl := List.mem_of_getElem? (i := 69) (by decide +kernel)
theorem lx_52 : Cond.methodLink RL 94 yX5_init ∈ lw_tbl := List.mem_of_getElem? (i := 80) (by decide +kernel)
theorem lx_53 : Cond.methodLink RL 97 yX6_init ∈ lw_tbl := List.mem_of_getElem? (i := 887) (by decide +kernel)
theorem lx_54 : Cond.instanceMethod yX5_init ∈ lw_tbl := List.mem_of_getElem? (i := 81) (by decide +kernel)
theorem lx_55 : Cond.instanceMethod yX6_init ∈ lw_tbl := List.mem_of_getElem? (i := 888) (by decide +kernel)
theorem lx_56 : Cond.arrayClass .long ∈ lw_tbl := List.mem_of_getElem? (i := 1251) (by decide +kernel)
theorem lx_57 : Cond.arrayClass .double ∈ lw_tbl := List.mem_of_getElem? (i := 1252) (by decide +kernel)
theorem ln_0 : Cond.not (Cond.castable "java/lang/IllegalArgumentException" "java/lang/IndexOutOfBoundsException") ∈ flatC (Jvm.Cond.and given_1 narrow_1) := List.mem_of_getElem? (i := 13) (by decide +kernel)
theorem ln_1 : Cond.not (Cond.castable "java/lang/IllegalStateException" "java/lang/IndexOutOfBoundsException") ∈ flatC (Jvm.Cond.and given_1 narrow_1) := List.mem_of_getElem? (i := 14) (by decide +kernel)
theorem ln_2 : Cond.not (Cond.castable "java/lang/IllegalStateException" "java/lang/IllegalArgumentException") ∈ flatC (Jvm.Cond.and given_1 narrow_1) := List.mem_of_getElem? (i := 23) (by decide +kernel)
theorem ln_3 : Cond.isRef (Term.static Bundle.tN "UNASSIGNED_STACK" Bundle.steD) ∈ flatC (Jvm.Cond.and given_1 narrow_1) := List.mem_of_getElem? (i := 4) (by decide +kernel)
theorem ln_4 : Cond.isRef (Term.static Bundle.tN "SUPPRESSED_SENTINEL" Bundle.listD) ∈ flatC (Jvm.Cond.and given_1 narrow_1) := List.mem_of_getElem? (i := 5) (by decide +kernel)
theorem vm_strx {tx : String} {k : Nat} {args : Array Value} {s : State} {cur : Nat} (hc : s.vm.findClass RX5 = some cur) (h : (Cond.stringRef RX5 k tx).before args s = true) : ∃ a, vk_R RX5 k tx a s := by
  obtain ⟨k1, cf, i, a, -, -, -, -, -, h6⟩ := Cond.stringRef_spec (o := none) hc h
  exact ⟨a, vk_R.of h h6⟩
theorem vm_arrI {args : Array Value} {s : State} {ty : FieldType} (h : (Cond.arrayClass ty).before args s = true) (hq : ∀ C, ty ≠ .object C) : ∃ cA, ArrOfT s cA ty ∧ va_RA s cA ty := by
  obtain ⟨c, k, comp, h1, h2, h3⟩ := Cond.arrayClass_spec h
  refine ⟨c, fun n z => ⟨fun k h => (by cases h), k, h2, comp, h3⟩, ?_⟩
  cases ty with
  | object C => exact absurd rfl (hq C)
  | _ => exact h1
theorem vm_arrB {s : State} {C : String} (h : va_AO C s) : ∃ cA, ArrOfT s cA (.object C) ∧ va_RA s cA (.object C) := by
  obtain ⟨comp, c, k, h1, h2, h3, h4, h5⟩ := Cond.arrayOver_spec (va_AO.use (A := #[]) h)
  exact ⟨c, fun n z => ⟨fun k h => (by cases h), k, h3, comp, h4⟩, ⟨k, comp, h3, h4, h1, h5⟩⟩
theorem vm_startN {s : State} {args : Array Value} (hts : ∀ w ∈ lw_tbl, w.before args s = true) : vm_N s := ⟨va_Nw.of rfl (hts (.methodLinkNest "LapseMandates" 11 { cls := "LapseMandates$Book", name := "<init>", desc := "()V" } "LapseMandates") lx_0), va_Nw.of rfl (hts (.methodLinkNest "LapseMandates$Book" 11 { cls := "LapseMandates$Mandates", name := "<init>", desc := "()V" } "LapseMandates") lx_1), va_Nw.of rfl (hts (.methodLinkNest "LapseMandates$History" 17 { cls := "LapseMandates$Book", name := "<init>", desc := "()V" } "LapseMandates") lx_2), va_Nw.of rfl (hts (.methodLinkNest "LapseMandates" 25 { cls := "LapseMandates$Text", name := "<init>", desc := "()V" } "LapseMandates") lx_3), va_Nw.of rfl (hts (.fieldLinkNest "LapseMandates$Mandates" 20 "LapseMandates$Table" "rows" "I" "LapseMandates") lx_4), va_Nw.of rfl (hts (.fieldLinkNest "LapseMandates$Book" 88 "LapseMandates$Table" "rows" "I" "LapseMandates") lx_5), va_Nw.of rfl (hts (.fieldLinkNest "LapseMandates" 223 "LapseMandates$Table" "rows" "I" "LapseMandates") lx_6), va_Nw.of rfl (hts (.fieldLinkNest "LapseMandates$Book" 38 "LapseMandates$Mandates" "table" "LLapseMandates$Table;" "LapseMandates") lx_7), va_Nw.of rfl (hts (.fieldLinkNest "LapseMandates" 53 "LapseMandates$Book" "mandates" "LLapseMandates$Mandates;" "LapseMandates") lx_8), va_Nw.of rfl (hts (.fieldLinkNest "LapseMandates" 219 "LapseMandates$Book" "requests" "LLapseMandates$Table;" "LapseMandates") lx_9), va_Nw.of rfl (hts (.fieldLinkNest "LapseMandates" 111 "LapseMandates$Book" "day" "I" "LapseMandates") lx_10), va_Nw.of rfl (hts (.fieldLinkNest "LapseMandates" 206 "LapseMandates$Book" "grace" "I" "LapseMandates") lx_11), va_Nw.of rfl (hts (.fieldLinkNest "LapseMandates" 209 "LapseMandates$Book" "longestChain" "I" "LapseMandates") lx_12), va_Nw.of rfl (hts (.fieldLinkNest "LapseMandates" 153 "LapseMandates$History" "kept" "I" "LapseMandates") lx_13), va_Nw.of rfl (hts (.fieldLinkNest "LapseMandates" 228 "LapseMandates$Text" "length" "I" "LapseMandates") lx_14)⟩
theorem vm_startY {s : State} {args : Array Value} {cur : Nat} (hc : s.vm.findClass RX5 = some cur) (hts : ∀ w ∈ lw_tbl, w.before args s = true) : ∃ sa, vm_Y sa s := by
  obtain ⟨a106, h106⟩ := vm_strx hc (hts (.stringRef RX5 106 "an urgent spending cannot be taken back") lx_15)
  obtain ⟨a115, h115⟩ := vm_strx hc (hts (.stringRef RX5 115 "the days end before that") lx_16)
  obtain ⟨a131, h131⟩ := vm_strx hc (hts (.stringRef RX5 131 "the buffer is full") lx_17)
  obtain ⟨a147, h147⟩ := vm_strx hc (hts (.stringRef RX5 147 "the buffer is not a complete row of spendings") lx_18)
  obtain ⟨a156, h156⟩ := vm_strx hc (hts (.stringRef RX5 156 "no state is saved") lx_19)
  obtain ⟨a236, h236⟩ := vm_strx hc (hts (.stringRef RX5 236 "no such mandate") lx_20)
  obtain ⟨a239, h239⟩ := vm_strx hc (hts (.stringRef RX5 239 "no such request") lx_21)
  obtain ⟨a241, h241⟩ := vm_strx hc (hts (.stringRef RX5 241 "no such person") lx_22)
  obtain ⟨a243, h243⟩ := vm_strx hc (hts (.stringRef RX5 243 "no such setting") lx_23)
  obtain ⟨a245, h245⟩ := vm_strx hc (hts (.stringRef RX5 245 "out of range") lx_24)
  obtain ⟨a250, h250⟩ := vm_strx hc (hts (.stringRef RX5 250 "the mandate does not stand") lx_25)
  obtain ⟨a256, h256⟩ := vm_strx hc (hts (.stringRef RX5 256 "the spending cannot be asked for") lx_26)
  obtain ⟨a44, h44⟩ := vm_strx hc (hts (.stringRef RX5 44 "the mandate cannot be given") lx_27)
  obtain ⟨a73, h73⟩ := vm_strx hc (hts (.stringRef RX5 73 "the limits do not fit the mandates round it") lx_28)
  obtain ⟨a96, h96⟩ := vm_strx hc (hts (.stringRef RX5 96 "the person cannot approve it") lx_29)
  exact ⟨(fun k => if k = 106 then a106 else if k = 115 then a115 else if k = 131 then a131 else if k = 147 then a147 else if k = 156 then a156 else if k = 236 then a236 else if k = 239 then a239 else if k = 241 then a241 else if k = 243 then a243 else if k = 245 then a245 else if k = 250 then a250 else if k = 256 then a256 else if k = 44 then a44 else if k = 73 then a73 else if k = 96 then a96 else 0), h106, h115, h131, h147, h156, h236, h239, h241, h243, h245, h250, h256, h44, h73, h96, va_Nw.of rfl (hts (.castable "java/lang/IndexOutOfBoundsException" "java/lang/IndexOutOfBoundsException") lx_30), va_Nw.of rfl (hts (.castable "java/lang/IllegalArgumentException" "java/lang/IllegalArgumentException") lx_31), va_Nw.of rfl (hts (.castable "java/lang/IllegalStateException" "java/lang/IllegalStateException") lx_32), va_Nw.of rfl (hts (.declares ⟨"java/lang/RuntimeException", "<init>", "(Ljava/lang/String;)V"⟩) lx_33), va_Nw.of rfl (hts (.declares ⟨"java/lang/Exception", "<init>", "(Ljava/lang/String;)V"⟩) lx_34), va_Nw.of rfl (hts (.declares ⟨"java/lang/Throwable", "<init>", "(Ljava/lang/String;)V"⟩) lx_35)⟩
theorem vm_startC {s : State} {args : Array Value} (hgv : ∀ w ∈ flatC (Jvm.Cond.and given_1 narrow_1), w.before args s = true) : vm_C s := ⟨va_Nc.of (hgv _ ln_0), va_Nc.of (hgv _ ln_1), va_Nc.of (hgv _ ln_2)⟩
theorem vm_startZ {s : State} {args : Array Value} (hts : ∀ w ∈ lw_tbl, w.before args s = true) (hgv : ∀ w ∈ flatC (Jvm.Cond.and given_1 narrow_1), w.before args s = true) : vm_Z (fun q : Nat => s.heap.size ≤ q) s s.heap := ⟨vx_Zqof (hts (.laysStatic Bundle.tN "UNASSIGNED_STACK" Bundle.steD) lx_36) (hts (.initialized Bundle.tN) lx_37) (hgv _ ln_3) (fun a h => Nat.not_le.mpr h), vx_Zqof (hts (.laysStatic Bundle.tN "SUPPRESSED_SENTINEL" Bundle.listD) lx_38) (hts (.initialized Bundle.tN) lx_37) (hgv _ ln_4) (fun a h => Nat.not_le.mpr h)⟩
theorem vm_startK {s : State} {args : Array Value} (hts : ∀ w ∈ lw_tbl, w.before args s = true) : va_AO "LapseMandates$Book" s ∧ ∃ (dC : Nat → ClassId) (dI : Nat → Nat → Nat) (cI cB : ClassId), va_K (dC, dI) vwCl (vm_ty cI cB) s := by
  have hAO : va_AO "LapseMandates$Book" s := va_AO.of (hts (.arrayOver (.object "LapseMandates$Book")) lx_39)
  have hts2 : ∀ w ∈ wsL_law, w.before args s = true := fun w h => hts w (wsL_law_in w h)
  obtain ⟨c0, iS0, hKn0⟩ := u_known (C := RX0) (T := TX0) (N := 12) (n := 12) hts2 inlX0 (hts (.instantiable RX0 12) lx_40)
  obtain ⟨c1, iS1, hKn1⟩ := u_known (C := RX1) (T := TX1) (N := 3) (n := 3) hts2 inlX1 (hts (.instantiable RX1 3) lx_41)
  obtain ⟨c2, iS2, hKn2⟩ := u_known (C := RX2) (T := TX2) (N := 1) (n := 1) hts2 inlX2 (hts (.instantiable RX2 1) lx_42)
  obtain ⟨c3, iS3, hKn3⟩ := u_known (C := RX3) (T := TX3) (N := 4) (n := 4) hts2 inlX3 (hts (.instantiable RX3 4) lx_43)
  obtain ⟨c4, iS4, hKn4⟩ := u_known (C := RX4) (T := TX4) (N := 2) (n := 2) hts2 inlX4 (hts (.instantiable RX4 2) lx_44)
  obtain ⟨c5, iS5, hKn5⟩ := u_known (C := RX5) (T := TX5) (N := 3) (n := 3) hts2 inlX5 (hts (.instantiable RX5 3) lx_45)
  obtain ⟨c6, iS6, hKn6⟩ := u_known (C := RX6) (T := TX6) (N := 11) (n := 11) hts2 inlX6 (hts (.instantiable RX6 11) lx_46)
  obtain ⟨cI, hI1, hI2⟩ := vm_arrI (hts (.arrayClass .int) lx_47) (fun C h => by cases h)
  obtain ⟨cB, hB1, hB2⟩ := vm_arrB hAO
  refine ⟨hAO, fun k => if k = 0 then c0 else if k = 1 then c1 else if k = 2 then c2 else if k = 3 then c3 else if k = 4 then c4 else if k = 5 then c5 else c6, fun k => if k = 0 then iS0 else if k = 1 then iS1 else if k = 2 then iS2 else if k = 3 then iS3 else if k = 4 then iS4 else if k = 5 then iS5 else iS6, cI, cB, ?_, ?_⟩
  · intro k q hq
    match k, hq with
    | 0, hq => cases hq; exact hKn0
    | 1, hq => cases hq; exact hKn1
    | 2, hq => cases hq; exact hKn2
    | 3, hq => cases hq; exact hKn3
    | 4, hq => cases hq; exact hKn4
    | 5, hq => cases hq; exact hKn5
    | 6, hq => cases hq; exact hKn6
    | k + 7, hq => simp [vwCl] at hq
  · intro k q hq
    match k, hq with
    | 0, hq => cases hq; exact ⟨hI1, hI2⟩
    | 1, hq => cases hq; exact ⟨hB1, hB2⟩
    | k + 2, hq => simp [vm_ty] at hq
