theorem tb {w : Cond} (n : Nat) (h : tables_1[n]? = some w) : w ∈ lw_tbl := List.mem_append_right _ (List.mem_of_getElem? h)
section WORLD
variable {b : Nat} {s : State}
theorem world_K (hts : ∀ w ∈ lw_tbl, w.before #[Value.ref b] s = true) : ∃ D : va_G, va_K D cls (tys D) s := by
  have hts2 : ∀ w ∈ wsL_law, w.before #[Value.ref b] s = true := fun w h => hts w (wsL_law_in w h)
  obtain ⟨c0, i0, k0⟩ := u_known (C := RX0) (T := TX0) (N := 4) (n := 4) hts2 inlX0 (hts2 _ mB_X0)
  obtain ⟨c1, i1, k1⟩ := u_known (C := RX1) (T := TX1) (N := 5) (n := 5) hts2 inlX1 (hts2 _ mB_X1)
  obtain ⟨c2, i2, k2⟩ := u_known (C := RX2) (T := TX2) (N := 2) (n := 2) hts2 inlX2 (hts2 _ mB_X2)
  obtain ⟨c3, i3, k3⟩ := u_known (C := RX3) (T := TX3) (N := 13) (n := 13) hts2 inlX3 (hts2 _ mB_X3)
  obtain ⟨c4, i4, k4⟩ := u_known (C := RX4) (T := TX4) (N := 3) (n := 3) hts2 inlX4 (hts2 _ mB_X4)
  obtain ⟨c5, i5, k5⟩ := u_known (C := RX5) (T := TX5) (N := 5) (n := 5) hts2 inlX5 (hts2 _ mB_X5)
  obtain ⟨c6, i6, k6⟩ := u_known (C := RX6) (T := TX6) (N := 15) (n := 15) hts2 inlX6 (hts2 _ mB_X6)
  obtain ⟨c7, i7, k7⟩ := u_known (C := RJx4a65c) (T := TJx4a65c) (N := 3) (n := 3) hts2 inlJx4a65c (hts2 _ mB_Jx4a65c)
  obtain ⟨c_int, k_int, q_int, f_int, g_int, h_int⟩ := Cond.arrayClass_spec (hts (.arrayClass .int) (tb 70 (by decide +kernel)))
  obtain ⟨c_long, k_long, q_long, f_long, g_long, h_long⟩ := Cond.arrayClass_spec (hts (.arrayClass .long) (tb 1194 (by decide +kernel)))
  obtain ⟨c_double, k_double, q_double, f_double, g_double, h_double⟩ := Cond.arrayClass_spec (hts (.arrayClass .double) (tb 1195 (by decide +kernel)))
  obtain ⟨q_tr, c_tr, k_tr, e_tr, -, g_tr, h_tr, f_tr⟩ := Cond.arrayOver_spec (hts (.arrayOver (.object "KeyStage$Track")) (tb 328 (by decide +kernel)))
  obtain ⟨q_ob, c_ob, k_ob, e_ob, -, g_ob, h_ob, f_ob⟩ := Cond.arrayOver_spec (hts (.arrayOver (.object "java/lang/Object")) (tb 410 (by decide +kernel)))
  refine ⟨(fun k => if k = 0 then c0 else if k = 1 then c1 else if k = 2 then c2 else if k = 3 then c3 else if k = 4 then c4 else if k = 5 then c5 else if k = 6 then c6 else if k = 7 then c7 else if k = 100 then c_int else if k = 101 then c_long else if k = 102 then c_double else if k = 103 then c_tr else c_ob, fun k => if k = 0 then i0 else if k = 1 then i1 else if k = 2 then i2 else if k = 3 then i3 else if k = 4 then i4 else if k = 5 then i5 else if k = 6 then i6 else i7), fun k q hq => ?_, fun k q hq => ?_⟩
  · match k, hq with
    | 0, hq => cases hq; exact k0
    | 1, hq => cases hq; exact k1
    | 2, hq => cases hq; exact k2
    | 3, hq => cases hq; exact k3
    | 4, hq => cases hq; exact k4
    | 5, hq => cases hq; exact k5
    | 6, hq => cases hq; exact k6
    | 7, hq => cases hq; exact k7
    | k + 8, hq => simp [cls] at hq
  · match k, hq with
    | 0, hq => cases hq; exact ⟨fun n z => ⟨fun k h => (by cases h), k_int, g_int, q_int, h_int⟩, f_int⟩
    | 1, hq => cases hq; exact ⟨fun n z => ⟨fun k h => (by cases h), k_long, g_long, q_long, h_long⟩, f_long⟩
    | 2, hq => cases hq; exact ⟨fun n z => ⟨fun k h => (by cases h), k_double, g_double, q_double, h_double⟩, f_double⟩
    | 3, hq => cases hq; exact ⟨fun n z => ⟨fun k h => (by cases h), k_tr, g_tr, q_tr, h_tr⟩, k_tr, q_tr, g_tr, h_tr, e_tr, f_tr⟩
    | 4, hq => cases hq; exact ⟨fun n z => ⟨fun k h => (by cases h), k_ob, g_ob, q_ob, h_ob⟩, k_ob, q_ob, g_ob, h_ob, e_ob, f_ob⟩
    | k + 5, hq => simp [tys] at hq
theorem world_nwC (hts : ∀ w ∈ lw_tbl, w.before #[Value.ref b] s = true) : ∀ q ∈ nwC, va_Nw (.castable q.1 q.2) s := by
  intro q hq
  simp only [nwC, List.mem_cons, List.not_mem_nil, or_false] at hq
  rcases hq with rfl | rfl | rfl | rfl | rfl
  · exact va_Nw.of rfl (hts (.castable "KeyStage$Clip" "java/lang/Object") (tb 1205 (by decide +kernel)))
  · exact va_Nw.of rfl (hts (.castable "KeyStage$Strip" "java/lang/Object") (tb 1207 (by decide +kernel)))
  · exact va_Nw.of rfl (hts (.castable "java/lang/IllegalArgumentException" "java/lang/IllegalArgumentException") (tb 238 (by decide +kernel)))
  · exact va_Nw.of rfl (hts (.castable "java/lang/IllegalStateException" "java/lang/IllegalStateException") (tb 306 (by decide +kernel)))
  · exact va_Nw.of rfl (hts (.castable "java/lang/IndexOutOfBoundsException" "java/lang/IndexOutOfBoundsException") (tb 434 (by decide +kernel)))
theorem world_nwN (hts : ∀ w ∈ lw_tbl, w.before #[Value.ref b] s = true) (hgv : ∀ c ∈ flatC (Jvm.Cond.and given_1 narrow_1), c.before #[Value.ref b] s = true) : ∀ q ∈ nwN, va_Nc q.1 q.2 s := by
  intro q hq
  simp only [nwN, List.mem_cons, List.not_mem_nil, or_false] at hq
  rcases hq with rfl | rfl | rfl | rfl | rfl | rfl
  · exact va_Nc.of (hgv (.not (.castable "java/lang/IllegalArgumentException" "java/lang/IllegalStateException")) (by decide +kernel))
  · exact va_Nc.of (hgv (.not (.castable "java/lang/IllegalArgumentException" "java/lang/IndexOutOfBoundsException")) (by decide +kernel))
  · exact va_Nc.of (hgv (.not (.castable "java/lang/IllegalStateException" "java/lang/IllegalArgumentException")) (by decide +kernel))
  · exact va_Nc.of (hgv (.not (.castable "java/lang/IllegalStateException" "java/lang/IndexOutOfBoundsException")) (by decide +kernel))
  · exact va_Nc.of (hgv (.not (.castable "java/lang/IndexOutOfBoundsException" "java/lang/IllegalArgumentException")) (by decide +kernel))
  · exact va_Nc.of (hgv (.not (.castable "java/lang/IndexOutOfBoundsException" "java/lang/IllegalStateException")) (by decide +kernel))
theorem world_nwA (hts : ∀ w ∈ lw_tbl, w.before #[Value.ref b] s = true) : ∀ q ∈ nwA, va_AO q s := by
  intro q hq
  simp only [nwA, List.mem_cons, List.not_mem_nil, or_false] at hq
  rcases hq with rfl | rfl
  · exact va_AO.of (hts (.arrayOver (.object "KeyStage$Track")) (tb 328 (by decide +kernel)))
  · exact va_AO.of (hts (.arrayOver (.object "java/lang/Object")) (tb 410 (by decide +kernel)))
theorem world_nwD (hts : ∀ w ∈ lw_tbl, w.before #[Value.ref b] s = true) : ∀ q ∈ nwD, va_Nw (.declares q) s := by
  intro q hq
  simp only [nwD, List.mem_cons, List.not_mem_nil, or_false] at hq
  rcases hq with rfl | rfl | rfl
  · exact va_Nw.of rfl (hts (.declares ⟨"java/lang/RuntimeException", "<init>", "(Ljava/lang/String;)V"⟩) (tb 240 (by decide +kernel)))
  · exact va_Nw.of rfl (hts (.declares ⟨"java/lang/Exception", "<init>", "(Ljava/lang/String;)V"⟩) (tb 242 (by decide +kernel)))
  · exact va_Nw.of rfl (hts (.declares ⟨"java/lang/Throwable", "<init>", "(Ljava/lang/String;)V"⟩) (tb 244 (by decide +kernel)))
theorem world_str {k : Nat} {tx : String} (hts : ∀ w ∈ lw_tbl, w.before #[Value.ref b] s = true) (hgv : ∀ c ∈ flatC (Jvm.Cond.and given_1 narrow_1), c.before #[Value.ref b] s = true) (h1 : Cond.stringRef "KeyStage" k tx ∈ lw_tbl) (h2 : Cond.exactly (.string "KeyStage" k) "java/lang/String" ∈ flatC (Jvm.Cond.and given_1 narrow_1)) : ∃ a, vk_R "KeyStage" k tx a s := by
  obtain ⟨a, c, cell, k1, h3, -⟩ := Cond.exactly_spec (hgv _ h2)
  exact ⟨a, vk_R.of (hts _ h1) h3⟩
theorem world_nwS (hts : ∀ w ∈ lw_tbl, w.before #[Value.ref b] s = true) (hgv : ∀ c ∈ flatC (Jvm.Cond.and given_1 narrow_1), c.before #[Value.ref b] s = true) : ∀ q ∈ nwS, ∃ a, vk_R q.1 q.2.1 q.2.2 a s := by
  intro q hq
  simp only [nwS, List.mem_cons, List.not_mem_nil, or_false] at hq
  rcases hq with rfl | rfl | rfl | rfl | rfl | rfl | rfl | rfl | rfl | rfl | rfl | rfl | rfl | rfl | rfl | rfl | rfl | rfl | rfl | rfl | rfl | rfl | rfl | rfl | rfl | rfl | rfl | rfl | rfl | rfl
  · exact world_str hts hgv (tb 277 (by decide +kernel)) (by decide +kernel)
  · exact world_str hts hgv (tb 313 (by decide +kernel)) (by decide +kernel)
  · exact world_str hts hgv (tb 441 (by decide +kernel)) (by decide +kernel)
  · exact world_str hts hgv (tb 467 (by decide +kernel)) (by decide +kernel)
  · exact world_str hts hgv (tb 471 (by decide +kernel)) (by decide +kernel)
  · exact world_str hts hgv (tb 482 (by decide +kernel)) (by decide +kernel)
  · exact world_str hts hgv (tb 500 (by decide +kernel)) (by decide +kernel)
  · exact world_str hts hgv (tb 523 (by decide +kernel)) (by decide +kernel)
  · exact world_str hts hgv (tb 532 (by decide +kernel)) (by decide +kernel)
  · exact world_str hts hgv (tb 533 (by decide +kernel)) (by decide +kernel)
  · exact world_str hts hgv (tb 558 (by decide +kernel)) (by decide +kernel)
  · exact world_str hts hgv (tb 559 (by decide +kernel)) (by decide +kernel)
  · exact world_str hts hgv (tb 560 (by decide +kernel)) (by decide +kernel)
  · exact world_str hts hgv (tb 574 (by decide +kernel)) (by decide +kernel)
  · exact world_str hts hgv (tb 614 (by decide +kernel)) (by decide +kernel)
  · exact world_str hts hgv (tb 628 (by decide +kernel)) (by decide +kernel)
  · exact world_str hts hgv (tb 645 (by decide +kernel)) (by decide +kernel)
  · exact world_str hts hgv (tb 675 (by decide +kernel)) (by decide +kernel)
  · exact world_str hts hgv (tb 676 (by decide +kernel)) (by decide +kernel)
  · exact world_str hts hgv (tb 685 (by decide +kernel)) (by decide +kernel)
  · exact world_str hts hgv (tb 686 (by decide +kernel)) (by decide +kernel)
  · exact world_str hts hgv (tb 748 (by decide +kernel)) (by decide +kernel)
  · exact world_str hts hgv (tb 769 (by decide +kernel)) (by decide +kernel)
  · exact world_str hts hgv (tb 777 (by decide +kernel)) (by decide +kernel)
  · exact world_str hts hgv (tb 785 (by decide +kernel)) (by decide +kernel)
  · exact world_str hts hgv (tb 793 (by decide +kernel)) (by decide +kernel)
  · exact world_str hts hgv (tb 805 (by decide +kernel)) (by decide +kernel)
  · exact world_str hts hgv (tb 860 (by decide +kernel)) (by decide +kernel)
  · exact world_str hts hgv (tb 875 (by decide +kernel)) (by decide +kernel)
  · exact world_str hts hgv (tb 911 (by decide +kernel)) (by decide +kernel)
theorem world_nwF (hts : ∀ w ∈ lw_tbl, w.before #[Value.ref b] s = true) : ∀ q ∈ nwF, va_Nw (.fieldLinkNest q.1 q.2.1 q.2.2.1 q.2.2.2.1 q.2.2.2.2.1 q.2.2.2.2.2) s := by
  intro q hq
  simp only [nwF, List.mem_cons, List.not_mem_nil, or_false] at hq
  rcases hq with rfl | rfl | rfl | rfl | rfl | rfl | rfl | rfl | rfl | rfl | rfl | rfl | rfl | rfl | rfl | rfl
  · exact va_Nw.of rfl (hts (.fieldLinkNest "KeyStage" 77 "KeyStage$Clip" "length" "I" "KeyStage") (tb 349 (by decide +kernel)))
  · exact va_Nw.of rfl (hts (.fieldLinkNest "KeyStage" 200 "KeyStage$Strip" "p" "I" "KeyStage") (tb 699 (by decide +kernel)))
  · exact va_Nw.of rfl (hts (.fieldLinkNest "KeyStage" 203 "KeyStage$Strip" "q" "I" "KeyStage") (tb 701 (by decide +kernel)))
  · exact va_Nw.of rfl (hts (.fieldLinkNest "KeyStage" 211 "KeyStage$Strip" "layer" "I" "KeyStage") (tb 703 (by decide +kernel)))
  · exact va_Nw.of rfl (hts (.fieldLinkNest "KeyStage" 214 "KeyStage$Strip" "weight" "I" "KeyStage") (tb 705 (by decide +kernel)))
  · exact va_Nw.of rfl (hts (.fieldLinkNest "KeyStage" 217 "KeyStage$Strip" "isAdded" "Z" "KeyStage") (tb 707 (by decide +kernel)))
  · exact va_Nw.of rfl (hts (.fieldLinkNest "KeyStage" 221 "KeyStage$Strip" "isHeld" "Z" "KeyStage") (tb 709 (by decide +kernel)))
  · exact va_Nw.of rfl (hts (.fieldLinkNest "KeyStage" 226 "KeyStage$Strip" "fadeIn" "I" "KeyStage") (tb 711 (by decide +kernel)))
  · exact va_Nw.of rfl (hts (.fieldLinkNest "KeyStage" 229 "KeyStage$Strip" "fadeOut" "I" "KeyStage") (tb 713 (by decide +kernel)))
  · exact va_Nw.of rfl (hts (.fieldLinkNest "KeyStage" 274 "KeyStage$Notes" "count" "I" "KeyStage") (tb 92 (by decide +kernel)))
  · exact va_Nw.of rfl (hts (.fieldLinkNest "KeyStage" 304 "KeyStage$Strip" "clip" "LKeyStage$Clip;" "KeyStage") (tb 692 (by decide +kernel)))
  · exact va_Nw.of rfl (hts (.fieldLinkNest "KeyStage" 308 "KeyStage$Strip" "rounds" "I" "KeyStage") (tb 696 (by decide +kernel)))
  · exact va_Nw.of rfl (hts (.fieldLinkNest "KeyStage" 314 "KeyStage$Clip" "cueTimes" "LKeyStage$Row;" "KeyStage") (tb 352 (by decide +kernel)))
  · exact va_Nw.of rfl (hts (.fieldLinkNest "KeyStage" 320 "KeyStage$Clip" "cueNumbers" "LKeyStage$Row;" "KeyStage") (tb 354 (by decide +kernel)))
  · exact va_Nw.of rfl (hts (.fieldLinkNest "KeyStage$Clip" 73 "KeyStage$Track" "times" "LKeyStage$Row;" "KeyStage") (tb 337 (by decide +kernel)))
  · exact va_Nw.of rfl (hts (.fieldLinkNest "KeyStage$Strip" 57 "KeyStage$Clip" "length" "I" "KeyStage") (tb 348 (by decide +kernel)))
theorem world_nwM (hts : ∀ w ∈ lw_tbl, w.before #[Value.ref b] s = true) : ∀ q ∈ nwM, va_Nw (.methodLinkNest q.1 q.2.1 q.2.2.1 q.2.2.2) s := by
  intro q hq
  simp only [nwM, List.mem_cons, List.not_mem_nil, or_false] at hq
  rcases hq with rfl | rfl | rfl | rfl | rfl | rfl | rfl | rfl | rfl | rfl | rfl | rfl
  · exact va_Nw.of rfl (hts (.methodLinkNest "KeyStage" 36 ⟨"KeyStage$Notes", "<init>", "()V"⟩ "KeyStage") (tb 81 (by decide +kernel)))
  · exact va_Nw.of rfl (hts (.methodLinkNest "KeyStage$Clip" 33 ⟨"KeyStage$Track", "<init>", "()V"⟩ "KeyStage") (tb 330 (by decide +kernel)))
  · exact va_Nw.of rfl (hts (.methodLinkNest "KeyStage$Clip" 65 ⟨"KeyStage", "cut", "(II)I"⟩ "KeyStage") (tb 626 (by decide +kernel)))
  · exact va_Nw.of rfl (hts (.methodLinkNest "KeyStage$Clip" 69 ⟨"KeyStage", "isIn", "(III)Z"⟩ "KeyStage") (tb 627 (by decide +kernel)))
  · exact va_Nw.of rfl (hts (.methodLinkNest "KeyStage$Clip" 79 ⟨"KeyStage", "mixed", "(JI)J"⟩ "KeyStage") (tb 184 (by decide +kernel)))
  · exact va_Nw.of rfl (hts (.methodLinkNest "KeyStage$Notes" 52 ⟨"KeyStage", "mixed", "(JI)J"⟩ "KeyStage") (tb 217 (by decide +kernel)))
  · exact va_Nw.of rfl (hts (.methodLinkNest "KeyStage$Row" 35 ⟨"KeyStage", "cut", "(II)I"⟩ "KeyStage") (tb 637 (by decide +kernel)))
  · exact va_Nw.of rfl (hts (.methodLinkNest "KeyStage$Strip" 62 ⟨"KeyStage", "roundedUp", "(II)I"⟩ "KeyStage") (tb 156 (by decide +kernel)))
  · exact va_Nw.of rfl (hts (.methodLinkNest "KeyStage$Strip" 73 ⟨"KeyStage", "cut", "(II)I"⟩ "KeyStage") (tb 814 (by decide +kernel)))
  · exact va_Nw.of rfl (hts (.methodLinkNest "KeyStage$Strip" 85 ⟨"KeyStage", "rounded", "(JJ)I"⟩ "KeyStage") (tb 824 (by decide +kernel)))
  · exact va_Nw.of rfl (hts (.methodLinkNest "KeyStage$Track" 55 ⟨"KeyStage", "rounded", "(JJ)I"⟩ "KeyStage") (tb 542 (by decide +kernel)))
  · exact va_Nw.of rfl (hts (.methodLinkNest "KeyStage$Track" 75 ⟨"KeyStage", "cut", "(II)I"⟩ "KeyStage") (tb 623 (by decide +kernel)))
theorem world_G (hts : ∀ w ∈ lw_tbl, w.before #[Value.ref b] s = true) (hgv : ∀ c ∈ flatC (Jvm.Cond.and given_1 narrow_1), c.before #[Value.ref b] s = true) : ∃ D : va_G, GK D s := by
  obtain ⟨D, h⟩ := world_K hts
  exact ⟨D, ⟨h, world_nwC hts, world_nwN hts hgv, world_nwA hts, world_nwS hts hgv, world_nwD hts⟩, world_nwF hts, world_nwM hts⟩
theorem world_ZU (hts : ∀ w ∈ lw_tbl, w.before #[Value.ref b] s = true) (hgv : ∀ c ∈ flatC (Jvm.Cond.and given_1 narrow_1), c.before #[Value.ref b] s = true) : ZU (fun q => s.heap.size ≤ q) s s.heap :=
  ⟨vx_Zqof (hts (.laysStatic "java/lang/Throwable" "UNASSIGNED_STACK" "[Ljava/lang/StackTraceElement;") (tb 263 (by decide +kernel))) (hts (.initialized "java/lang/Throwable") (tb 8 (by decide +kernel))) (hgv (.isRef (.static "java/lang/Throwable" "UNASSIGNED_STACK" "[Ljava/lang/StackTraceElement;")) (by decide +kernel)) (fun a h => Nat.not_le.mpr h),
   vx_Zqof (hts (.laysStatic "java/lang/Throwable" "SUPPRESSED_SENTINEL" "Ljava/util/List;") (tb 265 (by decide +kernel))) (hts (.initialized "java/lang/Throwable") (tb 8 (by decide +kernel))) (hgv (.isRef (.static "java/lang/Throwable" "SUPPRESSED_SENTINEL" "Ljava/util/List;")) (by decide +kernel)) (fun a h => Nat.not_le.mpr h)⟩
theorem world_ZL (hts : ∀ w ∈ lw_tbl, w.before #[Value.ref b] s = true) (hgv : ∀ c ∈ flatC (Jvm.Cond.and given_1 narrow_1), c.before #[Value.ref b] s = true) : ∃ z, ZL z (fun q => s.heap.size ≤ q) s := by
  obtain ⟨z, h1, h2⟩ := va_Tof (A := fun q => s.heap.size ≤ q) (N := 0) (f := fun _ => .null) (by decide) (hgv (.arrayOf (.static "java/util/ArrayList" "DEFAULTCAPACITY_EMPTY_ELEMENTDATA" "[Ljava/lang/Object;") (.object "java/lang/Object")) (by decide +kernel)) (va_eqt (z := 0) (hgv (.eq (.length (.static "java/util/ArrayList" "DEFAULTCAPACITY_EMPTY_ELEMENTDATA" "[Ljava/lang/Object;")) (.int 0)) (by decide +kernel))) (fun j h => absurd h (Nat.not_lt_zero j)) (fun a h => Nat.not_le.mpr h)
  exact ⟨z, va_Zref (hts (.laysStatic "java/util/ArrayList" "DEFAULTCAPACITY_EMPTY_ELEMENTDATA" "[Ljava/lang/Object;") (tb 44 (by decide +kernel))) (hts (.initialized "java/util/ArrayList") (tb 4 (by decide +kernel))) h1 (fun a h => Nat.not_le.mpr h), h2⟩
theorem world_W2 (hts : ∀ w ∈ lw_tbl, w.before #[Value.ref b] s = true) : ∀ w ∈ wsL2, w.before #[Value.ref b] s = true := fun w h => (List.mem_cons.mp h).elim (fun e => by rw [e]; exact hts (.classLink "KeyStageLaw" 15 "java/lang/IllegalStateException") (tb 228 (by decide +kernel))) (fun h => hts w (wsL_law_in w h))
end WORLD
