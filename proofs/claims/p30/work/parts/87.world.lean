theorem tb {w : Cond} (n : Nat) (h : tables_1[n]? = some w) : w ∈ lw_tbl := List.mem_append_right _ (List.mem_of_getElem? h)
section WORLD
variable {b : Nat} {s : State}
theorem world_K (hts : ∀ w ∈ lw_tbl, w.before #[Value.ref b] s = true) : ∃ D : va_G, va_K D cls (tys D) s := by
  have hts2 : ∀ w ∈ wsL_law, w.before #[Value.ref b] s = true := fun w h => hts w (wsL_law_in w h)
  obtain ⟨c0, i0, k0⟩ := u_known (C := RX0) (T := TX0) (N := 4) (n := 4) hts2 inlX0 (hts2 _ mB_X0)
  obtain ⟨c1, i1, k1⟩ := u_known (C := RX1) (T := TX1) (N := 5) (n := 5) hts2 inlX1 (hts2 _ mB_X1)
  obtain ⟨c2, i2, k2⟩ := u_known (C := RX2) (T := TX2) (N := 2) (n := 2) hts2 inlX2 (hts2 _ mB_X2)
  obtain ⟨c3, i3, k3⟩ := u_known (C := RX3) (T := TX3) (N := 13) (n := 13) hts2 inlX3 (hts2 _ mB_X3)
  obtain ⟨c4, i4, k4⟩ := u_known (C := RX4) (T := TX4) (N := 3) (n := 3) hts2 inlX4 (hts2 _ mB_X4)
  obtain ⟨c5, i5, k5⟩ := u_known (C := RX5) (T := TX5) (N := 5) (n := 5) hts2 inlX5 (hts2 _ mB_X5)
  obtain ⟨c6, i6, k6⟩ := u_known (C := RX5) (T := TX5) (N := 5) (n := 5) hts2 inlX5 (hts2 _ mB_X5)
  obtain ⟨c7, i7, k7⟩ := u_known (C := RJx4a65c) (T := TJx4a65c) (N := 3) (n := 3) hts2 inlJx4a65c (hts2 _ mB_Jx4a65c)
  obtain ⟨c_int, k_int, q_int, f_int, g_int, h_int⟩ := Cond.arrayClass_spec (hts (.arrayClass .int) (tb 69 (by decide +kernel)))
  obtain ⟨q_tr, c_tr, k_tr, e_tr, -, g_tr, h_tr, f_tr⟩ := Cond.arrayOver_spec (hts (.arrayOver (.object "KeyStage$Track")) (tb 548 (by decide +kernel)))
  obtain ⟨q_ob, c_ob, k_ob, e_ob, -, g_ob, h_ob, f_ob⟩ := Cond.arrayOver_spec (hts (.arrayOver (.object "java/lang/Object")) (tb 627 (by decide +kernel)))
  refine ⟨(fun k => if k = 0 then c0 else if k = 1 then c1 else if k = 2 then c2 else if k = 3 then c3 else if k = 4 then c4 else if k = 5 then c5 else if k = 6 then c6 else if k = 7 then c7 else if k = 100 then c_int else if k = 101 then c_int else if k = 102 then c_int else if k = 103 then c_tr else c_ob, fun k => if k = 0 then i0 else if k = 1 then i1 else if k = 2 then i2 else if k = 3 then i3 else if k = 4 then i4 else if k = 5 then i5 else if k = 6 then i6 else i7), fun k q hq => ?_, fun k q hq => ?_⟩
  · match k, hq with
    | 0, hq => cases hq; exact k0
    | 1, hq => cases hq; exact k1
    | 2, hq => cases hq; exact k2
    | 3, hq => cases hq; exact k3
    | 4, hq => cases hq; exact k4
    | 5, hq => cases hq; exact k5
    | 6, hq => cases hq; exact k6
    | 7, hq => cases hq; exact k7
    | k + 8, hq => simp [cls] at hq
  · match k, hq with
    | 0, hq => cases hq; exact ⟨fun n z => ⟨fun k h => (by cases h), k_int, g_int, q_int, h_int⟩, f_int⟩
    | 1, hq => cases hq; exact ⟨fun n z => ⟨fun k h => (by cases h), k_int, g_int, q_int, h_int⟩, f_int⟩
    | 2, hq => cases hq; exact ⟨fun n z => ⟨fun k h => (by cases h), k_int, g_int, q_int, h_int⟩, f_int⟩
    | 3, hq => cases hq; exact ⟨fun n z => ⟨fun k h => (by cases h), k_tr, g_tr, q_tr, h_tr⟩, k_tr, q_tr, g_tr, h_tr, e_tr, f_tr⟩
    | 4, hq => cases hq; exact ⟨fun n z => ⟨fun k h => (by cases h), k_ob, g_ob, q_ob, h_ob⟩, k_ob, q_ob, g_ob, h_ob, e_ob, f_ob⟩
    | k + 5, hq => simp [tys] at hq
theorem world_nwC (hts : ∀ w ∈ lw_tbl, w.before #[Value.ref b] s = true) : ∀ q ∈ nwC, va_Nw (.castable q.1 q.2) s := by
  intro q hq
  simp only [nwC, List.mem_cons, List.not_mem_nil, or_false] at hq
  rcases hq with rfl | rfl
  · exact va_Nw.of rfl (hts (.castable "KeyStage$Clip" "java/lang/Object") (tb 735 (by decide +kernel)))
  · exact va_Nw.of rfl (hts (.castable "KeyStage$Strip" "java/lang/Object") (tb 737 (by decide +kernel)))
theorem world_nwN (hts : ∀ w ∈ lw_tbl, w.before #[Value.ref b] s = true) (hgv : ∀ c ∈ flatC (Jvm.Cond.and given_1 narrow_1), c.before #[Value.ref b] s = true) : ∀ q ∈ nwN, va_Nc q.1 q.2 s := fun q hq => absurd hq List.not_mem_nil
theorem world_nwA (hts : ∀ w ∈ lw_tbl, w.before #[Value.ref b] s = true) : ∀ q ∈ nwA, va_AO q s := by
  intro q hq
  simp only [nwA, List.mem_cons, List.not_mem_nil, or_false] at hq
  rcases hq with rfl | rfl
  · exact va_AO.of (hts (.arrayOver (.object "KeyStage$Track")) (tb 548 (by decide +kernel)))
  · exact va_AO.of (hts (.arrayOver (.object "java/lang/Object")) (tb 627 (by decide +kernel)))
theorem world_nwD (hts : ∀ w ∈ lw_tbl, w.before #[Value.ref b] s = true) : ∀ q ∈ nwD, va_Nw (.declares q) s := fun q hq => absurd hq List.not_mem_nil
theorem world_str {k : Nat} {tx : String} (hts : ∀ w ∈ lw_tbl, w.before #[Value.ref b] s = true) (hgv : ∀ c ∈ flatC (Jvm.Cond.and given_1 narrow_1), c.before #[Value.ref b] s = true) (h1 : Cond.stringRef "KeyStage" k tx ∈ lw_tbl) (h2 : Cond.exactly (.string "KeyStage" k) "java/lang/String" ∈ flatC (Jvm.Cond.and given_1 narrow_1)) : ∃ a, vk_R "KeyStage" k tx a s := by
  obtain ⟨a, c, cell, k1, h3, -⟩ := Cond.exactly_spec (hgv _ h2)
  exact ⟨a, vk_R.of (hts _ h1) h3⟩
theorem world_nwS (hts : ∀ w ∈ lw_tbl, w.before #[Value.ref b] s = true) (hgv : ∀ c ∈ flatC (Jvm.Cond.and given_1 narrow_1), c.before #[Value.ref b] s = true) : ∀ q ∈ nwS, ∃ a, vk_R q.1 q.2.1 q.2.2 a s := fun q hq => absurd hq List.not_mem_nil
theorem world_nwF (hts : ∀ w ∈ lw_tbl, w.before #[Value.ref b] s = true) : ∀ q ∈ nwF, va_Nw (.fieldLinkNest q.1 q.2.1 q.2.2.1 q.2.2.2.1 q.2.2.2.2.1 q.2.2.2.2.2) s := by
  intro q hq
  simp only [nwF, List.mem_cons, List.not_mem_nil, or_false] at hq
  rcases hq with rfl | rfl | rfl | rfl | rfl | rfl | rfl | rfl | rfl | rfl | rfl | rfl | rfl | rfl | rfl
  · exact va_Nw.of rfl (hts (.fieldLinkNest "KeyStage" 77 "KeyStage$Clip" "length" "I" "KeyStage") (tb 567 (by decide +kernel)))
  · exact va_Nw.of rfl (hts (.fieldLinkNest "KeyStage" 200 "KeyStage$Strip" "p" "I" "KeyStage") (tb 671 (by decide +kernel)))
  · exact va_Nw.of rfl (hts (.fieldLinkNest "KeyStage" 203 "KeyStage$Strip" "q" "I" "KeyStage") (tb 673 (by decide +kernel)))
  · exact va_Nw.of rfl (hts (.fieldLinkNest "KeyStage" 211 "KeyStage$Strip" "layer" "I" "KeyStage") (tb 674 (by decide +kernel)))
  · exact va_Nw.of rfl (hts (.fieldLinkNest "KeyStage" 214 "KeyStage$Strip" "weight" "I" "KeyStage") (tb 676 (by decide +kernel)))
  · exact va_Nw.of rfl (hts (.fieldLinkNest "KeyStage" 217 "KeyStage$Strip" "isAdded" "Z" "KeyStage") (tb 678 (by decide +kernel)))
  · exact va_Nw.of rfl (hts (.fieldLinkNest "KeyStage" 221 "KeyStage$Strip" "isHeld" "Z" "KeyStage") (tb 680 (by decide +kernel)))
  · exact va_Nw.of rfl (hts (.fieldLinkNest "KeyStage" 226 "KeyStage$Strip" "fadeIn" "I" "KeyStage") (tb 682 (by decide +kernel)))
  · exact va_Nw.of rfl (hts (.fieldLinkNest "KeyStage" 229 "KeyStage$Strip" "fadeOut" "I" "KeyStage") (tb 684 (by decide +kernel)))
  · exact va_Nw.of rfl (hts (.fieldLinkNest "KeyStage" 274 "KeyStage$Notes" "count" "I" "KeyStage") (tb 91 (by decide +kernel)))
  · exact va_Nw.of rfl (hts (.fieldLinkNest "KeyStage" 304 "KeyStage$Strip" "clip" "LKeyStage$Clip;" "KeyStage") (tb 664 (by decide +kernel)))
  · exact va_Nw.of rfl (hts (.fieldLinkNest "KeyStage" 308 "KeyStage$Strip" "rounds" "I" "KeyStage") (tb 668 (by decide +kernel)))
  · exact va_Nw.of rfl (hts (.fieldLinkNest "KeyStage" 314 "KeyStage$Clip" "cueTimes" "LKeyStage$Row;" "KeyStage") (tb 570 (by decide +kernel)))
  · exact va_Nw.of rfl (hts (.fieldLinkNest "KeyStage" 320 "KeyStage$Clip" "cueNumbers" "LKeyStage$Row;" "KeyStage") (tb 572 (by decide +kernel)))
  · exact va_Nw.of rfl (hts (.fieldLinkNest "KeyStage$Strip" 57 "KeyStage$Clip" "length" "I" "KeyStage") (tb 566 (by decide +kernel)))
theorem world_nwM (hts : ∀ w ∈ lw_tbl, w.before #[Value.ref b] s = true) : ∀ q ∈ nwM, va_Nw (.methodLinkNest q.1 q.2.1 q.2.2.1 q.2.2.2) s := by
  intro q hq
  simp only [nwM, List.mem_cons, List.not_mem_nil, or_false] at hq
  rcases hq with rfl | rfl | rfl | rfl | rfl | rfl
  · exact va_Nw.of rfl (hts (.methodLinkNest "KeyStage" 36 ⟨"KeyStage$Notes", "<init>", "()V"⟩ "KeyStage") (tb 80 (by decide +kernel)))
  · exact va_Nw.of rfl (hts (.methodLinkNest "KeyStage$Clip" 33 ⟨"KeyStage$Track", "<init>", "()V"⟩ "KeyStage") (tb 549 (by decide +kernel)))
  · exact va_Nw.of rfl (hts (.methodLinkNest "KeyStage$Strip" 62 ⟨"KeyStage", "roundedUp", "(II)I"⟩ "KeyStage") (tb 419 (by decide +kernel)))
  · exact va_Nw.of rfl (hts (.methodLinkNest "KeyStage$Strip" 73 ⟨"KeyStage", "cut", "(II)I"⟩ "KeyStage") (tb 462 (by decide +kernel)))
  · exact va_Nw.of rfl (hts (.methodLinkNest "KeyStage$Strip" 85 ⟨"KeyStage", "rounded", "(JJ)I"⟩ "KeyStage") (tb 477 (by decide +kernel)))
  · exact va_Nw.of rfl (hts (.methodLinkNest "KeyStage$Track" 55 ⟨"KeyStage", "rounded", "(JJ)I"⟩ "KeyStage") (tb 299 (by decide +kernel)))
theorem world_G (hts : ∀ w ∈ lw_tbl, w.before #[Value.ref b] s = true) (hgv : ∀ c ∈ flatC (Jvm.Cond.and given_1 narrow_1), c.before #[Value.ref b] s = true) : ∃ D : va_G, GK D s := by
  obtain ⟨D, h⟩ := world_K hts
  exact ⟨D, ⟨h, world_nwC hts, world_nwN hts hgv, world_nwA hts, world_nwS hts hgv, world_nwD hts⟩, world_nwF hts, world_nwM hts⟩
theorem world_ZL (hts : ∀ w ∈ lw_tbl, w.before #[Value.ref b] s = true) (hgv : ∀ c ∈ flatC (Jvm.Cond.and given_1 narrow_1), c.before #[Value.ref b] s = true) : ∃ z, ZL z (fun q => s.heap.size ≤ q) s := by
  obtain ⟨z, h1, h2⟩ := va_Tof (A := fun q => s.heap.size ≤ q) (N := 0) (f := fun _ => .null) (by decide) (hgv (.arrayOf (.static "java/util/ArrayList" "DEFAULTCAPACITY_EMPTY_ELEMENTDATA" "[Ljava/lang/Object;") (.object "java/lang/Object")) (by decide +kernel)) (va_eqt (z := 0) (hgv (.eq (.length (.static "java/util/ArrayList" "DEFAULTCAPACITY_EMPTY_ELEMENTDATA" "[Ljava/lang/Object;")) (.int 0)) (by decide +kernel))) (fun j h => absurd h (Nat.not_lt_zero j)) (fun a h => Nat.not_le.mpr h)
  exact ⟨z, va_Zref (hts (.laysStatic "java/util/ArrayList" "DEFAULTCAPACITY_EMPTY_ELEMENTDATA" "[Ljava/lang/Object;") (tb 43 (by decide +kernel))) (hts (.initialized "java/util/ArrayList") (tb 4 (by decide +kernel))) h1 (fun a h => Nat.not_le.mpr h), h2⟩
end WORLD
