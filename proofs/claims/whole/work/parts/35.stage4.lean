set_option maxHeartbeats 4000000 in
set_option maxRecDepth 100000 in
theorem t_reaches_1 (l : Launch) (D : va_G) (hns : l.stackTraces = false) {xo : Nat} {p1 x y : Int32} {w : Int32} (hz0 : Nat) (h : ¬ ((0 : Int32) ≤ p1 ∧ p1 ≤ 3)) : vx_Met l yX5_reaches (ws_ yX5_reaches cX5_reaches 6 (some .int)) ({ frames := 6, cells := 1, slots := 6, locals := 152 } : Room) (va_Pc [.ref xo, .int p1, .int x, .int y, .int w] (TW D [] hz0)) (va_Qi (fun _ (_ : Unit) => False) (fun _ _ => False) (va_A [] hz0)) (XE "java/lang/IndexOutOfBoundsException" (va_A [] hz0)) 1 6 (va_A [] hz0) := by
  refine vx_ofW (cc := cX5_reaches) (maxL := 6) (ret := (some .int)) (by decide) rfl ?_
  intro p e s m args below meth c s₁ B hml hne hv
  obtain ⟨rfl, hsz, hG, hP, hZ⟩ := hv
  subst hsz
  have hx := B.exec
  have hb := B.bytes
  have hr := B.returns
  have hts : ∀ w ∈ wsL_law, w.before _ s = true := fun w h => atoms_spec (ws := (ws_ yX5_reaches cX5_reaches 6 (some .int))) B.pre w (List.mem_cons_of_mem _ h)
  have hown : s.vm.findClass RX5 = some m.cls := findClass_of_methodNamed B.named
  have hlk := B.notSynchronized
  have hC : CallFix p m c cX5_reaches 6 s _ wsL_law RX5 := ⟨hx, hb, hml, hown, hts⟩
  have hl := lv_entry ([.ref xo, .int p1, .int x, .int y, .int w]) (n := 6) (Nat.le_of_ble_eq_true rfl)
  rw [lg_entry_eq]
  generalize (lg_sl ([.ref xo, .int p1, .int x, .int y, .int w]) ++ List.replicate (6 - (lg_sl ([.ref xo, .int p1, .int x, .int y, .int w])).length) Slot.unset).toArray = ls at hl ⊢
  have hl : lv_has ls 6 [(0, .ref xo), (1, .int p1), (2, .int x), (3, .int y), (4, .int w)] := hl
  refine lv_iload_n hx hb dX5_reaches_0 rfl (lv_at hl 1 rfl) ?_
  have hP9 : va_P D cls [] s.heap := fun k q h => by simp at h
  refine vp_callSi (pS (rest := []) [.int p1] 1 hC (c_isProperty l D (x := p1) ) (gS mM_X5_166 mT_X5_isProperty mN_X5 mC_X5_isProperty) (by decide +kernel) rfl rfl ⟨Nat.le_of_ble_eq_true rfl, Nat.le_of_ble_eq_true rfl⟩ hG hP9 rfl hl.1 rfl (Nat.le_of_ble_eq_true rfl) dX5_reaches_1 ⟨Nat.le_of_ble_eq_true rfl, Nat.le_of_ble_eq_true rfl⟩) (fun r1 h1 => ?_)
  rcases h1 with ⟨rfl, hb1⟩ | ⟨rfl, hb1⟩
  · exact absurd hb1 (h)
  refine lv_if_ne (tgt := 17) hx hb dX5_reaches_4 (by decide) (fun h9 => (h9 (by decide)).elim) (fun _ => ?_)
  obtain ⟨sa, hsa⟩ := gkS hG 17 rfl
  exact vx_throwS (ik := 72) (is := 169) (ic := 76) (cls := "java/lang/IndexOutOfBoundsException") (names := tXn) hx hb hns hown (by decide +kernel) (by decide +kernel) (hts _ mK_X5_72) (hts _ mN__java_lang_IndexOutOfBoundsException_) hsa (vx_hat (fun w hw => hts w (thr_in76 w hw)) thr_bad76 (thr_B 4 hG rfl)) thr_ot76 hZ.1 hZ.2 va_S.rf (by rw [hml]; exact hl.1) dX5_reaches_7 dX5_reaches_10 dX5_reaches_11 dX5_reaches_13 dX5_reaches_16 (fun x hx => (hne x hx).elim) (Nat.le_of_ble_eq_true rfl) (Nat.le_of_ble_eq_true rfl) (Nat.le_of_ble_eq_true rfl) (Nat.le_of_ble_eq_true rfl) hlk (XE.of rfl) (fun q hq => absurd hq List.not_mem_nil) (Nat.le_of_ble_eq_true rfl) (Nat.le_of_ble_eq_true rfl)
set_option maxHeartbeats 4000000 in
set_option maxRecDepth 100000 in
theorem t_reaches_2 (l : Launch) (D : va_G) (hns : l.stackTraces = false) {xo : Nat} {p1 x y : Int32} {w : Int32} (hz0 : Nat) (h : (0 : Int32) ≤ p1 ∧ p1 ≤ 3) (hh : ¬ (((0 : Int32) ≤ x ∧ x ≤ 100000) ∧ (x ≤ y ∧ y ≤ x + 300))) : vx_Met l yX5_reaches (ws_ yX5_reaches cX5_reaches 6 (some .int)) ({ frames := 6, cells := 1, slots := 6, locals := 152 } : Room) (va_Pc [.ref xo, .int p1, .int x, .int y, .int w] (TW D [] hz0)) (va_Qi (fun _ (_ : Unit) => False) (fun _ _ => False) (va_A [] hz0)) (XE "java/lang/IllegalArgumentException" (va_A [] hz0)) 1 6 (va_A [] hz0) := by
  refine vx_ofW (cc := cX5_reaches) (maxL := 6) (ret := (some .int)) (by decide) rfl ?_
  intro p e s m args below meth c s₁ B hml hne hv
  obtain ⟨rfl, hsz, hG, hP, hZ⟩ := hv
  subst hsz
  have hx := B.exec
  have hb := B.bytes
  have hr := B.returns
  have hts : ∀ w ∈ wsL_law, w.before _ s = true := fun w h => atoms_spec (ws := (ws_ yX5_reaches cX5_reaches 6 (some .int))) B.pre w (List.mem_cons_of_mem _ h)
  have hown : s.vm.findClass RX5 = some m.cls := findClass_of_methodNamed B.named
  have hlk := B.notSynchronized
  have hC : CallFix p m c cX5_reaches 6 s _ wsL_law RX5 := ⟨hx, hb, hml, hown, hts⟩
  have hl := lv_entry ([.ref xo, .int p1, .int x, .int y, .int w]) (n := 6) (Nat.le_of_ble_eq_true rfl)
  rw [lg_entry_eq]
  generalize (lg_sl ([.ref xo, .int p1, .int x, .int y, .int w]) ++ List.replicate (6 - (lg_sl ([.ref xo, .int p1, .int x, .int y, .int w])).length) Slot.unset).toArray = ls at hl ⊢
  have hl : lv_has ls 6 [(0, .ref xo), (1, .int p1), (2, .int x), (3, .int y), (4, .int w)] := hl
  refine lv_iload_n hx hb dX5_reaches_0 rfl (lv_at hl 1 rfl) ?_
  have hP9 : va_P D cls [] s.heap := fun k q h => by simp at h
  refine vp_callSi (pS (rest := []) [.int p1] 1 hC (c_isProperty l D (x := p1) ) (gS mM_X5_166 mT_X5_isProperty mN_X5 mC_X5_isProperty) (by decide +kernel) rfl rfl ⟨Nat.le_of_ble_eq_true rfl, Nat.le_of_ble_eq_true rfl⟩ hG hP9 rfl hl.1 rfl (Nat.le_of_ble_eq_true rfl) dX5_reaches_1 ⟨Nat.le_of_ble_eq_true rfl, Nat.le_of_ble_eq_true rfl⟩) (fun r1 h1 => ?_)
  rcases h1 with ⟨rfl, hb1⟩ | ⟨rfl, hb1⟩
  rotate_left
  · exact absurd (h) hb1
  refine lv_if_ne (tgt := 17) hx hb dX5_reaches_4 (by decide) (fun _ => ?_) (fun h9 => absurd h9 (by decide))
  refine lv_iload_n hx hb dX5_reaches_17 rfl (lv_at hl 2 rfl) ?_
  have hP9 : va_P D cls [] s.heap := fun k q h => by simp at h
  refine vp_callSi (pS (rest := []) [.int x] 1 hC (c_isTime l D (x := x) ) (gS mM_X5_236 mT_X5_isTime mN_X5 mC_X5_isTime) (by decide +kernel) rfl rfl ⟨Nat.le_of_ble_eq_true rfl, Nat.le_of_ble_eq_true rfl⟩ hG hP9 rfl hl.1 rfl (Nat.le_of_ble_eq_true rfl) dX5_reaches_18 ⟨Nat.le_of_ble_eq_true rfl, Nat.le_of_ble_eq_true rfl⟩) (fun r18 h18 => ?_)
  rcases h18 with ⟨rfl, hb18⟩ | ⟨rfl, hb18⟩
  · skip
    refine lv_if_eq (tgt := 37) hx hb dX5_reaches_21 (by decide) (fun h9 => absurd h9 (by decide)) (fun _ => ?_)
    refine lv_iload_n hx hb dX5_reaches_24 rfl (lv_at hl 3 rfl) ?_
    refine lv_iload_n hx hb dX5_reaches_25 rfl (lv_at hl 2 rfl) ?_
    refine lv_iload_n hx hb dX5_reaches_26 rfl (lv_at hl 2 rfl) ?_
    refine lv_sipush (v := 300) hx hb dX5_reaches_27 (by decide) ?_
    refine lv_iadd hx hb dX5_reaches_30 ?_
    have hP9 : va_P D cls [] s.heap := fun k q h => by simp at h
    refine vp_callSi (pS (rest := []) [.int y, .int x, .int (x + 300)] 3 hC (c_isIn l D (x := y) (a := x) (b := x + 300) ) (gS mM_X5_41 mT_X5_isIn mN_X5 mC_X5_isIn) (by decide +kernel) rfl rfl ⟨Nat.le_of_ble_eq_true rfl, Nat.le_of_ble_eq_true rfl⟩ hG hP9 rfl hl.1 rfl (Nat.le_of_ble_eq_true rfl) dX5_reaches_31 ⟨Nat.le_of_ble_eq_true rfl, Nat.le_of_ble_eq_true rfl⟩) (fun r31 h31 => ?_)
    rcases h31 with ⟨rfl, hb31⟩ | ⟨rfl, hb31⟩
    · exact absurd hb31 (fun h9 => hh ⟨hb18, h9⟩)
    refine lv_if_ne (tgt := 48) hx hb dX5_reaches_34 (by decide) (fun h9 => (h9 (by decide)).elim) (fun _ => ?_)
    obtain ⟨sa, hsa⟩ := gkS hG 27 rfl
    exact vx_throwSW (ik := 45) (is := 262) (ic := 49) (cls := "java/lang/IllegalArgumentException") (names := tXn) hx hb hns hown (by decide +kernel) (by decide +kernel) (hts _ mK_X5_45) (hts _ mN__java_lang_IllegalArgumentException_) hsa (vx_hat (fun w hw => hts w (thr_in49 w hw)) thr_bad49 (thr_B 2 hG rfl)) thr_ot49 hZ.1 hZ.2 va_S.rf (by rw [hml]; exact hl.1) dX5_reaches_37 dX5_reaches_40 dX5_reaches_41 dX5_reaches_44 dX5_reaches_47 (fun x hx => (hne x hx).elim) (Nat.le_of_ble_eq_true rfl) (Nat.le_of_ble_eq_true rfl) (Nat.le_of_ble_eq_true rfl) (Nat.le_of_ble_eq_true rfl) hlk (XE.of rfl) (fun q hq => absurd hq List.not_mem_nil) (Nat.le_of_ble_eq_true rfl) (Nat.le_of_ble_eq_true rfl)
  · skip
    refine lv_if_eq (tgt := 37) hx hb dX5_reaches_21 (by decide) (fun _ => ?_) (fun h9 => (h9 (by decide)).elim)
    obtain ⟨sa, hsa⟩ := gkS hG 27 rfl
    exact vx_throwSW (ik := 45) (is := 262) (ic := 49) (cls := "java/lang/IllegalArgumentException") (names := tXn) hx hb hns hown (by decide +kernel) (by decide +kernel) (hts _ mK_X5_45) (hts _ mN__java_lang_IllegalArgumentException_) hsa (vx_hat (fun w hw => hts w (thr_in49 w hw)) thr_bad49 (thr_B 2 hG rfl)) thr_ot49 hZ.1 hZ.2 va_S.rf (by rw [hml]; exact hl.1) dX5_reaches_37 dX5_reaches_40 dX5_reaches_41 dX5_reaches_44 dX5_reaches_47 (fun x hx => (hne x hx).elim) (Nat.le_of_ble_eq_true rfl) (Nat.le_of_ble_eq_true rfl) (Nat.le_of_ble_eq_true rfl) (Nat.le_of_ble_eq_true rfl) hlk (XE.of rfl) (fun q hq => absurd hq List.not_mem_nil) (Nat.le_of_ble_eq_true rfl) (Nat.le_of_ble_eq_true rfl)
set_option maxHeartbeats 4000000 in
set_option maxRecDepth 100000 in
theorem t_mean_1 (l : Launch) (D : va_G) (hns : l.stackTraces = false) {xo : Nat} {p1 x y : Int32} (hz0 : Nat) (h : ¬ ((0 : Int32) ≤ p1 ∧ p1 ≤ 3)) : vx_Met l yX5_mean (ws_ yX5_mean cX5_mean 7 (some .double)) ({ frames := 6, cells := 1, slots := 6, locals := 152 } : Room) (va_Pc [.ref xo, .int p1, .int x, .int y] (TW D [] hz0)) (va_Qd (fun _ (_ : Unit) => False) (fun _ _ => False) (va_A [] hz0)) (XE "java/lang/IndexOutOfBoundsException" (va_A [] hz0)) 1 6 (va_A [] hz0) := by
  refine vx_ofW (cc := cX5_mean) (maxL := 7) (ret := (some .double)) (by decide) rfl ?_
  intro p e s m args below meth c s₁ B hml hne hv
  obtain ⟨rfl, hsz, hG, hP, hZ⟩ := hv
  subst hsz
  have hx := B.exec
  have hb := B.bytes
  have hr := B.returns
  have hts : ∀ w ∈ wsL_law, w.before _ s = true := fun w h => atoms_spec (ws := (ws_ yX5_mean cX5_mean 7 (some .double))) B.pre w (List.mem_cons_of_mem _ h)
  have hown : s.vm.findClass RX5 = some m.cls := findClass_of_methodNamed B.named
  have hlk := B.notSynchronized
  have hC : CallFix p m c cX5_mean 7 s _ wsL_law RX5 := ⟨hx, hb, hml, hown, hts⟩
  have hl := lv_entry ([.ref xo, .int p1, .int x, .int y]) (n := 7) (Nat.le_of_ble_eq_true rfl)
  rw [lg_entry_eq]
  generalize (lg_sl ([.ref xo, .int p1, .int x, .int y]) ++ List.replicate (7 - (lg_sl ([.ref xo, .int p1, .int x, .int y])).length) Slot.unset).toArray = ls at hl ⊢
  have hl : lv_has ls 7 [(0, .ref xo), (1, .int p1), (2, .int x), (3, .int y)] := hl
  refine lv_iload_n hx hb dX5_mean_0 rfl (lv_at hl 1 rfl) ?_
  have hP9 : va_P D cls [] s.heap := fun k q h => by simp at h
  refine vp_callSi (pS (rest := []) [.int p1] 1 hC (c_isProperty l D (x := p1) ) (gS mM_X5_166 mT_X5_isProperty mN_X5 mC_X5_isProperty) (by decide +kernel) rfl rfl ⟨Nat.le_of_ble_eq_true rfl, Nat.le_of_ble_eq_true rfl⟩ hG hP9 rfl hl.1 rfl (Nat.le_of_ble_eq_true rfl) dX5_mean_1 ⟨Nat.le_of_ble_eq_true rfl, Nat.le_of_ble_eq_true rfl⟩) (fun r1 h1 => ?_)
  rcases h1 with ⟨rfl, hb1⟩ | ⟨rfl, hb1⟩
  · exact absurd hb1 (h)
  refine lv_if_ne (tgt := 17) hx hb dX5_mean_4 (by decide) (fun h9 => (h9 (by decide)).elim) (fun _ => ?_)
  obtain ⟨sa, hsa⟩ := gkS hG 17 rfl
  exact vx_throwS (ik := 72) (is := 169) (ic := 76) (cls := "java/lang/IndexOutOfBoundsException") (names := tXn) hx hb hns hown (by decide +kernel) (by decide +kernel) (hts _ mK_X5_72) (hts _ mN__java_lang_IndexOutOfBoundsException_) hsa (vx_hat (fun w hw => hts w (thr_in76 w hw)) thr_bad76 (thr_B 4 hG rfl)) thr_ot76 hZ.1 hZ.2 va_S.rf (by rw [hml]; exact hl.1) dX5_mean_7 dX5_mean_10 dX5_mean_11 dX5_mean_13 dX5_mean_16 (fun x hx => (hne x hx).elim) (Nat.le_of_ble_eq_true rfl) (Nat.le_of_ble_eq_true rfl) (Nat.le_of_ble_eq_true rfl) (Nat.le_of_ble_eq_true rfl) hlk (XE.of rfl) (fun q hq => absurd hq List.not_mem_nil) (Nat.le_of_ble_eq_true rfl) (Nat.le_of_ble_eq_true rfl)
set_option maxHeartbeats 4000000 in
set_option maxRecDepth 100000 in
theorem t_mean_2 (l : Launch) (D : va_G) (hns : l.stackTraces = false) {xo : Nat} {p1 x y : Int32} (hz0 : Nat) (h : (0 : Int32) ≤ p1 ∧ p1 ≤ 3) (hh : ¬ (((0 : Int32) ≤ x ∧ x ≤ 100000) ∧ (x ≤ y ∧ y ≤ x + 300))) : vx_Met l yX5_mean (ws_ yX5_mean cX5_mean 7 (some .double)) ({ frames := 6, cells := 1, slots := 6, locals := 152 } : Room) (va_Pc [.ref xo, .int p1, .int x, .int y] (TW D [] hz0)) (va_Qd (fun _ (_ : Unit) => False) (fun _ _ => False) (va_A [] hz0)) (XE "java/lang/IllegalArgumentException" (va_A [] hz0)) 1 6 (va_A [] hz0) := by
  refine vx_ofW (cc := cX5_mean) (maxL := 7) (ret := (some .double)) (by decide) rfl ?_
  intro p e s m args below meth c s₁ B hml hne hv
  obtain ⟨rfl, hsz, hG, hP, hZ⟩ := hv
  subst hsz
  have hx := B.exec
  have hb := B.bytes
  have hr := B.returns
  have hts : ∀ w ∈ wsL_law, w.before _ s = true := fun w h => atoms_spec (ws := (ws_ yX5_mean cX5_mean 7 (some .double))) B.pre w (List.mem_cons_of_mem _ h)
  have hown : s.vm.findClass RX5 = some m.cls := findClass_of_methodNamed B.named
  have hlk := B.notSynchronized
  have hC : CallFix p m c cX5_mean 7 s _ wsL_law RX5 := ⟨hx, hb, hml, hown, hts⟩
  have hl := lv_entry ([.ref xo, .int p1, .int x, .int y]) (n := 7) (Nat.le_of_ble_eq_true rfl)
  rw [lg_entry_eq]
  generalize (lg_sl ([.ref xo, .int p1, .int x, .int y]) ++ List.replicate (7 - (lg_sl ([.ref xo, .int p1, .int x, .int y])).length) Slot.unset).toArray = ls at hl ⊢
  have hl : lv_has ls 7 [(0, .ref xo), (1, .int p1), (2, .int x), (3, .int y)] := hl
  refine lv_iload_n hx hb dX5_mean_0 rfl (lv_at hl 1 rfl) ?_
  have hP9 : va_P D cls [] s.heap := fun k q h => by simp at h
  refine vp_callSi (pS (rest := []) [.int p1] 1 hC (c_isProperty l D (x := p1) ) (gS mM_X5_166 mT_X5_isProperty mN_X5 mC_X5_isProperty) (by decide +kernel) rfl rfl ⟨Nat.le_of_ble_eq_true rfl, Nat.le_of_ble_eq_true rfl⟩ hG hP9 rfl hl.1 rfl (Nat.le_of_ble_eq_true rfl) dX5_mean_1 ⟨Nat.le_of_ble_eq_true rfl, Nat.le_of_ble_eq_true rfl⟩) (fun r1 h1 => ?_)
  rcases h1 with ⟨rfl, hb1⟩ | ⟨rfl, hb1⟩
  rotate_left
  · exact absurd (h) hb1
  refine lv_if_ne (tgt := 17) hx hb dX5_mean_4 (by decide) (fun _ => ?_) (fun h9 => absurd h9 (by decide))
  refine lv_iload_n hx hb dX5_mean_17 rfl (lv_at hl 2 rfl) ?_
  have hP9 : va_P D cls [] s.heap := fun k q h => by simp at h
  refine vp_callSi (pS (rest := []) [.int x] 1 hC (c_isTime l D (x := x) ) (gS mM_X5_236 mT_X5_isTime mN_X5 mC_X5_isTime) (by decide +kernel) rfl rfl ⟨Nat.le_of_ble_eq_true rfl, Nat.le_of_ble_eq_true rfl⟩ hG hP9 rfl hl.1 rfl (Nat.le_of_ble_eq_true rfl) dX5_mean_18 ⟨Nat.le_of_ble_eq_true rfl, Nat.le_of_ble_eq_true rfl⟩) (fun r18 h18 => ?_)
  rcases h18 with ⟨rfl, hb18⟩ | ⟨rfl, hb18⟩
  · skip
    refine lv_if_eq (tgt := 37) hx hb dX5_mean_21 (by decide) (fun h9 => absurd h9 (by decide)) (fun _ => ?_)
    refine lv_iload_n hx hb dX5_mean_24 rfl (lv_at hl 3 rfl) ?_
    refine lv_iload_n hx hb dX5_mean_25 rfl (lv_at hl 2 rfl) ?_
    refine lv_iload_n hx hb dX5_mean_26 rfl (lv_at hl 2 rfl) ?_
    refine lv_sipush (v := 300) hx hb dX5_mean_27 (by decide) ?_
    refine lv_iadd hx hb dX5_mean_30 ?_
    have hP9 : va_P D cls [] s.heap := fun k q h => by simp at h
    refine vp_callSi (pS (rest := []) [.int y, .int x, .int (x + 300)] 3 hC (c_isIn l D (x := y) (a := x) (b := x + 300) ) (gS mM_X5_41 mT_X5_isIn mN_X5 mC_X5_isIn) (by decide +kernel) rfl rfl ⟨Nat.le_of_ble_eq_true rfl, Nat.le_of_ble_eq_true rfl⟩ hG hP9 rfl hl.1 rfl (Nat.le_of_ble_eq_true rfl) dX5_mean_31 ⟨Nat.le_of_ble_eq_true rfl, Nat.le_of_ble_eq_true rfl⟩) (fun r31 h31 => ?_)
    rcases h31 with ⟨rfl, hb31⟩ | ⟨rfl, hb31⟩
    · exact absurd hb31 (fun h9 => hh ⟨hb18, h9⟩)
    refine lv_if_ne (tgt := 48) hx hb dX5_mean_34 (by decide) (fun h9 => (h9 (by decide)).elim) (fun _ => ?_)
    obtain ⟨sa, hsa⟩ := gkS hG 27 rfl
    exact vx_throwSW (ik := 45) (is := 262) (ic := 49) (cls := "java/lang/IllegalArgumentException") (names := tXn) hx hb hns hown (by decide +kernel) (by decide +kernel) (hts _ mK_X5_45) (hts _ mN__java_lang_IllegalArgumentException_) hsa (vx_hat (fun w hw => hts w (thr_in49 w hw)) thr_bad49 (thr_B 2 hG rfl)) thr_ot49 hZ.1 hZ.2 va_S.rf (by rw [hml]; exact hl.1) dX5_mean_37 dX5_mean_40 dX5_mean_41 dX5_mean_44 dX5_mean_47 (fun x hx => (hne x hx).elim) (Nat.le_of_ble_eq_true rfl) (Nat.le_of_ble_eq_true rfl) (Nat.le_of_ble_eq_true rfl) (Nat.le_of_ble_eq_true rfl) hlk (XE.of rfl) (fun q hq => absurd hq List.not_mem_nil) (Nat.le_of_ble_eq_true rfl) (Nat.le_of_ble_eq_true rfl)
  · skip
    refine lv_if_eq (tgt := 37) hx hb dX5_mean_21 (by decide) (fun _ => ?_) (fun h9 => (h9 (by decide)).elim)
    obtain ⟨sa, hsa⟩ := gkS hG 27 rfl
    exact vx_throwSW (ik := 45) (is := 262) (ic := 49) (cls := "java/lang/IllegalArgumentException") (names := tXn) hx hb hns hown (by decide +kernel) (by decide +kernel) (hts _ mK_X5_45) (hts _ mN__java_lang_IllegalArgumentException_) hsa (vx_hat (fun w hw => hts w (thr_in49 w hw)) thr_bad49 (thr_B 2 hG rfl)) thr_ot49 hZ.1 hZ.2 va_S.rf (by rw [hml]; exact hl.1) dX5_mean_37 dX5_mean_40 dX5_mean_41 dX5_mean_44 dX5_mean_47 (fun x hx => (hne x hx).elim) (Nat.le_of_ble_eq_true rfl) (Nat.le_of_ble_eq_true rfl) (Nat.le_of_ble_eq_true rfl) (Nat.le_of_ble_eq_true rfl) hlk (XE.of rfl) (fun q hq => absurd hq List.not_mem_nil) (Nat.le_of_ble_eq_true rfl) (Nat.le_of_ble_eq_true rfl)
set_option maxHeartbeats 4000000 in
set_option maxRecDepth 100000 in
theorem c_reaches (l : Launch) (D : va_G) {xo lc lt bo yo no : Nat} {et nS : Nat} {m2 : Int32} {sl ck cl ta : Nat → Nat} {pt : Nat → Nat → Int32} {len : Nat → Int32} {q : Nat → Nat → Nat} {t r a sz : Nat → Nat → Nat} {f : Nat → Nat → Nat → Int32} {ba ya n0 j : Nat} {bf yf : Nat → Int32} {a0 b0 : Nat} {y : Int32} {vf : Nat → Int32} (hz0 : Nat) (hnS : nS ≤ 10) (hn0 : n0 ≤ 10) (hj : j < 4) (ha0 : a0 ≤ 100000) (hab : a0 ≤ b0) (hb3 : b0 ≤ a0 + 300) (hp : ∀ i, i < nS → 0 < pt i 5) (hq : ∀ i, i < nS → 0 < pt i 6) (hln : ∀ i, i < nS → 0 < len (ck i)) (h16 : ∀ i, i < nS → sz (ck i) j ≤ 16) (hT : ∀ i, i < nS → tOK (f (ck i) (3 * j)) (sz (ck i) j)) (hF : ∀ i, i < nS → ∀ x, a0 ≤ x → x ≤ b0 → isOnS (len (ck i)) (pt i) (nI x) → fadesOK (len (ck i)) (pt i) (nI x)) (hvf : ∀ x, vf x = valL (fun z v => blendS (len (ck z)) (pt z) (sz (ck z) j) (f (ck z) (3 * j)) (f (ck z) (3 * j + 1)) (f (ck z) (3 * j + 2)) v (nI x)) (lyT (fun z => pt z 7) nS 10) (bf j) (lyT (fun z => pt z 7) nS 10).length) : Met l yX5_reaches (ws_ yX5_reaches cX5_reaches 6 (some .int)) ({ frames := 6, cells := 0, slots := 0, locals := 152 } : Room) (va_Pc [.ref xo, .int (nI j), .int (nI a0), .int (nI b0), .int y] (SX D [oO xo 5 [.ref lc, .ref lt, .ref bo, .ref yo, .ref no], oO lt 7 [.int m2, .ref et, .int (nI nS)], oO yo 2 [.ref ya, .int (nI n0)], aI D ya 10 yf, oO bo 2 [.ref ba, .int (nI 4)], aI D ba 4 bf] hz0 (FX D nS (fun i => [aO D et 10 (lsF sl nS), oO (sl i) 3 [.ref (cl (ck i)), .int (pt i 0), .int (pt i 1), .int (pt i 3), .int (pt i 4), .int (pt i 5), .int (pt i 6), .int (pt i 7), .int (pt i 8), .int (pt i 9), .int (pt i 10), .int (pt i 11), .int (pt i 12)], oO (cl (ck i)) 0 [.int (len (ck i)), .ref (ta (ck i)), .ref (q (ck i) 0), .ref (q (ck i) 1)], aT D (ta (ck i)) 4 (tkF (t (ck i))), oO (t (ck i) j) 4 [.ref (r (ck i) (3 * j)), .ref (r (ck i) (3 * j + 1)), .ref (r (ck i) (3 * j + 2))], oO (r (ck i) (3 * j)) 2 [.ref (a (ck i) (3 * j)), .int (nI (sz (ck i) j))], oO (r (ck i) (3 * j + 1)) 2 [.ref (a (ck i) (3 * j + 1)), .int (nI (sz (ck i) j))], oO (r (ck i) (3 * j + 2)) 2 [.ref (a (ck i) (3 * j + 2)), .int (nI (sz (ck i) j))], aI D (a (ck i) (3 * j)) 16 (f (ck i) (3 * j)), aI D (a (ck i) (3 * j + 1)) 16 (f (ck i) (3 * j + 1)), aI D (a (ck i) (3 * j + 2)) 16 (f (ck i) (3 * j + 2))]) (va_A [oO xo 5 [.ref lc, .ref lt, .ref bo, .ref yo, .ref no], oO lt 7 [.int m2, .ref et, .int (nI nS)], oO yo 2 [.ref ya, .int (nI n0)], aI D ya 10 yf, oO bo 2 [.ref ba, .int (nI 4)], aI D ba 4 bf] hz0)))) (va_Qi (fun v _ => (∃ x, a0 ≤ x ∧ x ≤ b0 ∧ v = nI x ∧ y ≤ vf x ∧ ∀ z, a0 ≤ z → z < x → ¬ y ≤ vf z) ∨ (v = -1 ∧ ∀ z, a0 ≤ z → z ≤ b0 → ¬ y ≤ vf z)) (AT D (va_A [oO xo 5 [.ref lc, .ref lt, .ref bo, .ref yo, .ref no], oO lt 7 [.int m2, .ref et, .int (nI nS)], oO yo 2 [.ref ya, .int (nI n0)], aI D ya 10 yf, oO bo 2 [.ref ba, .int (nI 4)], aI D ba 4 bf] hz0) (fun g : Nat → Int32 => [oO xo 5 [.ref lc, .ref lt, .ref bo, .ref yo, .ref no], oO lt 7 [.int m2, .ref et, .int (nI nS)], oO yo 2 [.ref ya, .int (nI (lyT (fun z => pt z 7) nS 10).length)], aI D ya 10 g, oO bo 2 [.ref ba, .int (nI 4)], aI D ba 4 bf])) (va_A [oO xo 5 [.ref lc, .ref lt, .ref bo, .ref yo, .ref no], oO lt 7 [.int m2, .ref et, .int (nI nS)], oO yo 2 [.ref ya, .int (nI n0)], aI D ya 10 yf, oO bo 2 [.ref ba, .int (nI 4)], aI D ba 4 bf] hz0)) 0 0 (va_A [oO xo 5 [.ref lc, .ref lt, .ref bo, .ref yo, .ref no], oO lt 7 [.int m2, .ref et, .int (nI nS)], oO yo 2 [.ref ya, .int (nI n0)], aI D ya 10 yf, oO bo 2 [.ref ba, .int (nI 4)], aI D ba 4 bf] hz0) := by
  refine Met.ofW (cc := cX5_reaches) (maxL := 6) (ret := (some .int)) (by decide) rfl ?_
  intro p e s m args below meth c s₁ B hml hv
  obtain ⟨rfl, ⟨hsz, hG, hP, hD0⟩, hX⟩ := hv
  have hx := B.exec
  have hb := B.bytes
  have hr := B.returns
  have hts : ∀ w ∈ wsL_law, w.before _ s = true := fun w h => atoms_spec (ws := (ws_ yX5_reaches cX5_reaches 6 (some .int))) B.pre w (List.mem_cons_of_mem _ h)
  have hown : s.vm.findClass RX5 = some m.cls := findClass_of_methodNamed B.named
  have hlk := B.notSynchronized
  have hC : CallFix p m c cX5_reaches 6 s _ wsL_law RX5 := ⟨hx, hb, hml, hown, hts⟩
  subst hsz
  have hD := hD0.self (sz := s.heap.size)
  generalize hAe : va_A [oO xo 5 [.ref lc, .ref lt, .ref bo, .ref yo, .ref no], oO lt 7 [.int m2, .ref et, .int (nI nS)], oO yo 2 [.ref ya, .int (nI n0)], aI D ya 10 yf, oO bo 2 [.ref ba, .int (nI 4)], aI D ba 4 bf] s.heap.size = A at hD hX ⊢
  have hA : ∀ q : Nat, s.heap.size ≤ q → A q := fun q h => by rw [← hAe]; exact Or.inr h
  have hS : va_S A s.heap s.heap [] := va_S.rf
  obtain ⟨H, hHe⟩ : ∃ H, H = s.heap := ⟨_, rfl⟩
  rw [← hHe] at hP
  have hS : va_S A s.heap H [] := by rw [hHe]; exact hS
  have hl := lv_entry ([.ref xo, .int (nI j), .int (nI a0), .int (nI b0), .int y]) (n := 6) (Nat.le_of_ble_eq_true rfl)
  rw [lg_entry_eq]
  generalize (lg_sl ([.ref xo, .int (nI j), .int (nI a0), .int (nI b0), .int y]) ++ List.replicate (6 - (lg_sl ([.ref xo, .int (nI j), .int (nI a0), .int (nI b0), .int y])).length) Slot.unset).toArray = ls at hl ⊢
  have hl : lv_has ls 6 [(0, .ref xo), (1, .int (nI j)), (2, .int (nI a0)), (3, .int (nI b0)), (4, .int y)] := hl
  rw [← hHe]
  refine lv_iload_n hx hb dX5_reaches_0 rfl (lv_at hl 1 rfl) ?_
  have hP9 : va_P D cls [] H := fun k q h => by simp at h
  refine vp_callSi (pS (rest := []) [.int (nI j)] 1 hC (c_isProperty l D (x := nI j) ) (gS mM_X5_166 mT_X5_isProperty mN_X5 mC_X5_isProperty) (by decide +kernel) rfl rfl ⟨Nat.le_of_ble_eq_true rfl, Nat.le_of_ble_eq_true rfl⟩ hG hP9 rfl hl.1 rfl (Nat.le_of_ble_eq_true rfl) dX5_reaches_1 ⟨Nat.le_of_ble_eq_true rfl, Nat.le_of_ble_eq_true rfl⟩) (fun r1 h1 => ?_)
  rcases h1 with ⟨rfl, hb1⟩ | ⟨rfl, hb1⟩
  rotate_left
  · exact absurd (in3 hj) hb1
  refine lv_if_ne (tgt := 17) hx hb dX5_reaches_4 (by decide) (fun _ => ?_) (fun h9 => absurd h9 (by decide))
  refine lv_iload_n hx hb dX5_reaches_17 rfl (lv_at hl 2 rfl) ?_
  have hP9 : va_P D cls [] H := fun k q h => by simp at h
  refine vp_callSi (pS (rest := []) [.int (nI a0)] 1 hC (c_isTime l D (x := nI a0) ) (gS mM_X5_236 mT_X5_isTime mN_X5 mC_X5_isTime) (by decide +kernel) rfl rfl ⟨Nat.le_of_ble_eq_true rfl, Nat.le_of_ble_eq_true rfl⟩ hG hP9 rfl hl.1 rfl (Nat.le_of_ble_eq_true rfl) dX5_reaches_18 ⟨Nat.le_of_ble_eq_true rfl, Nat.le_of_ble_eq_true rfl⟩) (fun r18 h18 => ?_)
  rcases h18 with ⟨rfl, hb18⟩ | ⟨rfl, hb18⟩
  rotate_left
  · exact absurd (⟨nI_pos' (by omega), (nI_leI (a := a0) (b := 100000) (by omega) (by omega)).mpr (by omega)⟩) hb18
  refine lv_if_eq (tgt := 37) hx hb dX5_reaches_21 (by decide) (fun h9 => absurd h9 (by decide)) (fun _ => ?_)
  refine lv_iload_n hx hb dX5_reaches_24 rfl (lv_at hl 3 rfl) ?_
  refine lv_iload_n hx hb dX5_reaches_25 rfl (lv_at hl 2 rfl) ?_
  refine lv_iload_n hx hb dX5_reaches_26 rfl (lv_at hl 2 rfl) ?_
  refine lv_sipush (v := 300) hx hb dX5_reaches_27 (by decide) ?_
  refine lv_iadd hx hb dX5_reaches_30 ?_
  refine tpi (y := nI (a0 + 300)) (nI_add a0 300) ?_
  have hP9 : va_P D cls [] H := fun k q h => by simp at h
  refine vp_callSi (pS (rest := []) [.int (nI b0), .int (nI a0), .int (nI (a0 + 300))] 3 hC (c_isIn l D (x := nI b0) (a := nI a0) (b := nI (a0 + 300)) ) (gS mM_X5_41 mT_X5_isIn mN_X5 mC_X5_isIn) (by decide +kernel) rfl rfl ⟨Nat.le_of_ble_eq_true rfl, Nat.le_of_ble_eq_true rfl⟩ hG hP9 rfl hl.1 rfl (Nat.le_of_ble_eq_true rfl) dX5_reaches_31 ⟨Nat.le_of_ble_eq_true rfl, Nat.le_of_ble_eq_true rfl⟩) (fun r31 h31 => ?_)
  rcases h31 with ⟨rfl, hb31⟩ | ⟨rfl, hb31⟩
  rotate_left
  · exact absurd (⟨(nI_leI (a := a0) (b := b0) (by omega) (by omega)).mpr hab, (nI_leI (a := b0) (b := a0 + 300) (by omega) (by omega)).mpr hb3⟩) hb31
  refine lv_if_ne (tgt := 48) hx hb dX5_reaches_34 (by decide) (fun _ => ?_) (fun h9 => absurd h9 (by decide))
  refine lv_aload_n hx hb dX5_reaches_48 rfl (lv_at hl 0 rfl) ?_
  have hP9 := hP.sub (ws' := [oO xo 5 [.ref lc, .ref lt, .ref bo, .ref yo, .ref no], oO lt 7 [.int m2, .ref et, .int (nI nS)], oO yo 2 [.ref ya, .int (nI n0)], aI D ya 10 yf]) [0, 1, 2, 3] rfl
  have hD9 := (hD.sub (ws' := [oO xo 5 [.ref lc, .ref lt, .ref bo, .ref yo, .ref no], oO lt 7 [.int m2, .ref et, .int (nI nS)], oO yo 2 [.ref ya, .int (nI n0)], aI D ya 10 yf]) [0, 1, 2, 3] (by decide) rfl).weaken (B := fun _ => True) (fun _ _ _ _ => trivial)
  refine kv (wr := [oO bo 2 [.ref ba, .int (nI 4)], aI D ba 4 bf]) (rVX (FX.blind) ((FX.sub hX [0, 1] (fun _ => rfl)).pre hS (va_free' hD hS hA [0, 1, 2, 3] rfl).2) (rest := []) (qc := (RX5, TX5, 5)) [] 0 0 0 hC (c_sortByLayers l D (ck := ck) (cl := cl) (pt := pt) (xo := xo) (lc := lc) (lt := lt) (bo := bo) (yo := yo) (no := no) (m2 := m2) (et := et) (nS := nS) (ya := ya) (n0 := n0) (yf := yf) (hz0 := H.size) (by omega) (by omega)) rfl (hP 0 _ rfl) (gV mM_X5_257 mI_X5_sortByLayers mS_X5_sortByLayers mN_X5 mC_X5_sortByLayers) (by decide +kernel) rfl rfl ⟨Nat.le_of_ble_eq_true rfl, Nat.le_of_ble_eq_true rfl⟩ hG hP9 hD9 rfl hl.1 rfl (Nat.le_of_ble_eq_true rfl) dX5_reaches_49 ⟨Nat.le_of_ble_eq_true rfl, Nat.le_of_ble_eq_true rfl⟩) hP hD hS hA [0, 1, 2, 3] [4, 5] rfl rfl (by decide) (by decide) (fun u49 H locs h49 hP hD hS hz hfr => ?_)
  obtain ⟨g, rfl⟩ : ∃ z, z = u49 := ⟨_, rfl⟩
  have hP : va_P D cls [oO bo 2 [.ref ba, .int (nI 4)], aI D ba 4 bf, oO xo 5 [.ref lc, .ref lt, .ref bo, .ref yo, .ref no], oO lt 7 [.int m2, .ref et, .int (nI nS)], oO yo 2 [.ref ya, .int (nI (lyT (fun z => pt z 7) nS 10).length)], aI D ya 10 g] H := hP
  have hD : va_D A [oO bo 2 [.ref ba, .int (nI 4)], aI D ba 4 bf, oO xo 5 [.ref lc, .ref lt, .ref bo, .ref yo, .ref no], oO lt 7 [.int m2, .ref et, .int (nI nS)], oO yo 2 [.ref ya, .int (nI (lyT (fun z => pt z 7) nS 10).length)], aI D ya 10 g] := hD
  have hg := h49
  refine lv_iload_n hx hb dX5_reaches_52 rfl (lv_at hl 2 rfl) ?_
  refine lv_istore (lv' := [(5, .int (nI a0)), (0, .ref xo), (1, .int (nI j)), (2, .int (nI a0)), (3, .int (nI b0)), (4, .int y)]) hx hb dX5_reaches_53 hl (by decide) rfl (fun ls hl => ?_)
  have loop55 : ∀ (d9 : Nat) (t0 : Nat), (b0 + 1 - t0) < d9 → (a0 ≤ t0) → (t0 ≤ b0 + 1) → (∀ z, a0 ≤ z → z < t0 → ¬ y ≤ vf z) → ∀ (ls : Array Slot), lv_has ls 6 [(0, .ref xo), (1, .int (nI j)), (3, .int (nI b0)), (4, .int y), (5, .int (nI t0))] → W p l e ({ frames := 6, cells := 0, slots := 0, locals := 152 } : Room) s m ([.ref xo, .int (nI j), .int (nI a0), .int (nI b0), .int y] : List Value).toArray below meth c H locs 0 0 (MQ below (va_Qi (fun v _ => (∃ x, a0 ≤ x ∧ x ≤ b0 ∧ v = nI x ∧ y ≤ vf x ∧ ∀ z, a0 ≤ z → z < x → ¬ y ≤ vf z) ∨ (v = -1 ∧ ∀ z, a0 ≤ z → z ≤ b0 → ¬ y ≤ vf z)) (AT D A (fun g : Nat → Int32 => [oO xo 5 [.ref lc, .ref lt, .ref bo, .ref yo, .ref no], oO lt 7 [.int m2, .ref et, .int (nI nS)], oO yo 2 [.ref ya, .int (nI (lyT (fun z => pt z 7) nS 10).length)], aI D ya 10 g, oO bo 2 [.ref ba, .int (nI 4)], aI D ba 4 bf])) A) ([.ref xo, .int (nI j), .int (nI a0), .int (nI b0), .int y] : List Value).toArray s 0 0 A) (F0 m 55 ls []) := by
    intro d9
    induction d9 with
    | zero => intro t0 hd; exact absurd hd (Nat.not_lt_zero _)
    | succ d9 ih55 =>
      intro t0 hd55 ht0 ht1 hno ls hl
      refine lv_iload hx hb dX5_reaches_55 (lv_at hl 4 rfl) ?_
      refine lv_iload_n hx hb dX5_reaches_57 rfl (lv_at hl 2 rfl) ?_
      refine lv_icmp_gt (tgt := 82) hx hb dX5_reaches_58 (by decide) (fun c58 => ?_) (fun c58 => ?_)
      · skip
        have n58 := (nI_ltI (a := b0) (b := t0) (by omega) (by omega)).mp c58
        refine lv_iconst (v := -1) hx hb dX5_reaches_82 (by decide) ?_
        refine Wi g hx hb hr hlk ?_ (hP.sub [2, 3, 4, 5, 0, 1] rfl) (hD.sub [2, 3, 4, 5, 0, 1] (by decide) rfl) hS (Nat.le_of_ble_eq_true rfl) (by first | exact Nat.le_of_ble_eq_true rfl | exact Nat.le_of_eq (Nat.zero_add _)) dX5_reaches_83
        exact Or.inr ⟨rfl, fun z h1 h2 => hno z h1 (by omega)⟩
      · skip
        have n58 := mt (nI_ltI (a := b0) (b := t0) (by omega) (by omega)).mpr c58
        refine lv_aload_n hx hb dX5_reaches_61 rfl (lv_at hl 0 rfl) ?_
        refine lv_iload_n hx hb dX5_reaches_62 rfl (lv_at hl 1 rfl) ?_
        refine lv_iload hx hb dX5_reaches_63 (lv_at hl 4 rfl) ?_
        have hP9 := hP.sub (ws' := [oO xo 5 [.ref lc, .ref lt, .ref bo, .ref yo, .ref no], oO lt 7 [.int m2, .ref et, .int (nI nS)], oO bo 2 [.ref ba, .int (nI 4)], aI D ba 4 bf, oO yo 2 [.ref ya, .int (nI (lyT (fun z => pt z 7) nS 10).length)], aI D ya 10 g]) [2, 3, 0, 1, 4, 5] rfl
        refine vp_callSi (pVX (FX.blind) (FX.pre (A1 := fun _ => False) hX hS (fun _ h => False.elim h)) (rest := []) (qc := (RX5, TX5, 5)) [.int (nI j), .int (nI t0)] 2 hC (c_stageVal l D (ck := ck) (cl := cl) (pt := pt) (len := len) (ta := ta) (q := q) (t := t) (r := r) (a := a) (sz := sz) (f := f) (ll := (lyT (fun z => pt z 7) nS 10)) (yf := g) (xo := xo) (j := j) (x := nI t0) (lc := lc) (lt := lt) (bo := bo) (yo := yo) (no := no) (m2 := m2) (et := et) (nS := nS) (ba := ba) (bf := bf) (ya := ya) (hnS) (by omega) (hp) (hq) (hln) (h16) (hT) (fun i hi => hF i hi t0 (by omega) (by omega)) (Nat.le_trans (lyT_10 (lay := (fun z => pt z 7)) hnS) hnS) (fun z hz => lyT_lt hz) (hg)) rfl (hP 2 _ rfl) (gV mM_X5_260 mI_X5_valueAt mS_X5_valueAt mN_X5 mC_X5_valueAt) (by decide +kernel) rfl rfl ⟨Nat.le_of_ble_eq_true rfl, Nat.le_of_ble_eq_true rfl⟩ hG hP9 rfl hl.1 rfl (Nat.le_of_ble_eq_true rfl) dX5_reaches_65 ⟨Nat.le_of_ble_eq_true rfl, Nat.le_of_ble_eq_true rfl⟩) (fun r65 h65 => ?_)
        obtain rfl : r65 = (valL (fun z v => blendS (len (ck z)) (pt z) (sz (ck z) j) (f (ck z) (3 * j)) (f (ck z) (3 * j + 1)) (f (ck z) (3 * j + 2)) v (nI t0)) (lyT (fun z => pt z 7) nS 10) (bf j) (lyT (fun z => pt z 7) nS 10).length) := h65
        refine tpi (y := vf t0) ((hvf t0).symm) ?_
        refine lv_iload hx hb dX5_reaches_68 (lv_at hl 3 rfl) ?_
        refine lv_icmp_lt (tgt := 76) hx hb dX5_reaches_70 (by decide) (fun c70 => ?_) (fun c70 => ?_)
        · skip
          refine lv_iinc (v := nI (t0 + 1)) (lv' := [(5, .int (nI (t0 + 1))), (0, .ref xo), (1, .int (nI j)), (3, .int (nI b0)), (4, .int y)]) hx hb dX5_reaches_76 hl (k := 4) rfl (nI_1 _) (by decide) rfl (fun ls hl => ?_)
          refine lv_goto (tgt := 55) hx hb dX5_reaches_79 (by decide) ?_
          exact ih55 (t0 + 1) (by omega) (by omega) (by omega) (fun z h1 h2 => by
                              rcases Nat.lt_or_ge z t0 with q | q
                              · exact hno z h1 q
                              · have e9 : z = t0 := by omega
                                subst e9
                                exact Int32.not_le.mpr c70) _ (lv_sub hl [1, 2, 3, 4, 0] rfl)
        · skip
          refine lv_iload hx hb dX5_reaches_73 (lv_at hl 4 rfl) ?_
          refine Wi g hx hb hr hlk ?_ (hP.sub [2, 3, 4, 5, 0, 1] rfl) (hD.sub [2, 3, 4, 5, 0, 1] (by decide) rfl) hS (Nat.le_of_ble_eq_true rfl) (by first | exact Nat.le_of_ble_eq_true rfl | exact Nat.le_of_eq (Nat.zero_add _)) dX5_reaches_75
          exact Or.inl ⟨t0, by omega, by omega, rfl, Int32.not_lt.mp c70, hno⟩
  exact loop55 _ a0 (Nat.lt_succ_self _) (by omega) (by omega) (fun z h1 h2 => absurd h2 (Nat.not_lt.mpr h1)) _ (lv_sub hl [1, 2, 4, 5, 0] rfl)
set_option maxHeartbeats 4000000 in
set_option maxRecDepth 100000 in
theorem c_mean (l : Launch) (D : va_G) {xo lc lt bo yo no : Nat} {et nS : Nat} {m2 : Int32} {sl ck cl ta : Nat → Nat} {pt : Nat → Nat → Int32} {len : Nat → Int32} {q : Nat → Nat → Nat} {t r a sz : Nat → Nat → Nat} {f : Nat → Nat → Nat → Int32} {ba ya n0 j : Nat} {bf yf : Nat → Int32} {a0 b0 : Nat} {vf : Nat → Int32} (hz0 : Nat) (hnS : nS ≤ 10) (hn0 : n0 ≤ 10) (hj : j < 4) (ha0 : a0 ≤ 100000) (hab : a0 ≤ b0) (hb3 : b0 ≤ a0 + 300) (hp : ∀ i, i < nS → 0 < pt i 5) (hq : ∀ i, i < nS → 0 < pt i 6) (hln : ∀ i, i < nS → 0 < len (ck i)) (h16 : ∀ i, i < nS → sz (ck i) j ≤ 16) (hT : ∀ i, i < nS → tOK (f (ck i) (3 * j)) (sz (ck i) j)) (hF : ∀ i, i < nS → ∀ x, a0 ≤ x → x ≤ b0 → isOnS (len (ck i)) (pt i) (nI x) → fadesOK (len (ck i)) (pt i) (nI x)) (hvf : ∀ x, vf x = valL (fun z v => blendS (len (ck z)) (pt z) (sz (ck z) j) (f (ck z) (3 * j)) (f (ck z) (3 * j + 1)) (f (ck z) (3 * j + 2)) v (nI x)) (lyT (fun z => pt z 7) nS 10) (bf j) (lyT (fun z => pt z 7) nS 10).length) (hnan : vf_n64 (FP.ddiv (FP.l2d (sumF vf a0 (b0 + 1 - a0))) (FP.i2d (nI (b0 - a0 + 1))))) : Met l yX5_mean (ws_ yX5_mean cX5_mean 7 (some .double)) ({ frames := 6, cells := 0, slots := 0, locals := 152 } : Room) (va_Pc [.ref xo, .int (nI j), .int (nI a0), .int (nI b0)] (SX D [oO xo 5 [.ref lc, .ref lt, .ref bo, .ref yo, .ref no], oO lt 7 [.int m2, .ref et, .int (nI nS)], oO yo 2 [.ref ya, .int (nI n0)], aI D ya 10 yf, oO bo 2 [.ref ba, .int (nI 4)], aI D ba 4 bf] hz0 (FX D nS (fun i => [aO D et 10 (lsF sl nS), oO (sl i) 3 [.ref (cl (ck i)), .int (pt i 0), .int (pt i 1), .int (pt i 3), .int (pt i 4), .int (pt i 5), .int (pt i 6), .int (pt i 7), .int (pt i 8), .int (pt i 9), .int (pt i 10), .int (pt i 11), .int (pt i 12)], oO (cl (ck i)) 0 [.int (len (ck i)), .ref (ta (ck i)), .ref (q (ck i) 0), .ref (q (ck i) 1)], aT D (ta (ck i)) 4 (tkF (t (ck i))), oO (t (ck i) j) 4 [.ref (r (ck i) (3 * j)), .ref (r (ck i) (3 * j + 1)), .ref (r (ck i) (3 * j + 2))], oO (r (ck i) (3 * j)) 2 [.ref (a (ck i) (3 * j)), .int (nI (sz (ck i) j))], oO (r (ck i) (3 * j + 1)) 2 [.ref (a (ck i) (3 * j + 1)), .int (nI (sz (ck i) j))], oO (r (ck i) (3 * j + 2)) 2 [.ref (a (ck i) (3 * j + 2)), .int (nI (sz (ck i) j))], aI D (a (ck i) (3 * j)) 16 (f (ck i) (3 * j)), aI D (a (ck i) (3 * j + 1)) 16 (f (ck i) (3 * j + 1)), aI D (a (ck i) (3 * j + 2)) 16 (f (ck i) (3 * j + 2))]) (va_A [oO xo 5 [.ref lc, .ref lt, .ref bo, .ref yo, .ref no], oO lt 7 [.int m2, .ref et, .int (nI nS)], oO yo 2 [.ref ya, .int (nI n0)], aI D ya 10 yf, oO bo 2 [.ref ba, .int (nI 4)], aI D ba 4 bf] hz0)))) (va_Qd (fun v _ => v = FP.ddiv (FP.l2d (sumF vf a0 (b0 + 1 - a0))) (FP.i2d (nI (b0 - a0 + 1)))) (AT D (va_A [oO xo 5 [.ref lc, .ref lt, .ref bo, .ref yo, .ref no], oO lt 7 [.int m2, .ref et, .int (nI nS)], oO yo 2 [.ref ya, .int (nI n0)], aI D ya 10 yf, oO bo 2 [.ref ba, .int (nI 4)], aI D ba 4 bf] hz0) (fun g : Nat → Int32 => [oO xo 5 [.ref lc, .ref lt, .ref bo, .ref yo, .ref no], oO lt 7 [.int m2, .ref et, .int (nI nS)], oO yo 2 [.ref ya, .int (nI (lyT (fun z => pt z 7) nS 10).length)], aI D ya 10 g, oO bo 2 [.ref ba, .int (nI 4)], aI D ba 4 bf])) (va_A [oO xo 5 [.ref lc, .ref lt, .ref bo, .ref yo, .ref no], oO lt 7 [.int m2, .ref et, .int (nI nS)], oO yo 2 [.ref ya, .int (nI n0)], aI D ya 10 yf, oO bo 2 [.ref ba, .int (nI 4)], aI D ba 4 bf] hz0)) 0 0 (va_A [oO xo 5 [.ref lc, .ref lt, .ref bo, .ref yo, .ref no], oO lt 7 [.int m2, .ref et, .int (nI nS)], oO yo 2 [.ref ya, .int (nI n0)], aI D ya 10 yf, oO bo 2 [.ref ba, .int (nI 4)], aI D ba 4 bf] hz0) := by
  refine Met.ofW (cc := cX5_mean) (maxL := 7) (ret := (some .double)) (by decide) rfl ?_
  intro p e s m args below meth c s₁ B hml hv
  obtain ⟨rfl, ⟨hsz, hG, hP, hD0⟩, hX⟩ := hv
  have hx := B.exec
  have hb := B.bytes
  have hr := B.returns
  have hts : ∀ w ∈ wsL_law, w.before _ s = true := fun w h => atoms_spec (ws := (ws_ yX5_mean cX5_mean 7 (some .double))) B.pre w (List.mem_cons_of_mem _ h)
  have hown : s.vm.findClass RX5 = some m.cls := findClass_of_methodNamed B.named
  have hlk := B.notSynchronized
  have hC : CallFix p m c cX5_mean 7 s _ wsL_law RX5 := ⟨hx, hb, hml, hown, hts⟩
  subst hsz
  have hD := hD0.self (sz := s.heap.size)
  generalize hAe : va_A [oO xo 5 [.ref lc, .ref lt, .ref bo, .ref yo, .ref no], oO lt 7 [.int m2, .ref et, .int (nI nS)], oO yo 2 [.ref ya, .int (nI n0)], aI D ya 10 yf, oO bo 2 [.ref ba, .int (nI 4)], aI D ba 4 bf] s.heap.size = A at hD hX ⊢
  have hA : ∀ q : Nat, s.heap.size ≤ q → A q := fun q h => by rw [← hAe]; exact Or.inr h
  have hS : va_S A s.heap s.heap [] := va_S.rf
  obtain ⟨H, hHe⟩ : ∃ H, H = s.heap := ⟨_, rfl⟩
  rw [← hHe] at hP
  have hS : va_S A s.heap H [] := by rw [hHe]; exact hS
  have hl := lv_entry ([.ref xo, .int (nI j), .int (nI a0), .int (nI b0)]) (n := 7) (Nat.le_of_ble_eq_true rfl)
  rw [lg_entry_eq]
  generalize (lg_sl ([.ref xo, .int (nI j), .int (nI a0), .int (nI b0)]) ++ List.replicate (7 - (lg_sl ([.ref xo, .int (nI j), .int (nI a0), .int (nI b0)])).length) Slot.unset).toArray = ls at hl ⊢
  have hl : lv_has ls 7 [(0, .ref xo), (1, .int (nI j)), (2, .int (nI a0)), (3, .int (nI b0))] := hl
  rw [← hHe]
  refine lv_iload_n hx hb dX5_mean_0 rfl (lv_at hl 1 rfl) ?_
  have hP9 : va_P D cls [] H := fun k q h => by simp at h
  refine vp_callSi (pS (rest := []) [.int (nI j)] 1 hC (c_isProperty l D (x := nI j) ) (gS mM_X5_166 mT_X5_isProperty mN_X5 mC_X5_isProperty) (by decide +kernel) rfl rfl ⟨Nat.le_of_ble_eq_true rfl, Nat.le_of_ble_eq_true rfl⟩ hG hP9 rfl hl.1 rfl (Nat.le_of_ble_eq_true rfl) dX5_mean_1 ⟨Nat.le_of_ble_eq_true rfl, Nat.le_of_ble_eq_true rfl⟩) (fun r1 h1 => ?_)
  rcases h1 with ⟨rfl, hb1⟩ | ⟨rfl, hb1⟩
  rotate_left
  · exact absurd (in3 hj) hb1
  refine lv_if_ne (tgt := 17) hx hb dX5_mean_4 (by decide) (fun _ => ?_) (fun h9 => absurd h9 (by decide))
  refine lv_iload_n hx hb dX5_mean_17 rfl (lv_at hl 2 rfl) ?_
  have hP9 : va_P D cls [] H := fun k q h => by simp at h
  refine vp_callSi (pS (rest := []) [.int (nI a0)] 1 hC (c_isTime l D (x := nI a0) ) (gS mM_X5_236 mT_X5_isTime mN_X5 mC_X5_isTime) (by decide +kernel) rfl rfl ⟨Nat.le_of_ble_eq_true rfl, Nat.le_of_ble_eq_true rfl⟩ hG hP9 rfl hl.1 rfl (Nat.le_of_ble_eq_true rfl) dX5_mean_18 ⟨Nat.le_of_ble_eq_true rfl, Nat.le_of_ble_eq_true rfl⟩) (fun r18 h18 => ?_)
  rcases h18 with ⟨rfl, hb18⟩ | ⟨rfl, hb18⟩
  rotate_left
  · exact absurd (⟨nI_pos' (by omega), (nI_leI (a := a0) (b := 100000) (by omega) (by omega)).mpr (by omega)⟩) hb18
  refine lv_if_eq (tgt := 37) hx hb dX5_mean_21 (by decide) (fun h9 => absurd h9 (by decide)) (fun _ => ?_)
  refine lv_iload_n hx hb dX5_mean_24 rfl (lv_at hl 3 rfl) ?_
  refine lv_iload_n hx hb dX5_mean_25 rfl (lv_at hl 2 rfl) ?_
  refine lv_iload_n hx hb dX5_mean_26 rfl (lv_at hl 2 rfl) ?_
  refine lv_sipush (v := 300) hx hb dX5_mean_27 (by decide) ?_
  refine lv_iadd hx hb dX5_mean_30 ?_
  refine tpi (y := nI (a0 + 300)) (nI_add a0 300) ?_
  have hP9 : va_P D cls [] H := fun k q h => by simp at h
  refine vp_callSi (pS (rest := []) [.int (nI b0), .int (nI a0), .int (nI (a0 + 300))] 3 hC (c_isIn l D (x := nI b0) (a := nI a0) (b := nI (a0 + 300)) ) (gS mM_X5_41 mT_X5_isIn mN_X5 mC_X5_isIn) (by decide +kernel) rfl rfl ⟨Nat.le_of_ble_eq_true rfl, Nat.le_of_ble_eq_true rfl⟩ hG hP9 rfl hl.1 rfl (Nat.le_of_ble_eq_true rfl) dX5_mean_31 ⟨Nat.le_of_ble_eq_true rfl, Nat.le_of_ble_eq_true rfl⟩) (fun r31 h31 => ?_)
  rcases h31 with ⟨rfl, hb31⟩ | ⟨rfl, hb31⟩
  rotate_left
  · exact absurd (⟨(nI_leI (a := a0) (b := b0) (by omega) (by omega)).mpr hab, (nI_leI (a := b0) (b := a0 + 300) (by omega) (by omega)).mpr hb3⟩) hb31
  refine lv_if_ne (tgt := 48) hx hb dX5_mean_34 (by decide) (fun _ => ?_) (fun h9 => absurd h9 (by decide))
  refine lv_aload_n hx hb dX5_mean_48 rfl (lv_at hl 0 rfl) ?_
  have hP9 := hP.sub (ws' := [oO xo 5 [.ref lc, .ref lt, .ref bo, .ref yo, .ref no], oO lt 7 [.int m2, .ref et, .int (nI nS)], oO yo 2 [.ref ya, .int (nI n0)], aI D ya 10 yf]) [0, 1, 2, 3] rfl
  have hD9 := (hD.sub (ws' := [oO xo 5 [.ref lc, .ref lt, .ref bo, .ref yo, .ref no], oO lt 7 [.int m2, .ref et, .int (nI nS)], oO yo 2 [.ref ya, .int (nI n0)], aI D ya 10 yf]) [0, 1, 2, 3] (by decide) rfl).weaken (B := fun _ => True) (fun _ _ _ _ => trivial)
  refine kv (wr := [oO bo 2 [.ref ba, .int (nI 4)], aI D ba 4 bf]) (rVX (FX.blind) ((FX.sub hX [0, 1] (fun _ => rfl)).pre hS (va_free' hD hS hA [0, 1, 2, 3] rfl).2) (rest := []) (qc := (RX5, TX5, 5)) [] 0 0 0 hC (c_sortByLayers l D (ck := ck) (cl := cl) (pt := pt) (xo := xo) (lc := lc) (lt := lt) (bo := bo) (yo := yo) (no := no) (m2 := m2) (et := et) (nS := nS) (ya := ya) (n0 := n0) (yf := yf) (hz0 := H.size) (by omega) (by omega)) rfl (hP 0 _ rfl) (gV mM_X5_257 mI_X5_sortByLayers mS_X5_sortByLayers mN_X5 mC_X5_sortByLayers) (by decide +kernel) rfl rfl ⟨Nat.le_of_ble_eq_true rfl, Nat.le_of_ble_eq_true rfl⟩ hG hP9 hD9 rfl hl.1 rfl (Nat.le_of_ble_eq_true rfl) dX5_mean_49 ⟨Nat.le_of_ble_eq_true rfl, Nat.le_of_ble_eq_true rfl⟩) hP hD hS hA [0, 1, 2, 3] [4, 5] rfl rfl (by decide) (by decide) (fun u49 H locs h49 hP hD hS hz hfr => ?_)
  obtain ⟨g, rfl⟩ : ∃ z, z = u49 := ⟨_, rfl⟩
  have hP : va_P D cls [oO bo 2 [.ref ba, .int (nI 4)], aI D ba 4 bf, oO xo 5 [.ref lc, .ref lt, .ref bo, .ref yo, .ref no], oO lt 7 [.int m2, .ref et, .int (nI nS)], oO yo 2 [.ref ya, .int (nI (lyT (fun z => pt z 7) nS 10).length)], aI D ya 10 g] H := hP
  have hD : va_D A [oO bo 2 [.ref ba, .int (nI 4)], aI D ba 4 bf, oO xo 5 [.ref lc, .ref lt, .ref bo, .ref yo, .ref no], oO lt 7 [.int m2, .ref et, .int (nI nS)], oO yo 2 [.ref ya, .int (nI (lyT (fun z => pt z 7) nS 10).length)], aI D ya 10 g] := hD
  have hg := h49
  refine lv_lconst (v := 0) hx hb dX5_mean_52 (by decide) ?_
  refine lv_lstore (lv' := [(4, .long 0), (0, .ref xo), (1, .int (nI j)), (2, .int (nI a0)), (3, .int (nI b0))]) hx hb dX5_mean_53 hl (by decide) rfl (fun ls hl => ?_)
  refine lv_iload_n hx hb dX5_mean_55 rfl (lv_at hl 3 rfl) ?_
  refine lv_istore (lv' := [(6, .int (nI a0)), (4, .long 0), (0, .ref xo), (1, .int (nI j)), (2, .int (nI a0)), (3, .int (nI b0))]) hx hb dX5_mean_56 hl (by decide) rfl (fun ls hl => ?_)
  have loop58 : ∀ (d9 : Nat) (k : Nat), (b0 + 1 - (a0 + k)) < d9 → (a0 + k ≤ b0 + 1) → ∀ (ls : Array Slot), lv_has ls 7 [(0, .ref xo), (1, .int (nI j)), (2, .int (nI a0)), (3, .int (nI b0)), (4, .long (sumF vf a0 k)), (6, .int (nI (a0 + k)))] → W p l e ({ frames := 6, cells := 0, slots := 0, locals := 152 } : Room) s m ([.ref xo, .int (nI j), .int (nI a0), .int (nI b0)] : List Value).toArray below meth c H locs 0 0 (MQ below (va_Qd (fun v _ => v = FP.ddiv (FP.l2d (sumF vf a0 (b0 + 1 - a0))) (FP.i2d (nI (b0 - a0 + 1)))) (AT D A (fun g : Nat → Int32 => [oO xo 5 [.ref lc, .ref lt, .ref bo, .ref yo, .ref no], oO lt 7 [.int m2, .ref et, .int (nI nS)], oO yo 2 [.ref ya, .int (nI (lyT (fun z => pt z 7) nS 10).length)], aI D ya 10 g, oO bo 2 [.ref ba, .int (nI 4)], aI D ba 4 bf])) A) ([.ref xo, .int (nI j), .int (nI a0), .int (nI b0)] : List Value).toArray s 0 0 A) (F0 m 58 ls []) := by
    intro d9
    induction d9 with
    | zero => intro k hd; exact absurd hd (Nat.not_lt_zero _)
    | succ d9 ih58 =>
      intro k hd58 hk ls hl
      refine lv_iload hx hb dX5_mean_58 (lv_at hl 5 rfl) ?_
      refine lv_iload_n hx hb dX5_mean_60 rfl (lv_at hl 3 rfl) ?_
      refine lv_icmp_gt (tgt := 83) hx hb dX5_mean_61 (by decide) (fun c61 => ?_) (fun c61 => ?_)
      · skip
        have n61 := (nI_ltI (a := b0) (b := a0 + k) (by omega) (by omega)).mp c61
        have hk8 : k = b0 + 1 - a0 := by omega
        subst k
        refine lv_lload hx hb dX5_mean_83 (lv_at hl 4 rfl) ?_
        refine lv_l2d hx hb dX5_mean_85 ?_
        refine lv_iload_n hx hb dX5_mean_86 rfl (lv_at hl 3 rfl) ?_
        refine lv_iload_n hx hb dX5_mean_87 rfl (lv_at hl 2 rfl) ?_
        refine lv_isub hx hb dX5_mean_88 ?_
        refine tpi (y := nI (b0 - a0)) (pk_sub (a := b0) (b := a0) (by omega)) ?_
        refine lv_iconst (v := 1) hx hb dX5_mean_89 (by decide) ?_
        refine lv_iadd hx hb dX5_mean_90 ?_
        refine tpi (y := nI ((b0 - a0) + 1)) (nI_add (b0 - a0) 1) ?_
        refine lv_i2d hx hb dX5_mean_91 ?_
        refine lv_ddiv hx hb dX5_mean_92 (hnan) ?_
        refine Wd g hx hb hr hlk ?_ (hP.sub [2, 3, 4, 5, 0, 1] rfl) (hD.sub [2, 3, 4, 5, 0, 1] (by decide) rfl) hS (Nat.le_of_ble_eq_true rfl) (by first | exact Nat.le_of_ble_eq_true rfl | exact Nat.le_of_eq (Nat.zero_add _)) dX5_mean_93
        exact rfl
      · skip
        have n61 := mt (nI_ltI (a := b0) (b := a0 + k) (by omega) (by omega)).mpr c61
        refine lv_lload hx hb dX5_mean_64 (lv_at hl 4 rfl) ?_
        refine lv_aload_n hx hb dX5_mean_66 rfl (lv_at hl 0 rfl) ?_
        refine lv_iload_n hx hb dX5_mean_67 rfl (lv_at hl 1 rfl) ?_
        refine lv_iload hx hb dX5_mean_68 (lv_at hl 5 rfl) ?_
        have hP9 := hP.sub (ws' := [oO xo 5 [.ref lc, .ref lt, .ref bo, .ref yo, .ref no], oO lt 7 [.int m2, .ref et, .int (nI nS)], oO bo 2 [.ref ba, .int (nI 4)], aI D ba 4 bf, oO yo 2 [.ref ya, .int (nI (lyT (fun z => pt z 7) nS 10).length)], aI D ya 10 g]) [2, 3, 0, 1, 4, 5] rfl
        refine vp_callSi (pVX (FX.blind) (FX.pre (A1 := fun _ => False) hX hS (fun _ h => False.elim h)) (rest := [.long (sumF vf a0 k)]) (qc := (RX5, TX5, 5)) [.int (nI j), .int (nI (a0 + k))] 2 hC (c_stageVal l D (ck := ck) (cl := cl) (pt := pt) (len := len) (ta := ta) (q := q) (t := t) (r := r) (a := a) (sz := sz) (f := f) (ll := (lyT (fun z => pt z 7) nS 10)) (yf := g) (xo := xo) (j := j) (x := nI (a0 + k)) (lc := lc) (lt := lt) (bo := bo) (yo := yo) (no := no) (m2 := m2) (et := et) (nS := nS) (ba := ba) (bf := bf) (ya := ya) (hnS) (by omega) (hp) (hq) (hln) (h16) (hT) (fun i hi => hF i hi (a0 + k) (by omega) (by omega)) (Nat.le_trans (lyT_10 (lay := (fun z => pt z 7)) hnS) hnS) (fun z hz => lyT_lt hz) (hg)) rfl (hP 2 _ rfl) (gV mM_X5_260 mI_X5_valueAt mS_X5_valueAt mN_X5 mC_X5_valueAt) (by decide +kernel) rfl rfl ⟨Nat.le_of_ble_eq_true rfl, Nat.le_of_ble_eq_true rfl⟩ hG hP9 rfl hl.1 rfl (Nat.le_of_ble_eq_true rfl) dX5_mean_70 ⟨Nat.le_of_ble_eq_true rfl, Nat.le_of_ble_eq_true rfl⟩) (fun r70 h70 => ?_)
        obtain rfl : r70 = (valL (fun z v => blendS (len (ck z)) (pt z) (sz (ck z) j) (f (ck z) (3 * j)) (f (ck z) (3 * j + 1)) (f (ck z) (3 * j + 2)) v (nI (a0 + k))) (lyT (fun z => pt z 7) nS 10) (bf j) (lyT (fun z => pt z 7) nS 10).length) := h70
        refine tpi (y := vf (a0 + k)) ((hvf (a0 + k)).symm) ?_
        refine lv_i2l hx hb dX5_mean_73 rfl ?_
        refine lv_ladd hx hb dX5_mean_74 ?_
        refine tpl (y := sumF vf a0 (k + 1)) (rfl) ?_
        refine lv_lstore (lv' := [(4, .long (sumF vf a0 (k + 1))), (0, .ref xo), (1, .int (nI j)), (2, .int (nI a0)), (3, .int (nI b0)), (6, .int (nI (a0 + k)))]) hx hb dX5_mean_75 hl (by decide) rfl (fun ls hl => ?_)
        refine lv_iinc (v := nI (a0 + k + 1)) (lv' := [(6, .int (nI (a0 + k + 1))), (4, .long (sumF vf a0 (k + 1))), (0, .ref xo), (1, .int (nI j)), (2, .int (nI a0)), (3, .int (nI b0))]) hx hb dX5_mean_77 hl (k := 5) rfl (nI_1 _) (by decide) rfl (fun ls hl => ?_)
        refine lv_goto (tgt := 58) hx hb dX5_mean_80 (by decide) ?_
        exact ih58 (k + 1) (by omega) (by omega) _ (lv_sub hl [2, 3, 4, 5, 1, 0] rfl)
  exact loop58 _ 0 (Nat.lt_succ_self _) (by omega) _ (lv_sub hl [2, 3, 4, 5, 1, 0] rfl)
