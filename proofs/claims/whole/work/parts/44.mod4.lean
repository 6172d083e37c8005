set_option maxHeartbeats 400000 in
set_option maxRecDepth 100000 in
theorem m_setBase_1 (l : Launch) (D : va_G) {mo a1 a2 a3 a4 a5 a6 a7 a8 a9 a10 a11 nC nS nM : Nat} {th : Int32} {p1 x : Int32} (hz0 : Nat) (h : ¬ ((0 : Int32) ≤ p1 ∧ p1 ≤ 3)) : Met l yX6_setBase (ws_ yX6_setBase cX6_setBase 4 (some .int)) ({ frames := 1, cells := 0, slots := 0, locals := 22 } : Room) (va_Pc [.ref mo, .int p1, .int x] (SW D [oO mo 6 [.int th, .ref a1, .int (nI nC), .ref a2, .ref a3, .ref a4, .ref a5, .ref a6, .ref a7, .ref a8, .ref a9, .int (nI nS), .ref a10, .int (nI nM), .ref a11]] hz0)) (va_Qi (fun v _ => v = 0) (AT D (va_A [oO mo 6 [.int th, .ref a1, .int (nI nC), .ref a2, .ref a3, .ref a4, .ref a5, .ref a6, .ref a7, .ref a8, .ref a9, .int (nI nS), .ref a10, .int (nI nM), .ref a11]] hz0) (fun _ : Unit => [oO mo 6 [.int 1, .ref a1, .int (nI nC), .ref a2, .ref a3, .ref a4, .ref a5, .ref a6, .ref a7, .ref a8, .ref a9, .int (nI nS), .ref a10, .int (nI nM), .ref a11]])) (va_A [oO mo 6 [.int th, .ref a1, .int (nI nC), .ref a2, .ref a3, .ref a4, .ref a5, .ref a6, .ref a7, .ref a8, .ref a9, .int (nI nS), .ref a10, .int (nI nM), .ref a11]] hz0)) 0 0 (va_A [oO mo 6 [.int th, .ref a1, .int (nI nC), .ref a2, .ref a3, .ref a4, .ref a5, .ref a6, .ref a7, .ref a8, .ref a9, .int (nI nS), .ref a10, .int (nI nM), .ref a11]] hz0) := by
  refine Met.ofW (cc := cX6_setBase) (maxL := 4) (ret := (some .int)) (by decide) rfl ?_
  intro p e s m args below meth c s₁ B hml hv
  obtain ⟨rfl, hsz, hG, hP, hD0⟩ := hv
  have hx := B.exec
  have hb := B.bytes
  have hr := B.returns
  have hts : ∀ w ∈ wsL_law, w.before _ s = true := fun w h => atoms_spec (ws := (ws_ yX6_setBase cX6_setBase 4 (some .int))) B.pre w (List.mem_cons_of_mem _ h)
  have hown : s.vm.findClass RX6 = some m.cls := findClass_of_methodNamed B.named
  have hlk := B.notSynchronized
  have hC : CallFix p m c cX6_setBase 4 s _ wsL_law RX6 := ⟨hx, hb, hml, hown, hts⟩
  subst hsz
  have hD := hD0.self (sz := s.heap.size)
  generalize hAe : va_A [oO mo 6 [.int th, .ref a1, .int (nI nC), .ref a2, .ref a3, .ref a4, .ref a5, .ref a6, .ref a7, .ref a8, .ref a9, .int (nI nS), .ref a10, .int (nI nM), .ref a11]] s.heap.size = A at hD ⊢
  have hA : ∀ q : Nat, s.heap.size ≤ q → A q := fun q h => by rw [← hAe]; exact Or.inr h
  have hS : va_S A s.heap s.heap [] := va_S.rf
  obtain ⟨H, hHe⟩ : ∃ H, H = s.heap := ⟨_, rfl⟩
  rw [← hHe] at hP
  have hS : va_S A s.heap H [] := by rw [hHe]; exact hS
  have hl := lv_entry ([.ref mo, .int p1, .int x]) (n := 4) (Nat.le_of_ble_eq_true rfl)
  rw [lg_entry_eq]
  generalize (lg_sl ([.ref mo, .int p1, .int x]) ++ List.replicate (4 - (lg_sl ([.ref mo, .int p1, .int x])).length) Slot.unset).toArray = ls at hl ⊢
  have hl : lv_has ls 4 [(0, .ref mo), (1, .int p1), (2, .int x)] := hl
  rw [← hHe]
  refine lv_aload_n hx hb dX6_setBase_0 rfl (lv_at hl 0 rfl) ?_
  refine lv_iconst (v := 0) hx hb dX6_setBase_1 (by decide) ?_
  refine va_put (D := D) (ci := 6) (v := .int 0) (ty := .int) (C := RX6) (T := TX6) (N := 15) hx hb hts inlX6 tyX6 tyX6_ok nmX6 hown hG.K hP hD hS 0 rfl rfl 0 (by decide) (hts _ mF_X6_43) (fun _ h9 => h9) rfl (by decide +kernel) rfl rfl (Nat.le_of_ble_eq_true rfl) dX6_setBase_2 (fun H locs hP hD hS => ?_)
  have hP : va_P D cls [oO mo 6 [.int 0, .ref a1, .int (nI nC), .ref a2, .ref a3, .ref a4, .ref a5, .ref a6, .ref a7, .ref a8, .ref a9, .int (nI nS), .ref a10, .int (nI nM), .ref a11]] H := hP
  have hD : va_D A [oO mo 6 [.int 0, .ref a1, .int (nI nC), .ref a2, .ref a3, .ref a4, .ref a5, .ref a6, .ref a7, .ref a8, .ref a9, .int (nI nS), .ref a10, .int (nI nM), .ref a11]] := hD
  refine lv_iload_n hx hb dX6_setBase_5 rfl (lv_at hl 1 rfl) ?_
  refine lv_iconst (v := 0) hx hb dX6_setBase_6 (by decide) ?_
  refine lv_iconst (v := 3) hx hb dX6_setBase_7 (by decide) ?_
  have hP9 : va_P D cls [] H := fun k q h => by simp at h
  refine vp_callSi (pS (rest := []) [.int p1, .int 0, .int 3] 3 hC (m_isIn l D (x := p1) (a := 0) (b := 3) ) (gS mM_X6_50 mT_X6_isIn mN_X6 mC_X6_isIn) (by decide +kernel) rfl rfl ⟨Nat.le_of_ble_eq_true rfl, Nat.le_of_ble_eq_true rfl⟩ hG hP9 rfl hl.1 rfl (Nat.le_of_ble_eq_true rfl) dX6_setBase_8 ⟨Nat.le_of_ble_eq_true rfl, Nat.le_of_ble_eq_true rfl⟩) (fun r8 h8 => ?_)
  rcases h8 with ⟨rfl, hb8⟩ | ⟨rfl, hb8⟩
  · exact absurd hb8 (h)
  refine lv_if_ne (tgt := 20) hx hb dX6_setBase_11 (by decide) (fun h9 => (h9 (by decide)).elim) (fun _ => ?_)
  refine lv_aload_n hx hb dX6_setBase_14 rfl (lv_at hl 0 rfl) ?_
  refine lv_iconst (v := 1) hx hb dX6_setBase_15 (by decide) ?_
  have hP9 := hP.sub (ws' := [oO mo 6 [.int 0, .ref a1, .int (nI nC), .ref a2, .ref a3, .ref a4, .ref a5, .ref a6, .ref a7, .ref a8, .ref a9, .int (nI nS), .ref a10, .int (nI nM), .ref a11]]) [0] rfl
  have hD9 := (hD.sub (ws' := [oO mo 6 [.int 0, .ref a1, .int (nI nC), .ref a2, .ref a3, .ref a4, .ref a5, .ref a6, .ref a7, .ref a8, .ref a9, .int (nI nS), .ref a10, .int (nI nM), .ref a11]]) [0] (by decide) rfl).weaken (B := fun _ => True) (fun _ _ _ _ => trivial)
  refine ki (wr := []) (rV (rest := []) (qc := (RX6, TX6, 15)) [.int 1] 1 0 0 hC (m_no l D (mo := mo) (x := 1) (th := 0) (a1 := a1) (nC := nC) (a2 := a2) (a3 := a3) (a4 := a4) (a5 := a5) (a6 := a6) (a7 := a7) (a8 := a8) (a9 := a9) (nS := nS) (a10 := a10) (nM := nM) (a11 := a11) (hz0 := H.size) ) rfl (hP 0 _ rfl) (gV mM_X6_66 mI_X6_no mS_X6_no mN_X6 mC_X6_no) (by decide +kernel) rfl rfl ⟨Nat.le_of_ble_eq_true rfl, Nat.le_of_ble_eq_true rfl⟩ hG hP9 hD9 rfl hl.1 rfl (Nat.le_of_ble_eq_true rfl) dX6_setBase_16 ⟨Nat.le_of_ble_eq_true rfl, Nat.le_of_ble_eq_true rfl⟩) hP hD hS hA [0] [] rfl rfl (by decide) (by decide) (fun r16 u16 H locs h16 hP hD hS hz hfr => ?_)
  have hP : va_P D cls [oO mo 6 [.int 1, .ref a1, .int (nI nC), .ref a2, .ref a3, .ref a4, .ref a5, .ref a6, .ref a7, .ref a8, .ref a9, .int (nI nS), .ref a10, .int (nI nM), .ref a11]] H := hP
  have hD : va_D A [oO mo 6 [.int 1, .ref a1, .int (nI nC), .ref a2, .ref a3, .ref a4, .ref a5, .ref a6, .ref a7, .ref a8, .ref a9, .int (nI nS), .ref a10, .int (nI nM), .ref a11]] := hD
  obtain rfl : r16 = 0 := h16
  refine Wi () hx hb hr hlk ?_ hP hD hS (Nat.le_of_ble_eq_true rfl) (by first | exact Nat.le_of_ble_eq_true rfl | exact Nat.le_of_eq (Nat.zero_add _)) dX6_setBase_19
  exact rfl
set_option maxHeartbeats 400000 in
set_option maxRecDepth 100000 in
theorem m_setBase_2 (l : Launch) (D : va_G) {mo a1 a2 a3 a4 a5 a6 a7 a8 a9 a10 a11 nC nS nM : Nat} {th : Int32} {p1 x : Int32} (hz0 : Nat) (h : (0 : Int32) ≤ p1 ∧ p1 ≤ 3) (hh : ¬ ((-10000 : Int32) ≤ x ∧ x ≤ 10000)) : Met l yX6_setBase (ws_ yX6_setBase cX6_setBase 4 (some .int)) ({ frames := 1, cells := 0, slots := 0, locals := 22 } : Room) (va_Pc [.ref mo, .int p1, .int x] (SW D [oO mo 6 [.int th, .ref a1, .int (nI nC), .ref a2, .ref a3, .ref a4, .ref a5, .ref a6, .ref a7, .ref a8, .ref a9, .int (nI nS), .ref a10, .int (nI nM), .ref a11]] hz0)) (va_Qi (fun v _ => v = 0) (AT D (va_A [oO mo 6 [.int th, .ref a1, .int (nI nC), .ref a2, .ref a3, .ref a4, .ref a5, .ref a6, .ref a7, .ref a8, .ref a9, .int (nI nS), .ref a10, .int (nI nM), .ref a11]] hz0) (fun _ : Unit => [oO mo 6 [.int 2, .ref a1, .int (nI nC), .ref a2, .ref a3, .ref a4, .ref a5, .ref a6, .ref a7, .ref a8, .ref a9, .int (nI nS), .ref a10, .int (nI nM), .ref a11]])) (va_A [oO mo 6 [.int th, .ref a1, .int (nI nC), .ref a2, .ref a3, .ref a4, .ref a5, .ref a6, .ref a7, .ref a8, .ref a9, .int (nI nS), .ref a10, .int (nI nM), .ref a11]] hz0)) 0 0 (va_A [oO mo 6 [.int th, .ref a1, .int (nI nC), .ref a2, .ref a3, .ref a4, .ref a5, .ref a6, .ref a7, .ref a8, .ref a9, .int (nI nS), .ref a10, .int (nI nM), .ref a11]] hz0) := by
  refine Met.ofW (cc := cX6_setBase) (maxL := 4) (ret := (some .int)) (by decide) rfl ?_
  intro p e s m args below meth c s₁ B hml hv
  obtain ⟨rfl, hsz, hG, hP, hD0⟩ := hv
  have hx := B.exec
  have hb := B.bytes
  have hr := B.returns
  have hts : ∀ w ∈ wsL_law, w.before _ s = true := fun w h => atoms_spec (ws := (ws_ yX6_setBase cX6_setBase 4 (some .int))) B.pre w (List.mem_cons_of_mem _ h)
  have hown : s.vm.findClass RX6 = some m.cls := findClass_of_methodNamed B.named
  have hlk := B.notSynchronized
  have hC : CallFix p m c cX6_setBase 4 s _ wsL_law RX6 := ⟨hx, hb, hml, hown, hts⟩
  subst hsz
  have hD := hD0.self (sz := s.heap.size)
  generalize hAe : va_A [oO mo 6 [.int th, .ref a1, .int (nI nC), .ref a2, .ref a3, .ref a4, .ref a5, .ref a6, .ref a7, .ref a8, .ref a9, .int (nI nS), .ref a10, .int (nI nM), .ref a11]] s.heap.size = A at hD ⊢
  have hA : ∀ q : Nat, s.heap.size ≤ q → A q := fun q h => by rw [← hAe]; exact Or.inr h
  have hS : va_S A s.heap s.heap [] := va_S.rf
  obtain ⟨H, hHe⟩ : ∃ H, H = s.heap := ⟨_, rfl⟩
  rw [← hHe] at hP
  have hS : va_S A s.heap H [] := by rw [hHe]; exact hS
  have hl := lv_entry ([.ref mo, .int p1, .int x]) (n := 4) (Nat.le_of_ble_eq_true rfl)
  rw [lg_entry_eq]
  generalize (lg_sl ([.ref mo, .int p1, .int x]) ++ List.replicate (4 - (lg_sl ([.ref mo, .int p1, .int x])).length) Slot.unset).toArray = ls at hl ⊢
  have hl : lv_has ls 4 [(0, .ref mo), (1, .int p1), (2, .int x)] := hl
  rw [← hHe]
  refine lv_aload_n hx hb dX6_setBase_0 rfl (lv_at hl 0 rfl) ?_
  refine lv_iconst (v := 0) hx hb dX6_setBase_1 (by decide) ?_
  refine va_put (D := D) (ci := 6) (v := .int 0) (ty := .int) (C := RX6) (T := TX6) (N := 15) hx hb hts inlX6 tyX6 tyX6_ok nmX6 hown hG.K hP hD hS 0 rfl rfl 0 (by decide) (hts _ mF_X6_43) (fun _ h9 => h9) rfl (by decide +kernel) rfl rfl (Nat.le_of_ble_eq_true rfl) dX6_setBase_2 (fun H locs hP hD hS => ?_)
  have hP : va_P D cls [oO mo 6 [.int 0, .ref a1, .int (nI nC), .ref a2, .ref a3, .ref a4, .ref a5, .ref a6, .ref a7, .ref a8, .ref a9, .int (nI nS), .ref a10, .int (nI nM), .ref a11]] H := hP
  have hD : va_D A [oO mo 6 [.int 0, .ref a1, .int (nI nC), .ref a2, .ref a3, .ref a4, .ref a5, .ref a6, .ref a7, .ref a8, .ref a9, .int (nI nS), .ref a10, .int (nI nM), .ref a11]] := hD
  refine lv_iload_n hx hb dX6_setBase_5 rfl (lv_at hl 1 rfl) ?_
  refine lv_iconst (v := 0) hx hb dX6_setBase_6 (by decide) ?_
  refine lv_iconst (v := 3) hx hb dX6_setBase_7 (by decide) ?_
  have hP9 : va_P D cls [] H := fun k q h => by simp at h
  refine vp_callSi (pS (rest := []) [.int p1, .int 0, .int 3] 3 hC (m_isIn l D (x := p1) (a := 0) (b := 3) ) (gS mM_X6_50 mT_X6_isIn mN_X6 mC_X6_isIn) (by decide +kernel) rfl rfl ⟨Nat.le_of_ble_eq_true rfl, Nat.le_of_ble_eq_true rfl⟩ hG hP9 rfl hl.1 rfl (Nat.le_of_ble_eq_true rfl) dX6_setBase_8 ⟨Nat.le_of_ble_eq_true rfl, Nat.le_of_ble_eq_true rfl⟩) (fun r8 h8 => ?_)
  rcases h8 with ⟨rfl, hb8⟩ | ⟨rfl, hb8⟩
  rotate_left
  · exact absurd (h) hb8
  refine lv_if_ne (tgt := 20) hx hb dX6_setBase_11 (by decide) (fun _ => ?_) (fun h9 => absurd h9 (by decide))
  refine lv_iload_n hx hb dX6_setBase_20 rfl (lv_at hl 2 rfl) ?_
  refine lv_sipush (v := -10000) hx hb dX6_setBase_21 (by decide) ?_
  refine lv_sipush (v := 10000) hx hb dX6_setBase_24 (by decide) ?_
  have hP9 : va_P D cls [] H := fun k q h => by simp at h
  refine vp_callSi (pS (rest := []) [.int x, .int (-10000), .int 10000] 3 hC (m_isIn l D (x := x) (a := -10000) (b := 10000) ) (gS mM_X6_50 mT_X6_isIn mN_X6 mC_X6_isIn) (by decide +kernel) rfl rfl ⟨Nat.le_of_ble_eq_true rfl, Nat.le_of_ble_eq_true rfl⟩ hG hP9 rfl hl.1 rfl (Nat.le_of_ble_eq_true rfl) dX6_setBase_27 ⟨Nat.le_of_ble_eq_true rfl, Nat.le_of_ble_eq_true rfl⟩) (fun r27 h27 => ?_)
  rcases h27 with ⟨rfl, hb27⟩ | ⟨rfl, hb27⟩
  · exact absurd hb27 (hh)
  refine lv_if_ne (tgt := 39) hx hb dX6_setBase_30 (by decide) (fun h9 => (h9 (by decide)).elim) (fun _ => ?_)
  refine lv_aload_n hx hb dX6_setBase_33 rfl (lv_at hl 0 rfl) ?_
  refine lv_iconst (v := 2) hx hb dX6_setBase_34 (by decide) ?_
  have hP9 := hP.sub (ws' := [oO mo 6 [.int 0, .ref a1, .int (nI nC), .ref a2, .ref a3, .ref a4, .ref a5, .ref a6, .ref a7, .ref a8, .ref a9, .int (nI nS), .ref a10, .int (nI nM), .ref a11]]) [0] rfl
  have hD9 := (hD.sub (ws' := [oO mo 6 [.int 0, .ref a1, .int (nI nC), .ref a2, .ref a3, .ref a4, .ref a5, .ref a6, .ref a7, .ref a8, .ref a9, .int (nI nS), .ref a10, .int (nI nM), .ref a11]]) [0] (by decide) rfl).weaken (B := fun _ => True) (fun _ _ _ _ => trivial)
  refine ki (wr := []) (rV (rest := []) (qc := (RX6, TX6, 15)) [.int 2] 1 0 0 hC (m_no l D (mo := mo) (x := 2) (th := 0) (a1 := a1) (nC := nC) (a2 := a2) (a3 := a3) (a4 := a4) (a5 := a5) (a6 := a6) (a7 := a7) (a8 := a8) (a9 := a9) (nS := nS) (a10 := a10) (nM := nM) (a11 := a11) (hz0 := H.size) ) rfl (hP 0 _ rfl) (gV mM_X6_66 mI_X6_no mS_X6_no mN_X6 mC_X6_no) (by decide +kernel) rfl rfl ⟨Nat.le_of_ble_eq_true rfl, Nat.le_of_ble_eq_true rfl⟩ hG hP9 hD9 rfl hl.1 rfl (Nat.le_of_ble_eq_true rfl) dX6_setBase_35 ⟨Nat.le_of_ble_eq_true rfl, Nat.le_of_ble_eq_true rfl⟩) hP hD hS hA [0] [] rfl rfl (by decide) (by decide) (fun r35 u35 H locs h35 hP hD hS hz hfr => ?_)
  have hP : va_P D cls [oO mo 6 [.int 2, .ref a1, .int (nI nC), .ref a2, .ref a3, .ref a4, .ref a5, .ref a6, .ref a7, .ref a8, .ref a9, .int (nI nS), .ref a10, .int (nI nM), .ref a11]] H := hP
  have hD : va_D A [oO mo 6 [.int 2, .ref a1, .int (nI nC), .ref a2, .ref a3, .ref a4, .ref a5, .ref a6, .ref a7, .ref a8, .ref a9, .int (nI nS), .ref a10, .int (nI nM), .ref a11]] := hD
  obtain rfl : r35 = 0 := h35
  refine Wi () hx hb hr hlk ?_ hP hD hS (Nat.le_of_ble_eq_true rfl) (by first | exact Nat.le_of_ble_eq_true rfl | exact Nat.le_of_eq (Nat.zero_add _)) dX6_setBase_38
  exact rfl
set_option maxHeartbeats 400000 in
set_option maxRecDepth 100000 in
theorem m_setBase (l : Launch) (D : va_G) {mo a1 a2 a3 a4 a5 a6 a7 a8 a9 a10 a11 nC nS nM : Nat} {th : Int32} {bs : Nat → Int32} {j : Nat} {x : Int32} (hz0 : Nat) (hj : j < 4) (h : (-10000 : Int32) ≤ x ∧ x ≤ 10000) : Met l yX6_setBase (ws_ yX6_setBase cX6_setBase 4 (some .int)) ({ frames := 1, cells := 0, slots := 0, locals := 22 } : Room) (va_Pc [.ref mo, .int (nI j), .int x] (SW D [oO mo 6 [.int th, .ref a1, .int (nI nC), .ref a2, .ref a3, .ref a4, .ref a5, .ref a6, .ref a7, .ref a8, .ref a9, .int (nI nS), .ref a10, .int (nI nM), .ref a11], aI D a1 4 bs] hz0)) (va_Qi (fun v _ => v = bs j) (AT D (va_A [oO mo 6 [.int th, .ref a1, .int (nI nC), .ref a2, .ref a3, .ref a4, .ref a5, .ref a6, .ref a7, .ref a8, .ref a9, .int (nI nS), .ref a10, .int (nI nM), .ref a11], aI D a1 4 bs] hz0) (fun _ : Unit => [oO mo 6 [.int 0, .ref a1, .int (nI nC), .ref a2, .ref a3, .ref a4, .ref a5, .ref a6, .ref a7, .ref a8, .ref a9, .int (nI nS), .ref a10, .int (nI nM), .ref a11], aI D a1 4 (upd bs j x)])) (va_A [oO mo 6 [.int th, .ref a1, .int (nI nC), .ref a2, .ref a3, .ref a4, .ref a5, .ref a6, .ref a7, .ref a8, .ref a9, .int (nI nS), .ref a10, .int (nI nM), .ref a11], aI D a1 4 bs] hz0)) 0 0 (va_A [oO mo 6 [.int th, .ref a1, .int (nI nC), .ref a2, .ref a3, .ref a4, .ref a5, .ref a6, .ref a7, .ref a8, .ref a9, .int (nI nS), .ref a10, .int (nI nM), .ref a11], aI D a1 4 bs] hz0) := by
  refine Met.ofW (cc := cX6_setBase) (maxL := 4) (ret := (some .int)) (by decide) rfl ?_
  intro p e s m args below meth c s₁ B hml hv
  obtain ⟨rfl, hsz, hG, hP, hD0⟩ := hv
  have hx := B.exec
  have hb := B.bytes
  have hr := B.returns
  have hts : ∀ w ∈ wsL_law, w.before _ s = true := fun w h => atoms_spec (ws := (ws_ yX6_setBase cX6_setBase 4 (some .int))) B.pre w (List.mem_cons_of_mem _ h)
  have hown : s.vm.findClass RX6 = some m.cls := findClass_of_methodNamed B.named
  have hlk := B.notSynchronized
  have hC : CallFix p m c cX6_setBase 4 s _ wsL_law RX6 := ⟨hx, hb, hml, hown, hts⟩
  subst hsz
  have hD := hD0.self (sz := s.heap.size)
  generalize hAe : va_A [oO mo 6 [.int th, .ref a1, .int (nI nC), .ref a2, .ref a3, .ref a4, .ref a5, .ref a6, .ref a7, .ref a8, .ref a9, .int (nI nS), .ref a10, .int (nI nM), .ref a11], aI D a1 4 bs] s.heap.size = A at hD ⊢
  have hA : ∀ q : Nat, s.heap.size ≤ q → A q := fun q h => by rw [← hAe]; exact Or.inr h
  have hS : va_S A s.heap s.heap [] := va_S.rf
  obtain ⟨H, hHe⟩ : ∃ H, H = s.heap := ⟨_, rfl⟩
  rw [← hHe] at hP
  have hS : va_S A s.heap H [] := by rw [hHe]; exact hS
  have hl := lv_entry ([.ref mo, .int (nI j), .int x]) (n := 4) (Nat.le_of_ble_eq_true rfl)
  rw [lg_entry_eq]
  generalize (lg_sl ([.ref mo, .int (nI j), .int x]) ++ List.replicate (4 - (lg_sl ([.ref mo, .int (nI j), .int x])).length) Slot.unset).toArray = ls at hl ⊢
  have hl : lv_has ls 4 [(0, .ref mo), (1, .int (nI j)), (2, .int x)] := hl
  rw [← hHe]
  refine lv_aload_n hx hb dX6_setBase_0 rfl (lv_at hl 0 rfl) ?_
  refine lv_iconst (v := 0) hx hb dX6_setBase_1 (by decide) ?_
  refine va_put (D := D) (ci := 6) (v := .int 0) (ty := .int) (C := RX6) (T := TX6) (N := 15) hx hb hts inlX6 tyX6 tyX6_ok nmX6 hown hG.K hP hD hS 0 rfl rfl 0 (by decide) (hts _ mF_X6_43) (fun _ h9 => h9) rfl (by decide +kernel) rfl rfl (Nat.le_of_ble_eq_true rfl) dX6_setBase_2 (fun H locs hP hD hS => ?_)
  have hP : va_P D cls [oO mo 6 [.int 0, .ref a1, .int (nI nC), .ref a2, .ref a3, .ref a4, .ref a5, .ref a6, .ref a7, .ref a8, .ref a9, .int (nI nS), .ref a10, .int (nI nM), .ref a11], aI D a1 4 bs] H := hP
  have hD : va_D A [oO mo 6 [.int 0, .ref a1, .int (nI nC), .ref a2, .ref a3, .ref a4, .ref a5, .ref a6, .ref a7, .ref a8, .ref a9, .int (nI nS), .ref a10, .int (nI nM), .ref a11], aI D a1 4 bs] := hD
  refine lv_iload_n hx hb dX6_setBase_5 rfl (lv_at hl 1 rfl) ?_
  refine lv_iconst (v := 0) hx hb dX6_setBase_6 (by decide) ?_
  refine lv_iconst (v := 3) hx hb dX6_setBase_7 (by decide) ?_
  have hP9 : va_P D cls [] H := fun k q h => by simp at h
  refine vp_callSi (pS (rest := []) [.int (nI j), .int 0, .int 3] 3 hC (m_isIn l D (x := nI j) (a := 0) (b := 3) ) (gS mM_X6_50 mT_X6_isIn mN_X6 mC_X6_isIn) (by decide +kernel) rfl rfl ⟨Nat.le_of_ble_eq_true rfl, Nat.le_of_ble_eq_true rfl⟩ hG hP9 rfl hl.1 rfl (Nat.le_of_ble_eq_true rfl) dX6_setBase_8 ⟨Nat.le_of_ble_eq_true rfl, Nat.le_of_ble_eq_true rfl⟩) (fun r8 h8 => ?_)
  rcases h8 with ⟨rfl, hb8⟩ | ⟨rfl, hb8⟩
  rotate_left
  · exact absurd (in3 hj) hb8
  refine lv_if_ne (tgt := 20) hx hb dX6_setBase_11 (by decide) (fun _ => ?_) (fun h9 => absurd h9 (by decide))
  refine lv_iload_n hx hb dX6_setBase_20 rfl (lv_at hl 2 rfl) ?_
  refine lv_sipush (v := -10000) hx hb dX6_setBase_21 (by decide) ?_
  refine lv_sipush (v := 10000) hx hb dX6_setBase_24 (by decide) ?_
  have hP9 : va_P D cls [] H := fun k q h => by simp at h
  refine vp_callSi (pS (rest := []) [.int x, .int (-10000), .int 10000] 3 hC (m_isIn l D (x := x) (a := -10000) (b := 10000) ) (gS mM_X6_50 mT_X6_isIn mN_X6 mC_X6_isIn) (by decide +kernel) rfl rfl ⟨Nat.le_of_ble_eq_true rfl, Nat.le_of_ble_eq_true rfl⟩ hG hP9 rfl hl.1 rfl (Nat.le_of_ble_eq_true rfl) dX6_setBase_27 ⟨Nat.le_of_ble_eq_true rfl, Nat.le_of_ble_eq_true rfl⟩) (fun r27 h27 => ?_)
  rcases h27 with ⟨rfl, hb27⟩ | ⟨rfl, hb27⟩
  rotate_left
  · exact absurd (h) hb27
  refine lv_if_ne (tgt := 39) hx hb dX6_setBase_30 (by decide) (fun _ => ?_) (fun h9 => absurd h9 (by decide))
  refine lv_aload_n hx hb dX6_setBase_39 rfl (lv_at hl 0 rfl) ?_
  refine va_get (D := D) (ci := 6) (v := .ref a1) (C := RX6) (T := TX6) (N := 15) hx hb hts inlX6 hown hG.K hP 0 rfl rfl 1 (by decide) (hts _ mF_X6_9) (fun _ h9 => h9) rfl dX6_setBase_40 ?_
  refine lv_iload_n hx hb dX6_setBase_43 rfl (lv_at hl 1 rfl) ?_
  refine ild (n := 4) (j := j) hx hb hG hP 1 rfl (by omega) (by omega) dX6_setBase_44 ?_
  refine lv_istore_n (lv' := [(3, .int (bs j)), (0, .ref mo), (1, .int (nI j)), (2, .int x)]) hx hb dX6_setBase_45 rfl hl (by decide) rfl (fun ls hl => ?_)
  refine lv_aload_n hx hb dX6_setBase_46 rfl (lv_at hl 1 rfl) ?_
  refine va_get (D := D) (ci := 6) (v := .ref a1) (C := RX6) (T := TX6) (N := 15) hx hb hts inlX6 hown hG.K hP 0 rfl rfl 1 (by decide) (hts _ mF_X6_9) (fun _ h9 => h9) rfl dX6_setBase_47 ?_
  refine lv_iload_n hx hb dX6_setBase_50 rfl (lv_at hl 2 rfl) ?_
  refine lv_iload_n hx hb dX6_setBase_51 rfl (lv_at hl 3 rfl) ?_
  refine ist (n := 4) (j := j) hx hb hG hP hD hS 1 rfl (by omega) (by omega) dX6_setBase_52 (fun H locs hP hD hS => ?_)
  have hP : va_P D cls [oO mo 6 [.int 0, .ref a1, .int (nI nC), .ref a2, .ref a3, .ref a4, .ref a5, .ref a6, .ref a7, .ref a8, .ref a9, .int (nI nS), .ref a10, .int (nI nM), .ref a11], aI D a1 4 (upd bs j x)] H := hP
  have hD : va_D A [oO mo 6 [.int 0, .ref a1, .int (nI nC), .ref a2, .ref a3, .ref a4, .ref a5, .ref a6, .ref a7, .ref a8, .ref a9, .int (nI nS), .ref a10, .int (nI nM), .ref a11], aI D a1 4 (upd bs j x)] := hD
  refine lv_iload_n hx hb dX6_setBase_53 rfl (lv_at hl 0 rfl) ?_
  refine Wi () hx hb hr hlk ?_ hP hD hS (Nat.le_of_ble_eq_true rfl) (by first | exact Nat.le_of_ble_eq_true rfl | exact Nat.le_of_eq (Nat.zero_add _)) dX6_setBase_54
  exact rfl
set_option maxHeartbeats 400000 in
set_option maxRecDepth 100000 in
theorem m_addClip_1 (l : Launch) (D : va_G) {mo a1 a2 a3 a4 a5 a6 a7 a8 a9 a10 a11 nC nS nM : Nat} {th : Int32} {x : Int32} (hz0 : Nat) (h : ¬ ((1 : Int32) ≤ x ∧ x ≤ 2000)) : Met l yX6_addClip (ws_ yX6_addClip cX6_addClip 2 (some .int)) ({ frames := 1, cells := 0, slots := 0, locals := 22 } : Room) (va_Pc [.ref mo, .int x] (SW D [oO mo 6 [.int th, .ref a1, .int (nI nC), .ref a2, .ref a3, .ref a4, .ref a5, .ref a6, .ref a7, .ref a8, .ref a9, .int (nI nS), .ref a10, .int (nI nM), .ref a11]] hz0)) (va_Qi (fun v _ => v = 0) (AT D (va_A [oO mo 6 [.int th, .ref a1, .int (nI nC), .ref a2, .ref a3, .ref a4, .ref a5, .ref a6, .ref a7, .ref a8, .ref a9, .int (nI nS), .ref a10, .int (nI nM), .ref a11]] hz0) (fun _ : Unit => [oO mo 6 [.int 1, .ref a1, .int (nI nC), .ref a2, .ref a3, .ref a4, .ref a5, .ref a6, .ref a7, .ref a8, .ref a9, .int (nI nS), .ref a10, .int (nI nM), .ref a11]])) (va_A [oO mo 6 [.int th, .ref a1, .int (nI nC), .ref a2, .ref a3, .ref a4, .ref a5, .ref a6, .ref a7, .ref a8, .ref a9, .int (nI nS), .ref a10, .int (nI nM), .ref a11]] hz0)) 0 0 (va_A [oO mo 6 [.int th, .ref a1, .int (nI nC), .ref a2, .ref a3, .ref a4, .ref a5, .ref a6, .ref a7, .ref a8, .ref a9, .int (nI nS), .ref a10, .int (nI nM), .ref a11]] hz0) := by
  refine Met.ofW (cc := cX6_addClip) (maxL := 2) (ret := (some .int)) (by decide) rfl ?_
  intro p e s m args below meth c s₁ B hml hv
  obtain ⟨rfl, hsz, hG, hP, hD0⟩ := hv
  have hx := B.exec
  have hb := B.bytes
  have hr := B.returns
  have hts : ∀ w ∈ wsL_law, w.before _ s = true := fun w h => atoms_spec (ws := (ws_ yX6_addClip cX6_addClip 2 (some .int))) B.pre w (List.mem_cons_of_mem _ h)
  have hown : s.vm.findClass RX6 = some m.cls := findClass_of_methodNamed B.named
  have hlk := B.notSynchronized
  have hC : CallFix p m c cX6_addClip 2 s _ wsL_law RX6 := ⟨hx, hb, hml, hown, hts⟩
  subst hsz
  have hD := hD0.self (sz := s.heap.size)
  generalize hAe : va_A [oO mo 6 [.int th, .ref a1, .int (nI nC), .ref a2, .ref a3, .ref a4, .ref a5, .ref a6, .ref a7, .ref a8, .ref a9, .int (nI nS), .ref a10, .int (nI nM), .ref a11]] s.heap.size = A at hD ⊢
  have hA : ∀ q : Nat, s.heap.size ≤ q → A q := fun q h => by rw [← hAe]; exact Or.inr h
  have hS : va_S A s.heap s.heap [] := va_S.rf
  obtain ⟨H, hHe⟩ : ∃ H, H = s.heap := ⟨_, rfl⟩
  rw [← hHe] at hP
  have hS : va_S A s.heap H [] := by rw [hHe]; exact hS
  have hl := lv_entry ([.ref mo, .int x]) (n := 2) (Nat.le_of_ble_eq_true rfl)
  rw [lg_entry_eq]
  generalize (lg_sl ([.ref mo, .int x]) ++ List.replicate (2 - (lg_sl ([.ref mo, .int x])).length) Slot.unset).toArray = ls at hl ⊢
  have hl : lv_has ls 2 [(0, .ref mo), (1, .int x)] := hl
  rw [← hHe]
  refine lv_aload_n hx hb dX6_addClip_0 rfl (lv_at hl 0 rfl) ?_
  refine lv_iconst (v := 0) hx hb dX6_addClip_1 (by decide) ?_
  refine va_put (D := D) (ci := 6) (v := .int 0) (ty := .int) (C := RX6) (T := TX6) (N := 15) hx hb hts inlX6 tyX6 tyX6_ok nmX6 hown hG.K hP hD hS 0 rfl rfl 0 (by decide) (hts _ mF_X6_43) (fun _ h9 => h9) rfl (by decide +kernel) rfl rfl (Nat.le_of_ble_eq_true rfl) dX6_addClip_2 (fun H locs hP hD hS => ?_)
  have hP : va_P D cls [oO mo 6 [.int 0, .ref a1, .int (nI nC), .ref a2, .ref a3, .ref a4, .ref a5, .ref a6, .ref a7, .ref a8, .ref a9, .int (nI nS), .ref a10, .int (nI nM), .ref a11]] H := hP
  have hD : va_D A [oO mo 6 [.int 0, .ref a1, .int (nI nC), .ref a2, .ref a3, .ref a4, .ref a5, .ref a6, .ref a7, .ref a8, .ref a9, .int (nI nS), .ref a10, .int (nI nM), .ref a11]] := hD
  refine lv_iload_n hx hb dX6_addClip_5 rfl (lv_at hl 1 rfl) ?_
  refine lv_iconst (v := 1) hx hb dX6_addClip_6 (by decide) ?_
  refine lv_sipush (v := 2000) hx hb dX6_addClip_7 (by decide) ?_
  have hP9 : va_P D cls [] H := fun k q h => by simp at h
  refine vp_callSi (pS (rest := []) [.int x, .int 1, .int 2000] 3 hC (m_isIn l D (x := x) (a := 1) (b := 2000) ) (gS mM_X6_50 mT_X6_isIn mN_X6 mC_X6_isIn) (by decide +kernel) rfl rfl ⟨Nat.le_of_ble_eq_true rfl, Nat.le_of_ble_eq_true rfl⟩ hG hP9 rfl hl.1 rfl (Nat.le_of_ble_eq_true rfl) dX6_addClip_10 ⟨Nat.le_of_ble_eq_true rfl, Nat.le_of_ble_eq_true rfl⟩) (fun r10 h10 => ?_)
  rcases h10 with ⟨rfl, hb10⟩ | ⟨rfl, hb10⟩
  · exact absurd hb10 (h)
  refine lv_if_ne (tgt := 22) hx hb dX6_addClip_13 (by decide) (fun h9 => (h9 (by decide)).elim) (fun _ => ?_)
  refine lv_aload_n hx hb dX6_addClip_16 rfl (lv_at hl 0 rfl) ?_
  refine lv_iconst (v := 1) hx hb dX6_addClip_17 (by decide) ?_
  have hP9 := hP.sub (ws' := [oO mo 6 [.int 0, .ref a1, .int (nI nC), .ref a2, .ref a3, .ref a4, .ref a5, .ref a6, .ref a7, .ref a8, .ref a9, .int (nI nS), .ref a10, .int (nI nM), .ref a11]]) [0] rfl
  have hD9 := (hD.sub (ws' := [oO mo 6 [.int 0, .ref a1, .int (nI nC), .ref a2, .ref a3, .ref a4, .ref a5, .ref a6, .ref a7, .ref a8, .ref a9, .int (nI nS), .ref a10, .int (nI nM), .ref a11]]) [0] (by decide) rfl).weaken (B := fun _ => True) (fun _ _ _ _ => trivial)
  refine ki (wr := []) (rV (rest := []) (qc := (RX6, TX6, 15)) [.int 1] 1 0 0 hC (m_no l D (mo := mo) (x := 1) (th := 0) (a1 := a1) (nC := nC) (a2 := a2) (a3 := a3) (a4 := a4) (a5 := a5) (a6 := a6) (a7 := a7) (a8 := a8) (a9 := a9) (nS := nS) (a10 := a10) (nM := nM) (a11 := a11) (hz0 := H.size) ) rfl (hP 0 _ rfl) (gV mM_X6_66 mI_X6_no mS_X6_no mN_X6 mC_X6_no) (by decide +kernel) rfl rfl ⟨Nat.le_of_ble_eq_true rfl, Nat.le_of_ble_eq_true rfl⟩ hG hP9 hD9 rfl hl.1 rfl (Nat.le_of_ble_eq_true rfl) dX6_addClip_18 ⟨Nat.le_of_ble_eq_true rfl, Nat.le_of_ble_eq_true rfl⟩) hP hD hS hA [0] [] rfl rfl (by decide) (by decide) (fun r18 u18 H locs h18 hP hD hS hz hfr => ?_)
  have hP : va_P D cls [oO mo 6 [.int 1, .ref a1, .int (nI nC), .ref a2, .ref a3, .ref a4, .ref a5, .ref a6, .ref a7, .ref a8, .ref a9, .int (nI nS), .ref a10, .int (nI nM), .ref a11]] H := hP
  have hD : va_D A [oO mo 6 [.int 1, .ref a1, .int (nI nC), .ref a2, .ref a3, .ref a4, .ref a5, .ref a6, .ref a7, .ref a8, .ref a9, .int (nI nS), .ref a10, .int (nI nM), .ref a11]] := hD
  obtain rfl : r18 = 0 := h18
  refine Wi () hx hb hr hlk ?_ hP hD hS (Nat.le_of_ble_eq_true rfl) (by first | exact Nat.le_of_ble_eq_true rfl | exact Nat.le_of_eq (Nat.zero_add _)) dX6_addClip_21
  exact rfl
set_option maxHeartbeats 400000 in
set_option maxRecDepth 100000 in
theorem m_addClip_2 (l : Launch) (D : va_G) {mo a1 a2 a3 a4 a5 a6 a7 a8 a9 a10 a11 nC nS nM : Nat} {th : Int32} {x : Int32} (hz0 : Nat) (h : (1 : Int32) ≤ x ∧ x ≤ 2000) (hn : nC = 6) : Met l yX6_addClip (ws_ yX6_addClip cX6_addClip 2 (some .int)) ({ frames := 1, cells := 0, slots := 0, locals := 22 } : Room) (va_Pc [.ref mo, .int x] (SW D [oO mo 6 [.int th, .ref a1, .int (nI nC), .ref a2, .ref a3, .ref a4, .ref a5, .ref a6, .ref a7, .ref a8, .ref a9, .int (nI nS), .ref a10, .int (nI nM), .ref a11]] hz0)) (va_Qi (fun v _ => v = 0) (AT D (va_A [oO mo 6 [.int th, .ref a1, .int (nI nC), .ref a2, .ref a3, .ref a4, .ref a5, .ref a6, .ref a7, .ref a8, .ref a9, .int (nI nS), .ref a10, .int (nI nM), .ref a11]] hz0) (fun _ : Unit => [oO mo 6 [.int 2, .ref a1, .int (nI nC), .ref a2, .ref a3, .ref a4, .ref a5, .ref a6, .ref a7, .ref a8, .ref a9, .int (nI nS), .ref a10, .int (nI nM), .ref a11]])) (va_A [oO mo 6 [.int th, .ref a1, .int (nI nC), .ref a2, .ref a3, .ref a4, .ref a5, .ref a6, .ref a7, .ref a8, .ref a9, .int (nI nS), .ref a10, .int (nI nM), .ref a11]] hz0)) 0 0 (va_A [oO mo 6 [.int th, .ref a1, .int (nI nC), .ref a2, .ref a3, .ref a4, .ref a5, .ref a6, .ref a7, .ref a8, .ref a9, .int (nI nS), .ref a10, .int (nI nM), .ref a11]] hz0) := by
  refine Met.ofW (cc := cX6_addClip) (maxL := 2) (ret := (some .int)) (by decide) rfl ?_
  intro p e s m args below meth c s₁ B hml hv
  obtain ⟨rfl, hsz, hG, hP, hD0⟩ := hv
  have hx := B.exec
  have hb := B.bytes
  have hr := B.returns
  have hts : ∀ w ∈ wsL_law, w.before _ s = true := fun w h => atoms_spec (ws := (ws_ yX6_addClip cX6_addClip 2 (some .int))) B.pre w (List.mem_cons_of_mem _ h)
  have hown : s.vm.findClass RX6 = some m.cls := findClass_of_methodNamed B.named
  have hlk := B.notSynchronized
  have hC : CallFix p m c cX6_addClip 2 s _ wsL_law RX6 := ⟨hx, hb, hml, hown, hts⟩
  subst hsz
  have hD := hD0.self (sz := s.heap.size)
  generalize hAe : va_A [oO mo 6 [.int th, .ref a1, .int (nI nC), .ref a2, .ref a3, .ref a4, .ref a5, .ref a6, .ref a7, .ref a8, .ref a9, .int (nI nS), .ref a10, .int (nI nM), .ref a11]] s.heap.size = A at hD ⊢
  have hA : ∀ q : Nat, s.heap.size ≤ q → A q := fun q h => by rw [← hAe]; exact Or.inr h
  have hS : va_S A s.heap s.heap [] := va_S.rf
  obtain ⟨H, hHe⟩ : ∃ H, H = s.heap := ⟨_, rfl⟩
  rw [← hHe] at hP
  have hS : va_S A s.heap H [] := by rw [hHe]; exact hS
  have hl := lv_entry ([.ref mo, .int x]) (n := 2) (Nat.le_of_ble_eq_true rfl)
  rw [lg_entry_eq]
  generalize (lg_sl ([.ref mo, .int x]) ++ List.replicate (2 - (lg_sl ([.ref mo, .int x])).length) Slot.unset).toArray = ls at hl ⊢
  have hl : lv_has ls 2 [(0, .ref mo), (1, .int x)] := hl
  rw [← hHe]
  refine lv_aload_n hx hb dX6_addClip_0 rfl (lv_at hl 0 rfl) ?_
  refine lv_iconst (v := 0) hx hb dX6_addClip_1 (by decide) ?_
  refine va_put (D := D) (ci := 6) (v := .int 0) (ty := .int) (C := RX6) (T := TX6) (N := 15) hx hb hts inlX6 tyX6 tyX6_ok nmX6 hown hG.K hP hD hS 0 rfl rfl 0 (by decide) (hts _ mF_X6_43) (fun _ h9 => h9) rfl (by decide +kernel) rfl rfl (Nat.le_of_ble_eq_true rfl) dX6_addClip_2 (fun H locs hP hD hS => ?_)
  have hP : va_P D cls [oO mo 6 [.int 0, .ref a1, .int (nI nC), .ref a2, .ref a3, .ref a4, .ref a5, .ref a6, .ref a7, .ref a8, .ref a9, .int (nI nS), .ref a10, .int (nI nM), .ref a11]] H := hP
  have hD : va_D A [oO mo 6 [.int 0, .ref a1, .int (nI nC), .ref a2, .ref a3, .ref a4, .ref a5, .ref a6, .ref a7, .ref a8, .ref a9, .int (nI nS), .ref a10, .int (nI nM), .ref a11]] := hD
  refine lv_iload_n hx hb dX6_addClip_5 rfl (lv_at hl 1 rfl) ?_
  refine lv_iconst (v := 1) hx hb dX6_addClip_6 (by decide) ?_
  refine lv_sipush (v := 2000) hx hb dX6_addClip_7 (by decide) ?_
  have hP9 : va_P D cls [] H := fun k q h => by simp at h
  refine vp_callSi (pS (rest := []) [.int x, .int 1, .int 2000] 3 hC (m_isIn l D (x := x) (a := 1) (b := 2000) ) (gS mM_X6_50 mT_X6_isIn mN_X6 mC_X6_isIn) (by decide +kernel) rfl rfl ⟨Nat.le_of_ble_eq_true rfl, Nat.le_of_ble_eq_true rfl⟩ hG hP9 rfl hl.1 rfl (Nat.le_of_ble_eq_true rfl) dX6_addClip_10 ⟨Nat.le_of_ble_eq_true rfl, Nat.le_of_ble_eq_true rfl⟩) (fun r10 h10 => ?_)
  rcases h10 with ⟨rfl, hb10⟩ | ⟨rfl, hb10⟩
  rotate_left
  · exact absurd (h) hb10
  refine lv_if_ne (tgt := 22) hx hb dX6_addClip_13 (by decide) (fun _ => ?_) (fun h9 => absurd h9 (by decide))
  refine lv_aload_n hx hb dX6_addClip_22 rfl (lv_at hl 0 rfl) ?_
  refine va_get (D := D) (ci := 6) (v := .int (nI nC)) (C := RX6) (T := TX6) (N := 15) hx hb hts inlX6 hown hG.K hP 0 rfl rfl 2 (by decide) (hts _ mF_X6_47) (fun _ h9 => h9) rfl dX6_addClip_23 ?_
  refine lv_bipush (v := 6) hx hb dX6_addClip_26 (by decide) ?_
  refine lv_icmp_ne (tgt := 37) hx hb dX6_addClip_28 (by decide) (fun h9 => absurd ((nI_eq (a := nC) (b := 6) (by omega) (by omega)).mpr (by omega)) h9) (fun _ => ?_)
  refine lv_aload_n hx hb dX6_addClip_31 rfl (lv_at hl 0 rfl) ?_
  refine lv_iconst (v := 2) hx hb dX6_addClip_32 (by decide) ?_
  have hP9 := hP.sub (ws' := [oO mo 6 [.int 0, .ref a1, .int (nI nC), .ref a2, .ref a3, .ref a4, .ref a5, .ref a6, .ref a7, .ref a8, .ref a9, .int (nI nS), .ref a10, .int (nI nM), .ref a11]]) [0] rfl
  have hD9 := (hD.sub (ws' := [oO mo 6 [.int 0, .ref a1, .int (nI nC), .ref a2, .ref a3, .ref a4, .ref a5, .ref a6, .ref a7, .ref a8, .ref a9, .int (nI nS), .ref a10, .int (nI nM), .ref a11]]) [0] (by decide) rfl).weaken (B := fun _ => True) (fun _ _ _ _ => trivial)
  refine ki (wr := []) (rV (rest := []) (qc := (RX6, TX6, 15)) [.int 2] 1 0 0 hC (m_no l D (mo := mo) (x := 2) (th := 0) (a1 := a1) (nC := nC) (a2 := a2) (a3 := a3) (a4 := a4) (a5 := a5) (a6 := a6) (a7 := a7) (a8 := a8) (a9 := a9) (nS := nS) (a10 := a10) (nM := nM) (a11 := a11) (hz0 := H.size) ) rfl (hP 0 _ rfl) (gV mM_X6_66 mI_X6_no mS_X6_no mN_X6 mC_X6_no) (by decide +kernel) rfl rfl ⟨Nat.le_of_ble_eq_true rfl, Nat.le_of_ble_eq_true rfl⟩ hG hP9 hD9 rfl hl.1 rfl (Nat.le_of_ble_eq_true rfl) dX6_addClip_33 ⟨Nat.le_of_ble_eq_true rfl, Nat.le_of_ble_eq_true rfl⟩) hP hD hS hA [0] [] rfl rfl (by decide) (by decide) (fun r33 u33 H locs h33 hP hD hS hz hfr => ?_)
  have hP : va_P D cls [oO mo 6 [.int 2, .ref a1, .int (nI nC), .ref a2, .ref a3, .ref a4, .ref a5, .ref a6, .ref a7, .ref a8, .ref a9, .int (nI nS), .ref a10, .int (nI nM), .ref a11]] H := hP
  have hD : va_D A [oO mo 6 [.int 2, .ref a1, .int (nI nC), .ref a2, .ref a3, .ref a4, .ref a5, .ref a6, .ref a7, .ref a8, .ref a9, .int (nI nS), .ref a10, .int (nI nM), .ref a11]] := hD
  obtain rfl : r33 = 0 := h33
  refine Wi () hx hb hr hlk ?_ hP hD hS (Nat.le_of_ble_eq_true rfl) (by first | exact Nat.le_of_ble_eq_true rfl | exact Nat.le_of_eq (Nat.zero_add _)) dX6_addClip_36
  exact rfl
set_option maxHeartbeats 400000 in
set_option maxRecDepth 100000 in
theorem m_addClip (l : Launch) (D : va_G) {mo a1 a2 a3 a4 a5 a6 a7 a8 a9 a10 a11 nC nS nM : Nat} {th : Int32} {ln : Nat → Int32} {x : Int32} (hz0 : Nat) (h : (1 : Int32) ≤ x ∧ x ≤ 2000) (hn : nC < 6) : Met l yX6_addClip (ws_ yX6_addClip cX6_addClip 2 (some .int)) ({ frames := 1, cells := 0, slots := 0, locals := 22 } : Room) (va_Pc [.ref mo, .int x] (SW D [oO mo 6 [.int th, .ref a1, .int (nI nC), .ref a2, .ref a3, .ref a4, .ref a5, .ref a6, .ref a7, .ref a8, .ref a9, .int (nI nS), .ref a10, .int (nI nM), .ref a11], aI D a2 6 ln] hz0)) (va_Qi (fun v _ => v = nI nC) (AT D (va_A [oO mo 6 [.int th, .ref a1, .int (nI nC), .ref a2, .ref a3, .ref a4, .ref a5, .ref a6, .ref a7, .ref a8, .ref a9, .int (nI nS), .ref a10, .int (nI nM), .ref a11], aI D a2 6 ln] hz0) (fun _ : Unit => [oO mo 6 [.int 0, .ref a1, .int (nI (nC + 1)), .ref a2, .ref a3, .ref a4, .ref a5, .ref a6, .ref a7, .ref a8, .ref a9, .int (nI nS), .ref a10, .int (nI nM), .ref a11], aI D a2 6 (upd ln nC x)])) (va_A [oO mo 6 [.int th, .ref a1, .int (nI nC), .ref a2, .ref a3, .ref a4, .ref a5, .ref a6, .ref a7, .ref a8, .ref a9, .int (nI nS), .ref a10, .int (nI nM), .ref a11], aI D a2 6 ln] hz0)) 0 0 (va_A [oO mo 6 [.int th, .ref a1, .int (nI nC), .ref a2, .ref a3, .ref a4, .ref a5, .ref a6, .ref a7, .ref a8, .ref a9, .int (nI nS), .ref a10, .int (nI nM), .ref a11], aI D a2 6 ln] hz0) := by
  refine Met.ofW (cc := cX6_addClip) (maxL := 2) (ret := (some .int)) (by decide) rfl ?_
  intro p e s m args below meth c s₁ B hml hv
  obtain ⟨rfl, hsz, hG, hP, hD0⟩ := hv
  have hx := B.exec
  have hb := B.bytes
  have hr := B.returns
  have hts : ∀ w ∈ wsL_law, w.before _ s = true := fun w h => atoms_spec (ws := (ws_ yX6_addClip cX6_addClip 2 (some .int))) B.pre w (List.mem_cons_of_mem _ h)
  have hown : s.vm.findClass RX6 = some m.cls := findClass_of_methodNamed B.named
  have hlk := B.notSynchronized
  have hC : CallFix p m c cX6_addClip 2 s _ wsL_law RX6 := ⟨hx, hb, hml, hown, hts⟩
  subst hsz
  have hD := hD0.self (sz := s.heap.size)
  generalize hAe : va_A [oO mo 6 [.int th, .ref a1, .int (nI nC), .ref a2, .ref a3, .ref a4, .ref a5, .ref a6, .ref a7, .ref a8, .ref a9, .int (nI nS), .ref a10, .int (nI nM), .ref a11], aI D a2 6 ln] s.heap.size = A at hD ⊢
  have hA : ∀ q : Nat, s.heap.size ≤ q → A q := fun q h => by rw [← hAe]; exact Or.inr h
  have hS : va_S A s.heap s.heap [] := va_S.rf
  obtain ⟨H, hHe⟩ : ∃ H, H = s.heap := ⟨_, rfl⟩
  rw [← hHe] at hP
  have hS : va_S A s.heap H [] := by rw [hHe]; exact hS
  have hl := lv_entry ([.ref mo, .int x]) (n := 2) (Nat.le_of_ble_eq_true rfl)
  rw [lg_entry_eq]
  generalize (lg_sl ([.ref mo, .int x]) ++ List.replicate (2 - (lg_sl ([.ref mo, .int x])).length) Slot.unset).toArray = ls at hl ⊢
  have hl : lv_has ls 2 [(0, .ref mo), (1, .int x)] := hl
  rw [← hHe]
  refine lv_aload_n hx hb dX6_addClip_0 rfl (lv_at hl 0 rfl) ?_
  refine lv_iconst (v := 0) hx hb dX6_addClip_1 (by decide) ?_
  refine va_put (D := D) (ci := 6) (v := .int 0) (ty := .int) (C := RX6) (T := TX6) (N := 15) hx hb hts inlX6 tyX6 tyX6_ok nmX6 hown hG.K hP hD hS 0 rfl rfl 0 (by decide) (hts _ mF_X6_43) (fun _ h9 => h9) rfl (by decide +kernel) rfl rfl (Nat.le_of_ble_eq_true rfl) dX6_addClip_2 (fun H locs hP hD hS => ?_)
  have hP : va_P D cls [oO mo 6 [.int 0, .ref a1, .int (nI nC), .ref a2, .ref a3, .ref a4, .ref a5, .ref a6, .ref a7, .ref a8, .ref a9, .int (nI nS), .ref a10, .int (nI nM), .ref a11], aI D a2 6 ln] H := hP
  have hD : va_D A [oO mo 6 [.int 0, .ref a1, .int (nI nC), .ref a2, .ref a3, .ref a4, .ref a5, .ref a6, .ref a7, .ref a8, .ref a9, .int (nI nS), .ref a10, .int (nI nM), .ref a11], aI D a2 6 ln] := hD
  refine lv_iload_n hx hb dX6_addClip_5 rfl (lv_at hl 1 rfl) ?_
  refine lv_iconst (v := 1) hx hb dX6_addClip_6 (by decide) ?_
  refine lv_sipush (v := 2000) hx hb dX6_addClip_7 (by decide) ?_
  have hP9 : va_P D cls [] H := fun k q h => by simp at h
  refine vp_callSi (pS (rest := []) [.int x, .int 1, .int 2000] 3 hC (m_isIn l D (x := x) (a := 1) (b := 2000) ) (gS mM_X6_50 mT_X6_isIn mN_X6 mC_X6_isIn) (by decide +kernel) rfl rfl ⟨Nat.le_of_ble_eq_true rfl, Nat.le_of_ble_eq_true rfl⟩ hG hP9 rfl hl.1 rfl (Nat.le_of_ble_eq_true rfl) dX6_addClip_10 ⟨Nat.le_of_ble_eq_true rfl, Nat.le_of_ble_eq_true rfl⟩) (fun r10 h10 => ?_)
  rcases h10 with ⟨rfl, hb10⟩ | ⟨rfl, hb10⟩
  rotate_left
  · exact absurd (h) hb10
  refine lv_if_ne (tgt := 22) hx hb dX6_addClip_13 (by decide) (fun _ => ?_) (fun h9 => absurd h9 (by decide))
  refine lv_aload_n hx hb dX6_addClip_22 rfl (lv_at hl 0 rfl) ?_
  refine va_get (D := D) (ci := 6) (v := .int (nI nC)) (C := RX6) (T := TX6) (N := 15) hx hb hts inlX6 hown hG.K hP 0 rfl rfl 2 (by decide) (hts _ mF_X6_47) (fun _ h9 => h9) rfl dX6_addClip_23 ?_
  refine lv_bipush (v := 6) hx hb dX6_addClip_26 (by decide) ?_
  refine lv_icmp_ne (tgt := 37) hx hb dX6_addClip_28 (by decide) (fun _ => ?_) (fun h9 => absurd ((nI_eq (a := nC) (b := 6) (by omega) (by omega)).mp h9) (by omega))
  refine lv_aload_n hx hb dX6_addClip_37 rfl (lv_at hl 0 rfl) ?_
  refine va_get (D := D) (ci := 6) (v := .ref a2) (C := RX6) (T := TX6) (N := 15) hx hb hts inlX6 hown hG.K hP 0 rfl rfl 3 (by decide) (hts _ mF_X6_13) (fun _ h9 => h9) rfl dX6_addClip_38 ?_
  refine lv_aload_n hx hb dX6_addClip_41 rfl (lv_at hl 0 rfl) ?_
  refine va_get (D := D) (ci := 6) (v := .int (nI nC)) (C := RX6) (T := TX6) (N := 15) hx hb hts inlX6 hown hG.K hP 0 rfl rfl 2 (by decide) (hts _ mF_X6_47) (fun _ h9 => h9) rfl dX6_addClip_42 ?_
  refine lv_iload_n hx hb dX6_addClip_45 rfl (lv_at hl 1 rfl) ?_
  refine ist (n := 6) (j := nC) hx hb hG hP hD hS 1 rfl (by omega) (by omega) dX6_addClip_46 (fun H locs hP hD hS => ?_)
  have hP : va_P D cls [oO mo 6 [.int 0, .ref a1, .int (nI nC), .ref a2, .ref a3, .ref a4, .ref a5, .ref a6, .ref a7, .ref a8, .ref a9, .int (nI nS), .ref a10, .int (nI nM), .ref a11], aI D a2 6 (upd ln nC x)] H := hP
  have hD : va_D A [oO mo 6 [.int 0, .ref a1, .int (nI nC), .ref a2, .ref a3, .ref a4, .ref a5, .ref a6, .ref a7, .ref a8, .ref a9, .int (nI nS), .ref a10, .int (nI nM), .ref a11], aI D a2 6 (upd ln nC x)] := hD
  refine lv_aload_n hx hb dX6_addClip_47 rfl (lv_at hl 0 rfl) ?_
  refine lv_dup hx hb dX6_addClip_48 rfl ?_
  refine va_get (D := D) (ci := 6) (v := .int (nI nC)) (C := RX6) (T := TX6) (N := 15) hx hb hts inlX6 hown hG.K hP 0 rfl rfl 2 (by decide) (hts _ mF_X6_47) (fun _ h9 => h9) rfl dX6_addClip_49 ?_
  refine lv_iconst (v := 1) hx hb dX6_addClip_52 (by decide) ?_
  refine lv_iadd hx hb dX6_addClip_53 ?_
  refine tpi (y := nI (nC + 1)) (nI_add nC 1) ?_
  refine va_put (D := D) (ci := 6) (v := .int (nI (nC + 1))) (ty := .int) (C := RX6) (T := TX6) (N := 15) hx hb hts inlX6 tyX6 tyX6_ok nmX6 hown hG.K hP hD hS 0 rfl rfl 2 (by decide) (hts _ mF_X6_47) (fun _ h9 => h9) rfl (by decide +kernel) rfl rfl (Nat.le_of_ble_eq_true rfl) dX6_addClip_54 (fun H locs hP hD hS => ?_)
  have hP : va_P D cls [oO mo 6 [.int 0, .ref a1, .int (nI (nC + 1)), .ref a2, .ref a3, .ref a4, .ref a5, .ref a6, .ref a7, .ref a8, .ref a9, .int (nI nS), .ref a10, .int (nI nM), .ref a11], aI D a2 6 (upd ln nC x)] H := hP
  have hD : va_D A [oO mo 6 [.int 0, .ref a1, .int (nI (nC + 1)), .ref a2, .ref a3, .ref a4, .ref a5, .ref a6, .ref a7, .ref a8, .ref a9, .int (nI nS), .ref a10, .int (nI nM), .ref a11], aI D a2 6 (upd ln nC x)] := hD
  refine lv_aload_n hx hb dX6_addClip_57 rfl (lv_at hl 0 rfl) ?_
  refine va_get (D := D) (ci := 6) (v := .int (nI (nC + 1))) (C := RX6) (T := TX6) (N := 15) hx hb hts inlX6 hown hG.K hP 0 rfl rfl 2 (by decide) (hts _ mF_X6_47) (fun _ h9 => h9) rfl dX6_addClip_58 ?_
  refine lv_iconst (v := 1) hx hb dX6_addClip_61 (by decide) ?_
  refine lv_isub hx hb dX6_addClip_62 ?_
  refine tpi (y := nI nC) (pk_sub (a := nC + 1) (b := 1) (by omega)) ?_
  refine Wi () hx hb hr hlk ?_ hP hD hS (Nat.le_of_ble_eq_true rfl) (by first | exact Nat.le_of_ble_eq_true rfl | exact Nat.le_of_eq (Nat.zero_add _)) dX6_addClip_63
  exact rfl
set_option maxHeartbeats 400000 in
set_option maxRecDepth 100000 in
theorem m_clipTold (l : Launch) (D : va_G) {mo a1 a2 a3 a4 a5 a6 a7 a8 a9 a10 a11 nC nS nM : Nat} {th : Int32} {ln ks qs : Nat → Int32} {i : Nat} {s0 s1 s2 s3 : Nat} {wh : Int32} (hi : i < 6) (h0 : ks (4 * i + 0) = nI s0) (h1 : ks (4 * i + 1) = nI s1) (h2 : ks (4 * i + 2) = nI s2) (h3 : ks (4 * i + 3) = nI s3) : Met l yX6_clipTold (ws_ yX6_clipTold cX6_clipTold 5 (some .int)) ({ frames := 0, cells := 0, slots := 0, locals := 0 } : Room) (va_Pc [.ref mo, .int (nI i), .int wh] (PW D [oO mo 6 [.int th, .ref a1, .int (nI nC), .ref a2, .ref a3, .ref a4, .ref a5, .ref a6, .ref a7, .ref a8, .ref a9, .int (nI nS), .ref a10, .int (nI nM), .ref a11], aI D a2 6 ln, aI D a3 24 ks, aI D a7 6 qs])) (vp_Si (fun v => v = if wh = 0 then ln i else if wh = 1 then qs i else nI (s0 + s1 + s2 + s3))) 0 0 (fun _ => False) := by
  refine Met.ofW (cc := cX6_clipTold) (maxL := 5) (ret := (some .int)) (by decide) rfl ?_
  intro p e s m args below meth c s₁ B hml hv
  obtain ⟨rfl, hG, hP⟩ := hv
  have hx := B.exec
  have hb := B.bytes
  have hr := B.returns
  have hts : ∀ w ∈ wsL_law, w.before _ s = true := fun w h => atoms_spec (ws := (ws_ yX6_clipTold cX6_clipTold 5 (some .int))) B.pre w (List.mem_cons_of_mem _ h)
  have hown : s.vm.findClass RX6 = some m.cls := findClass_of_methodNamed B.named
  have hlk := B.notSynchronized
  have hC : CallFix p m c cX6_clipTold 5 s _ wsL_law RX6 := ⟨hx, hb, hml, hown, hts⟩
  have hl := lv_entry ([.ref mo, .int (nI i), .int wh]) (n := 5) (Nat.le_of_ble_eq_true rfl)
  rw [lg_entry_eq]
  generalize (lg_sl ([.ref mo, .int (nI i), .int wh]) ++ List.replicate (5 - (lg_sl ([.ref mo, .int (nI i), .int wh])).length) Slot.unset).toArray = ls at hl ⊢
  have hl : lv_has ls 5 [(0, .ref mo), (1, .int (nI i)), (2, .int wh)] := hl
  refine lv_iconst (v := 0) hx hb dX6_clipTold_0 (by decide) ?_
  refine lv_istore_n (lv' := [(3, .int 0), (0, .ref mo), (1, .int (nI i)), (2, .int wh)]) hx hb dX6_clipTold_1 rfl hl (by decide) rfl (fun ls hl => ?_)
  refine lv_iconst (v := 0) hx hb dX6_clipTold_2 (by decide) ?_
  refine lv_istore (lv' := [(4, .int 0), (3, .int 0), (0, .ref mo), (1, .int (nI i)), (2, .int wh)]) hx hb dX6_clipTold_3 hl (by decide) rfl (fun ls hl => ?_)
  have loop5 : ∀ (d9 : Nat) (k : Nat) (sm : Nat), (4 - k) < d9 → (k ≤ 4) → ((k = 0 → sm = 0) ∧ (k = 1 → sm = s0) ∧ (k = 2 → sm = s0 + s1) ∧ (k = 3 → sm = s0 + s1 + s2) ∧ (k = 4 → sm = s0 + s1 + s2 + s3)) → ∀ (ls : Array Slot), lv_has ls 5 [(0, .ref mo), (1, .int (nI i)), (2, .int wh), (3, .int (nI sm)), (4, .int (nI k))] → W p l e ({ frames := 0, cells := 0, slots := 0, locals := 0 } : Room) s m ([.ref mo, .int (nI i), .int wh] : List Value).toArray below meth c s.heap [] 0 0 (MQ below (vp_Si (fun v => v = if wh = 0 then ln i else if wh = 1 then qs i else nI (s0 + s1 + s2 + s3))) ([.ref mo, .int (nI i), .int wh] : List Value).toArray s 0 0 (fun _ => False)) (F0 m 5 ls []) := by
    intro d9
    induction d9 with
    | zero => intro k sm hd; exact absurd hd (Nat.not_lt_zero _)
    | succ d9 ih5 =>
      intro k sm hd5 hk hsm ls hl
      refine lv_iload hx hb dX6_clipTold_5 (lv_at hl 4 rfl) ?_
      refine lv_iconst (v := 4) hx hb dX6_clipTold_7 (by decide) ?_
      refine lv_icmp_ge (tgt := 31) hx hb dX6_clipTold_8 (by decide) (fun c8 => ?_) (fun c8 => ?_)
      · skip
        have n8 := (nI_leI (a := 4) (b := k) (by omega) (by omega)).mp c8
        refine lv_iload_n hx hb dX6_clipTold_31 rfl (lv_at hl 2 rfl) ?_
        refine lv_if_ne (tgt := 44) hx hb dX6_clipTold_32 (by decide) (fun c32 => ?_) (fun c32 => ?_)
        · skip
          refine lv_iload_n hx hb dX6_clipTold_44 rfl (lv_at hl 2 rfl) ?_
          refine lv_iconst (v := 1) hx hb dX6_clipTold_45 (by decide) ?_
          refine lv_icmp_ne (tgt := 58) hx hb dX6_clipTold_46 (by decide) (fun c46 => ?_) (fun c46 => ?_)
          · skip
            refine lv_iload_n hx hb dX6_clipTold_58 rfl (lv_at hl 3 rfl) ?_
            refine Ri hx hb hr hlk ?_ dX6_clipTold_59
            have hk9 : sm = s0 + s1 + s2 + s3 := by omega
            show _ = _
            first | rw [if_pos c32] | rw [if_neg c32, if_pos c46] | rw [if_neg c32, if_neg c46, hk9]
          · skip
            refine lv_aload_n hx hb dX6_clipTold_49 rfl (lv_at hl 0 rfl) ?_
            refine va_get (D := D) (ci := 6) (v := .ref a7) (C := RX6) (T := TX6) (N := 15) hx hb hts inlX6 hown hG.K hP 0 rfl rfl 8 (by decide) (hts _ mF_X6_28) (fun _ h9 => h9) rfl dX6_clipTold_50 ?_
            refine lv_iload_n hx hb dX6_clipTold_53 rfl (lv_at hl 1 rfl) ?_
            refine ild (n := 6) (j := i) hx hb hG hP 3 rfl (by omega) (by omega) dX6_clipTold_54 ?_
            refine lv_goto (tgt := 59) hx hb dX6_clipTold_55 (by decide) ?_
            refine Ri hx hb hr hlk ?_ dX6_clipTold_59
            have hk9 : sm = s0 + s1 + s2 + s3 := by omega
            show _ = _
            first | rw [if_pos c32] | rw [if_neg c32, if_pos c46] | rw [if_neg c32, if_neg c46, hk9]
        · skip
          refine lv_aload_n hx hb dX6_clipTold_35 rfl (lv_at hl 0 rfl) ?_
          refine va_get (D := D) (ci := 6) (v := .ref a2) (C := RX6) (T := TX6) (N := 15) hx hb hts inlX6 hown hG.K hP 0 rfl rfl 3 (by decide) (hts _ mF_X6_13) (fun _ h9 => h9) rfl dX6_clipTold_36 ?_
          refine lv_iload_n hx hb dX6_clipTold_39 rfl (lv_at hl 1 rfl) ?_
          refine ild (n := 6) (j := i) hx hb hG hP 1 rfl (by omega) (by omega) dX6_clipTold_40 ?_
          refine lv_goto (tgt := 59) hx hb dX6_clipTold_41 (by decide) ?_
          refine Ri hx hb hr hlk ?_ dX6_clipTold_59
          have hk9 : sm = s0 + s1 + s2 + s3 := by omega
          show _ = _
          first | rw [if_pos c32] | rw [if_neg c32, if_pos c46] | rw [if_neg c32, if_neg c46, hk9]
      · skip
        have n8 := mt (nI_leI (a := 4) (b := k) (by omega) (by omega)).mpr c8
        obtain ⟨kq, hkq, hkr⟩ : ∃ kq, ks (4 * i + k) = nI kq ∧ ((k = 0 → kq = s0) ∧ (k = 1 → kq = s1) ∧ (k = 2 → kq = s2) ∧ (k = 3 → kq = s3)) := by
          rcases (show k = 0 ∨ k = 1 ∨ k = 2 ∨ k = 3 by omega) with rfl | rfl | rfl | rfl
          · exact ⟨s0, h0, by omega⟩
          · exact ⟨s1, h1, by omega⟩
          · exact ⟨s2, h2, by omega⟩
          · exact ⟨s3, h3, by omega⟩
        refine lv_iload_n hx hb dX6_clipTold_11 rfl (lv_at hl 3 rfl) ?_
        refine lv_aload_n hx hb dX6_clipTold_12 rfl (lv_at hl 0 rfl) ?_
        refine va_get (D := D) (ci := 6) (v := .ref a3) (C := RX6) (T := TX6) (N := 15) hx hb hts inlX6 hown hG.K hP 0 rfl rfl 4 (by decide) (hts _ mF_X6_16) (fun _ h9 => h9) rfl dX6_clipTold_13 ?_
        refine lv_iconst (v := 4) hx hb dX6_clipTold_16 (by decide) ?_
        refine lv_iload_n hx hb dX6_clipTold_17 rfl (lv_at hl 1 rfl) ?_
        refine lv_imul hx hb dX6_clipTold_18 ?_
        refine tpi (y := nI (4 * i)) (pk_mul 4 i) ?_
        refine lv_iload hx hb dX6_clipTold_19 (lv_at hl 4 rfl) ?_
        refine lv_iadd hx hb dX6_clipTold_21 ?_
        refine tpi (y := nI ((4 * i) + k)) (nI_add (4 * i) k) ?_
        refine ild (n := 24) (j := (4 * i) + k) hx hb hG hP 2 rfl (by omega) (by omega) dX6_clipTold_22 ?_
        refine tpi (y := nI kq) (hkq) ?_
        refine lv_iadd hx hb dX6_clipTold_23 ?_
        refine tpi (y := nI (sm + kq)) (nI_add sm kq) ?_
        refine lv_istore_n (lv' := [(3, .int (nI (sm + kq))), (0, .ref mo), (1, .int (nI i)), (2, .int wh), (4, .int (nI k))]) hx hb dX6_clipTold_24 rfl hl (by decide) rfl (fun ls hl => ?_)
        refine lv_iinc (v := nI (k + 1)) (lv' := [(4, .int (nI (k + 1))), (3, .int (nI (sm + kq))), (0, .ref mo), (1, .int (nI i)), (2, .int wh)]) hx hb dX6_clipTold_25 hl (k := 4) rfl (nI_1 _) (by decide) rfl (fun ls hl => ?_)
        refine lv_goto (tgt := 5) hx hb dX6_clipTold_28 (by decide) ?_
        exact ih5 (k + 1) (sm + kq) (by omega) (by omega) (by omega) _ (lv_sub hl [2, 3, 4, 1, 0] rfl)
  exact loop5 _ 0 0 (Nat.lt_succ_self _) (by omega) (by omega) _ (lv_sub hl [2, 3, 4, 1, 0] rfl)
set_option maxHeartbeats 400000 in
set_option maxRecDepth 100000 in
theorem m_clip_1a (l : Launch) (D : va_G) {mo a1 a2 a3 a4 a5 a6 a7 a8 a9 a10 a11 nC nS nM : Nat} {th : Int32} {x wh : Int32} (hz0 : Nat) (hn : nC ≤ 6) (hxx : x < 0 ∨ nI nC ≤ x) : Met l yX6_clip (ws_ yX6_clip cX6_clip 3 (some .int)) ({ frames := 2, cells := 0, slots := 0, locals := 43 } : Room) (va_Pc [.ref mo, .int x, .int wh] (SW D [oO mo 6 [.int th, .ref a1, .int (nI nC), .ref a2, .ref a3, .ref a4, .ref a5, .ref a6, .ref a7, .ref a8, .ref a9, .int (nI nS), .ref a10, .int (nI nM), .ref a11]] hz0)) (va_Qi (fun v _ => v = 0) (AT D (va_A [oO mo 6 [.int th, .ref a1, .int (nI nC), .ref a2, .ref a3, .ref a4, .ref a5, .ref a6, .ref a7, .ref a8, .ref a9, .int (nI nS), .ref a10, .int (nI nM), .ref a11]] hz0) (fun _ : Unit => [oO mo 6 [.int 1, .ref a1, .int (nI nC), .ref a2, .ref a3, .ref a4, .ref a5, .ref a6, .ref a7, .ref a8, .ref a9, .int (nI nS), .ref a10, .int (nI nM), .ref a11]])) (va_A [oO mo 6 [.int th, .ref a1, .int (nI nC), .ref a2, .ref a3, .ref a4, .ref a5, .ref a6, .ref a7, .ref a8, .ref a9, .int (nI nS), .ref a10, .int (nI nM), .ref a11]] hz0)) 0 0 (va_A [oO mo 6 [.int th, .ref a1, .int (nI nC), .ref a2, .ref a3, .ref a4, .ref a5, .ref a6, .ref a7, .ref a8, .ref a9, .int (nI nS), .ref a10, .int (nI nM), .ref a11]] hz0) := by
  refine Met.ofW (cc := cX6_clip) (maxL := 3) (ret := (some .int)) (by decide) rfl ?_
  intro p e s m args below meth c s₁ B hml hv
  obtain ⟨rfl, hsz, hG, hP, hD0⟩ := hv
  have hx := B.exec
  have hb := B.bytes
  have hr := B.returns
  have hts : ∀ w ∈ wsL_law, w.before _ s = true := fun w h => atoms_spec (ws := (ws_ yX6_clip cX6_clip 3 (some .int))) B.pre w (List.mem_cons_of_mem _ h)
  have hown : s.vm.findClass RX6 = some m.cls := findClass_of_methodNamed B.named
  have hlk := B.notSynchronized
  have hC : CallFix p m c cX6_clip 3 s _ wsL_law RX6 := ⟨hx, hb, hml, hown, hts⟩
  subst hsz
  have hD := hD0.self (sz := s.heap.size)
  generalize hAe : va_A [oO mo 6 [.int th, .ref a1, .int (nI nC), .ref a2, .ref a3, .ref a4, .ref a5, .ref a6, .ref a7, .ref a8, .ref a9, .int (nI nS), .ref a10, .int (nI nM), .ref a11]] s.heap.size = A at hD ⊢
  have hA : ∀ q : Nat, s.heap.size ≤ q → A q := fun q h => by rw [← hAe]; exact Or.inr h
  have hS : va_S A s.heap s.heap [] := va_S.rf
  obtain ⟨H, hHe⟩ : ∃ H, H = s.heap := ⟨_, rfl⟩
  rw [← hHe] at hP
  have hS : va_S A s.heap H [] := by rw [hHe]; exact hS
  have hl := lv_entry ([.ref mo, .int x, .int wh]) (n := 3) (Nat.le_of_ble_eq_true rfl)
  rw [lg_entry_eq]
  generalize (lg_sl ([.ref mo, .int x, .int wh]) ++ List.replicate (3 - (lg_sl ([.ref mo, .int x, .int wh])).length) Slot.unset).toArray = ls at hl ⊢
  have hl : lv_has ls 3 [(0, .ref mo), (1, .int x), (2, .int wh)] := hl
  rw [← hHe]
  refine lv_aload_n hx hb dX6_clip_0 rfl (lv_at hl 0 rfl) ?_
  refine lv_iconst (v := 0) hx hb dX6_clip_1 (by decide) ?_
  refine va_put (D := D) (ci := 6) (v := .int 0) (ty := .int) (C := RX6) (T := TX6) (N := 15) hx hb hts inlX6 tyX6 tyX6_ok nmX6 hown hG.K hP hD hS 0 rfl rfl 0 (by decide) (hts _ mF_X6_43) (fun _ h9 => h9) rfl (by decide +kernel) rfl rfl (Nat.le_of_ble_eq_true rfl) dX6_clip_2 (fun H locs hP hD hS => ?_)
  have hP : va_P D cls [oO mo 6 [.int 0, .ref a1, .int (nI nC), .ref a2, .ref a3, .ref a4, .ref a5, .ref a6, .ref a7, .ref a8, .ref a9, .int (nI nS), .ref a10, .int (nI nM), .ref a11]] H := hP
  have hD : va_D A [oO mo 6 [.int 0, .ref a1, .int (nI nC), .ref a2, .ref a3, .ref a4, .ref a5, .ref a6, .ref a7, .ref a8, .ref a9, .int (nI nS), .ref a10, .int (nI nM), .ref a11]] := hD
  refine lv_aload_n hx hb dX6_clip_5 rfl (lv_at hl 0 rfl) ?_
  refine lv_iload_n hx hb dX6_clip_6 rfl (lv_at hl 1 rfl) ?_
  have hP9 := hP
  refine vp_callSi (pV (rest := []) (qc := (RX6, TX6, 15)) [.int x] 1 hC (m_isClip_no l D (mo := mo) (x := x) (th := 0) (a1 := a1) (nC := nC) (a2 := a2) (a3 := a3) (a4 := a4) (a5 := a5) (a6 := a6) (a7 := a7) (a8 := a8) (a9 := a9) (nS := nS) (a10 := a10) (nM := nM) (a11 := a11) (by omega) (hxx)) rfl (hP 0 _ rfl) (gV mM_X6_54 mI_X6_isClip mS_X6_isClip mN_X6 mC_X6_isClip) (by decide +kernel) rfl rfl ⟨Nat.le_of_ble_eq_true rfl, Nat.le_of_ble_eq_true rfl⟩ hG hP9 rfl hl.1 rfl (Nat.le_of_ble_eq_true rfl) dX6_clip_7 ⟨Nat.le_of_ble_eq_true rfl, Nat.le_of_ble_eq_true rfl⟩) (fun r7 h7 => ?_)
  obtain rfl : r7 = 0 := h7
  refine lv_if_eq (tgt := 31) hx hb dX6_clip_10 (by decide) (fun _ => ?_) (fun h9 => (h9 (by decide)).elim)
  refine lv_aload_n hx hb dX6_clip_31 rfl (lv_at hl 0 rfl) ?_
  refine lv_iconst (v := 1) hx hb dX6_clip_32 (by decide) ?_
  have hP9 := hP.sub (ws' := [oO mo 6 [.int 0, .ref a1, .int (nI nC), .ref a2, .ref a3, .ref a4, .ref a5, .ref a6, .ref a7, .ref a8, .ref a9, .int (nI nS), .ref a10, .int (nI nM), .ref a11]]) [0] rfl
  have hD9 := (hD.sub (ws' := [oO mo 6 [.int 0, .ref a1, .int (nI nC), .ref a2, .ref a3, .ref a4, .ref a5, .ref a6, .ref a7, .ref a8, .ref a9, .int (nI nS), .ref a10, .int (nI nM), .ref a11]]) [0] (by decide) rfl).weaken (B := fun _ => True) (fun _ _ _ _ => trivial)
  refine ki (wr := []) (rV (rest := []) (qc := (RX6, TX6, 15)) [.int 1] 1 0 0 hC (m_no l D (mo := mo) (x := 1) (th := 0) (a1 := a1) (nC := nC) (a2 := a2) (a3 := a3) (a4 := a4) (a5 := a5) (a6 := a6) (a7 := a7) (a8 := a8) (a9 := a9) (nS := nS) (a10 := a10) (nM := nM) (a11 := a11) (hz0 := H.size) ) rfl (hP 0 _ rfl) (gV mM_X6_66 mI_X6_no mS_X6_no mN_X6 mC_X6_no) (by decide +kernel) rfl rfl ⟨Nat.le_of_ble_eq_true rfl, Nat.le_of_ble_eq_true rfl⟩ hG hP9 hD9 rfl hl.1 rfl (Nat.le_of_ble_eq_true rfl) dX6_clip_33 ⟨Nat.le_of_ble_eq_true rfl, Nat.le_of_ble_eq_true rfl⟩) hP hD hS hA [0] [] rfl rfl (by decide) (by decide) (fun r33 u33 H locs h33 hP hD hS hz hfr => ?_)
  have hP : va_P D cls [oO mo 6 [.int 1, .ref a1, .int (nI nC), .ref a2, .ref a3, .ref a4, .ref a5, .ref a6, .ref a7, .ref a8, .ref a9, .int (nI nS), .ref a10, .int (nI nM), .ref a11]] H := hP
  have hD : va_D A [oO mo 6 [.int 1, .ref a1, .int (nI nC), .ref a2, .ref a3, .ref a4, .ref a5, .ref a6, .ref a7, .ref a8, .ref a9, .int (nI nS), .ref a10, .int (nI nM), .ref a11]] := hD
  obtain rfl : r33 = 0 := h33
  refine Wi () hx hb hr hlk ?_ hP hD hS (Nat.le_of_ble_eq_true rfl) (by first | exact Nat.le_of_ble_eq_true rfl | exact Nat.le_of_eq (Nat.zero_add _)) dX6_clip_36
  exact rfl
set_option maxHeartbeats 400000 in
set_option maxRecDepth 100000 in
theorem m_clip_1b (l : Launch) (D : va_G) {mo a1 a2 a3 a4 a5 a6 a7 a8 a9 a10 a11 nC nS nM : Nat} {th : Int32} {i : Nat} {wh : Int32} (hz0 : Nat) (hn : nC ≤ 6) (hi : i < nC) (hw : ¬ ((0 : Int32) ≤ wh ∧ wh ≤ 2)) : Met l yX6_clip (ws_ yX6_clip cX6_clip 3 (some .int)) ({ frames := 2, cells := 0, slots := 0, locals := 43 } : Room) (va_Pc [.ref mo, .int (nI i), .int wh] (SW D [oO mo 6 [.int th, .ref a1, .int (nI nC), .ref a2, .ref a3, .ref a4, .ref a5, .ref a6, .ref a7, .ref a8, .ref a9, .int (nI nS), .ref a10, .int (nI nM), .ref a11]] hz0)) (va_Qi (fun v _ => v = 0) (AT D (va_A [oO mo 6 [.int th, .ref a1, .int (nI nC), .ref a2, .ref a3, .ref a4, .ref a5, .ref a6, .ref a7, .ref a8, .ref a9, .int (nI nS), .ref a10, .int (nI nM), .ref a11]] hz0) (fun _ : Unit => [oO mo 6 [.int 1, .ref a1, .int (nI nC), .ref a2, .ref a3, .ref a4, .ref a5, .ref a6, .ref a7, .ref a8, .ref a9, .int (nI nS), .ref a10, .int (nI nM), .ref a11]])) (va_A [oO mo 6 [.int th, .ref a1, .int (nI nC), .ref a2, .ref a3, .ref a4, .ref a5, .ref a6, .ref a7, .ref a8, .ref a9, .int (nI nS), .ref a10, .int (nI nM), .ref a11]] hz0)) 0 0 (va_A [oO mo 6 [.int th, .ref a1, .int (nI nC), .ref a2, .ref a3, .ref a4, .ref a5, .ref a6, .ref a7, .ref a8, .ref a9, .int (nI nS), .ref a10, .int (nI nM), .ref a11]] hz0) := by
  refine Met.ofW (cc := cX6_clip) (maxL := 3) (ret := (some .int)) (by decide) rfl ?_
  intro p e s m args below meth c s₁ B hml hv
  obtain ⟨rfl, hsz, hG, hP, hD0⟩ := hv
  have hx := B.exec
  have hb := B.bytes
  have hr := B.returns
  have hts : ∀ w ∈ wsL_law, w.before _ s = true := fun w h => atoms_spec (ws := (ws_ yX6_clip cX6_clip 3 (some .int))) B.pre w (List.mem_cons_of_mem _ h)
  have hown : s.vm.findClass RX6 = some m.cls := findClass_of_methodNamed B.named
  have hlk := B.notSynchronized
  have hC : CallFix p m c cX6_clip 3 s _ wsL_law RX6 := ⟨hx, hb, hml, hown, hts⟩
  subst hsz
  have hD := hD0.self (sz := s.heap.size)
  generalize hAe : va_A [oO mo 6 [.int th, .ref a1, .int (nI nC), .ref a2, .ref a3, .ref a4, .ref a5, .ref a6, .ref a7, .ref a8, .ref a9, .int (nI nS), .ref a10, .int (nI nM), .ref a11]] s.heap.size = A at hD ⊢
  have hA : ∀ q : Nat, s.heap.size ≤ q → A q := fun q h => by rw [← hAe]; exact Or.inr h
  have hS : va_S A s.heap s.heap [] := va_S.rf
  obtain ⟨H, hHe⟩ : ∃ H, H = s.heap := ⟨_, rfl⟩
  rw [← hHe] at hP
  have hS : va_S A s.heap H [] := by rw [hHe]; exact hS
  have hl := lv_entry ([.ref mo, .int (nI i), .int wh]) (n := 3) (Nat.le_of_ble_eq_true rfl)
  rw [lg_entry_eq]
  generalize (lg_sl ([.ref mo, .int (nI i), .int wh]) ++ List.replicate (3 - (lg_sl ([.ref mo, .int (nI i), .int wh])).length) Slot.unset).toArray = ls at hl ⊢
  have hl : lv_has ls 3 [(0, .ref mo), (1, .int (nI i)), (2, .int wh)] := hl
  rw [← hHe]
  refine lv_aload_n hx hb dX6_clip_0 rfl (lv_at hl 0 rfl) ?_
  refine lv_iconst (v := 0) hx hb dX6_clip_1 (by decide) ?_
  refine va_put (D := D) (ci := 6) (v := .int 0) (ty := .int) (C := RX6) (T := TX6) (N := 15) hx hb hts inlX6 tyX6 tyX6_ok nmX6 hown hG.K hP hD hS 0 rfl rfl 0 (by decide) (hts _ mF_X6_43) (fun _ h9 => h9) rfl (by decide +kernel) rfl rfl (Nat.le_of_ble_eq_true rfl) dX6_clip_2 (fun H locs hP hD hS => ?_)
  have hP : va_P D cls [oO mo 6 [.int 0, .ref a1, .int (nI nC), .ref a2, .ref a3, .ref a4, .ref a5, .ref a6, .ref a7, .ref a8, .ref a9, .int (nI nS), .ref a10, .int (nI nM), .ref a11]] H := hP
  have hD : va_D A [oO mo 6 [.int 0, .ref a1, .int (nI nC), .ref a2, .ref a3, .ref a4, .ref a5, .ref a6, .ref a7, .ref a8, .ref a9, .int (nI nS), .ref a10, .int (nI nM), .ref a11]] := hD
  refine lv_aload_n hx hb dX6_clip_5 rfl (lv_at hl 0 rfl) ?_
  refine lv_iload_n hx hb dX6_clip_6 rfl (lv_at hl 1 rfl) ?_
  have hP9 := hP
  refine vp_callSi (pV (rest := []) (qc := (RX6, TX6, 15)) [.int (nI i)] 1 hC (m_isClip l D (mo := mo) (i := i) (th := 0) (a1 := a1) (nC := nC) (a2 := a2) (a3 := a3) (a4 := a4) (a5 := a5) (a6 := a6) (a7 := a7) (a8 := a8) (a9 := a9) (nS := nS) (a10 := a10) (nM := nM) (a11 := a11) (by omega) (by omega)) rfl (hP 0 _ rfl) (gV mM_X6_54 mI_X6_isClip mS_X6_isClip mN_X6 mC_X6_isClip) (by decide +kernel) rfl rfl ⟨Nat.le_of_ble_eq_true rfl, Nat.le_of_ble_eq_true rfl⟩ hG hP9 rfl hl.1 rfl (Nat.le_of_ble_eq_true rfl) dX6_clip_7 ⟨Nat.le_of_ble_eq_true rfl, Nat.le_of_ble_eq_true rfl⟩) (fun r7 h7 => ?_)
  obtain rfl : r7 = 1 := h7
  refine lv_if_eq (tgt := 31) hx hb dX6_clip_10 (by decide) (fun h9 => absurd h9 (by decide)) (fun _ => ?_)
  refine lv_iload_n hx hb dX6_clip_13 rfl (lv_at hl 2 rfl) ?_
  refine lv_iconst (v := 0) hx hb dX6_clip_14 (by decide) ?_
  refine lv_iconst (v := 2) hx hb dX6_clip_15 (by decide) ?_
  have hP9 : va_P D cls [] H := fun k q h => by simp at h
  refine vp_callSi (pS (rest := []) [.int wh, .int 0, .int 2] 3 hC (m_isIn l D (x := wh) (a := 0) (b := 2) ) (gS mM_X6_50 mT_X6_isIn mN_X6 mC_X6_isIn) (by decide +kernel) rfl rfl ⟨Nat.le_of_ble_eq_true rfl, Nat.le_of_ble_eq_true rfl⟩ hG hP9 rfl hl.1 rfl (Nat.le_of_ble_eq_true rfl) dX6_clip_16 ⟨Nat.le_of_ble_eq_true rfl, Nat.le_of_ble_eq_true rfl⟩) (fun r16 h16 => ?_)
  rcases h16 with ⟨rfl, hb16⟩ | ⟨rfl, hb16⟩
  · exact absurd hb16 (hw)
  refine lv_if_eq (tgt := 31) hx hb dX6_clip_19 (by decide) (fun _ => ?_) (fun h9 => (h9 (by decide)).elim)
  refine lv_aload_n hx hb dX6_clip_31 rfl (lv_at hl 0 rfl) ?_
  refine lv_iconst (v := 1) hx hb dX6_clip_32 (by decide) ?_
  have hP9 := hP.sub (ws' := [oO mo 6 [.int 0, .ref a1, .int (nI nC), .ref a2, .ref a3, .ref a4, .ref a5, .ref a6, .ref a7, .ref a8, .ref a9, .int (nI nS), .ref a10, .int (nI nM), .ref a11]]) [0] rfl
  have hD9 := (hD.sub (ws' := [oO mo 6 [.int 0, .ref a1, .int (nI nC), .ref a2, .ref a3, .ref a4, .ref a5, .ref a6, .ref a7, .ref a8, .ref a9, .int (nI nS), .ref a10, .int (nI nM), .ref a11]]) [0] (by decide) rfl).weaken (B := fun _ => True) (fun _ _ _ _ => trivial)
  refine ki (wr := []) (rV (rest := []) (qc := (RX6, TX6, 15)) [.int 1] 1 0 0 hC (m_no l D (mo := mo) (x := 1) (th := 0) (a1 := a1) (nC := nC) (a2 := a2) (a3 := a3) (a4 := a4) (a5 := a5) (a6 := a6) (a7 := a7) (a8 := a8) (a9 := a9) (nS := nS) (a10 := a10) (nM := nM) (a11 := a11) (hz0 := H.size) ) rfl (hP 0 _ rfl) (gV mM_X6_66 mI_X6_no mS_X6_no mN_X6 mC_X6_no) (by decide +kernel) rfl rfl ⟨Nat.le_of_ble_eq_true rfl, Nat.le_of_ble_eq_true rfl⟩ hG hP9 hD9 rfl hl.1 rfl (Nat.le_of_ble_eq_true rfl) dX6_clip_33 ⟨Nat.le_of_ble_eq_true rfl, Nat.le_of_ble_eq_true rfl⟩) hP hD hS hA [0] [] rfl rfl (by decide) (by decide) (fun r33 u33 H locs h33 hP hD hS hz hfr => ?_)
  have hP : va_P D cls [oO mo 6 [.int 1, .ref a1, .int (nI nC), .ref a2, .ref a3, .ref a4, .ref a5, .ref a6, .ref a7, .ref a8, .ref a9, .int (nI nS), .ref a10, .int (nI nM), .ref a11]] H := hP
  have hD : va_D A [oO mo 6 [.int 1, .ref a1, .int (nI nC), .ref a2, .ref a3, .ref a4, .ref a5, .ref a6, .ref a7, .ref a8, .ref a9, .int (nI nS), .ref a10, .int (nI nM), .ref a11]] := hD
  obtain rfl : r33 = 0 := h33
  refine Wi () hx hb hr hlk ?_ hP hD hS (Nat.le_of_ble_eq_true rfl) (by first | exact Nat.le_of_ble_eq_true rfl | exact Nat.le_of_eq (Nat.zero_add _)) dX6_clip_36
  exact rfl
set_option maxHeartbeats 400000 in
set_option maxRecDepth 100000 in
theorem m_clip (l : Launch) (D : va_G) {mo a1 a2 a3 a4 a5 a6 a7 a8 a9 a10 a11 nC nS nM : Nat} {th : Int32} {ln ks qs : Nat → Int32} {i : Nat} {s0 s1 s2 s3 : Nat} {wh : Int32} (hz0 : Nat) (hn : nC ≤ 6) (hi : i < nC) (hw : (0 : Int32) ≤ wh ∧ wh ≤ 2) (h0 : ks (4 * i + 0) = nI s0) (h1 : ks (4 * i + 1) = nI s1) (h2 : ks (4 * i + 2) = nI s2) (h3 : ks (4 * i + 3) = nI s3) : Met l yX6_clip (ws_ yX6_clip cX6_clip 3 (some .int)) ({ frames := 2, cells := 0, slots := 0, locals := 43 } : Room) (va_Pc [.ref mo, .int (nI i), .int wh] (SW D [oO mo 6 [.int th, .ref a1, .int (nI nC), .ref a2, .ref a3, .ref a4, .ref a5, .ref a6, .ref a7, .ref a8, .ref a9, .int (nI nS), .ref a10, .int (nI nM), .ref a11], aI D a2 6 ln, aI D a3 24 ks, aI D a7 6 qs] hz0)) (va_Qi (fun v _ => v = if wh = 0 then ln i else if wh = 1 then qs i else nI (s0 + s1 + s2 + s3)) (AT D (va_A [oO mo 6 [.int th, .ref a1, .int (nI nC), .ref a2, .ref a3, .ref a4, .ref a5, .ref a6, .ref a7, .ref a8, .ref a9, .int (nI nS), .ref a10, .int (nI nM), .ref a11], aI D a2 6 ln, aI D a3 24 ks, aI D a7 6 qs] hz0) (fun _ : Unit => [oO mo 6 [.int 0, .ref a1, .int (nI nC), .ref a2, .ref a3, .ref a4, .ref a5, .ref a6, .ref a7, .ref a8, .ref a9, .int (nI nS), .ref a10, .int (nI nM), .ref a11], aI D a2 6 ln, aI D a3 24 ks, aI D a7 6 qs])) (va_A [oO mo 6 [.int th, .ref a1, .int (nI nC), .ref a2, .ref a3, .ref a4, .ref a5, .ref a6, .ref a7, .ref a8, .ref a9, .int (nI nS), .ref a10, .int (nI nM), .ref a11], aI D a2 6 ln, aI D a3 24 ks, aI D a7 6 qs] hz0)) 0 0 (va_A [oO mo 6 [.int th, .ref a1, .int (nI nC), .ref a2, .ref a3, .ref a4, .ref a5, .ref a6, .ref a7, .ref a8, .ref a9, .int (nI nS), .ref a10, .int (nI nM), .ref a11], aI D a2 6 ln, aI D a3 24 ks, aI D a7 6 qs] hz0) := by
  refine Met.ofW (cc := cX6_clip) (maxL := 3) (ret := (some .int)) (by decide) rfl ?_
  intro p e s m args below meth c s₁ B hml hv
  obtain ⟨rfl, hsz, hG, hP, hD0⟩ := hv
  have hx := B.exec
  have hb := B.bytes
  have hr := B.returns
  have hts : ∀ w ∈ wsL_law, w.before _ s = true := fun w h => atoms_spec (ws := (ws_ yX6_clip cX6_clip 3 (some .int))) B.pre w (List.mem_cons_of_mem _ h)
  have hown : s.vm.findClass RX6 = some m.cls := findClass_of_methodNamed B.named
  have hlk := B.notSynchronized
  have hC : CallFix p m c cX6_clip 3 s _ wsL_law RX6 := ⟨hx, hb, hml, hown, hts⟩
  subst hsz
  have hD := hD0.self (sz := s.heap.size)
  generalize hAe : va_A [oO mo 6 [.int th, .ref a1, .int (nI nC), .ref a2, .ref a3, .ref a4, .ref a5, .ref a6, .ref a7, .ref a8, .ref a9, .int (nI nS), .ref a10, .int (nI nM), .ref a11], aI D a2 6 ln, aI D a3 24 ks, aI D a7 6 qs] s.heap.size = A at hD ⊢
  have hA : ∀ q : Nat, s.heap.size ≤ q → A q := fun q h => by rw [← hAe]; exact Or.inr h
  have hS : va_S A s.heap s.heap [] := va_S.rf
  obtain ⟨H, hHe⟩ : ∃ H, H = s.heap := ⟨_, rfl⟩
  rw [← hHe] at hP
  have hS : va_S A s.heap H [] := by rw [hHe]; exact hS
  have hl := lv_entry ([.ref mo, .int (nI i), .int wh]) (n := 3) (Nat.le_of_ble_eq_true rfl)
  rw [lg_entry_eq]
  generalize (lg_sl ([.ref mo, .int (nI i), .int wh]) ++ List.replicate (3 - (lg_sl ([.ref mo, .int (nI i), .int wh])).length) Slot.unset).toArray = ls at hl ⊢
  have hl : lv_has ls 3 [(0, .ref mo), (1, .int (nI i)), (2, .int wh)] := hl
  rw [← hHe]
  refine lv_aload_n hx hb dX6_clip_0 rfl (lv_at hl 0 rfl) ?_
  refine lv_iconst (v := 0) hx hb dX6_clip_1 (by decide) ?_
  refine va_put (D := D) (ci := 6) (v := .int 0) (ty := .int) (C := RX6) (T := TX6) (N := 15) hx hb hts inlX6 tyX6 tyX6_ok nmX6 hown hG.K hP hD hS 0 rfl rfl 0 (by decide) (hts _ mF_X6_43) (fun _ h9 => h9) rfl (by decide +kernel) rfl rfl (Nat.le_of_ble_eq_true rfl) dX6_clip_2 (fun H locs hP hD hS => ?_)
  have hP : va_P D cls [oO mo 6 [.int 0, .ref a1, .int (nI nC), .ref a2, .ref a3, .ref a4, .ref a5, .ref a6, .ref a7, .ref a8, .ref a9, .int (nI nS), .ref a10, .int (nI nM), .ref a11], aI D a2 6 ln, aI D a3 24 ks, aI D a7 6 qs] H := hP
  have hD : va_D A [oO mo 6 [.int 0, .ref a1, .int (nI nC), .ref a2, .ref a3, .ref a4, .ref a5, .ref a6, .ref a7, .ref a8, .ref a9, .int (nI nS), .ref a10, .int (nI nM), .ref a11], aI D a2 6 ln, aI D a3 24 ks, aI D a7 6 qs] := hD
  refine lv_aload_n hx hb dX6_clip_5 rfl (lv_at hl 0 rfl) ?_
  refine lv_iload_n hx hb dX6_clip_6 rfl (lv_at hl 1 rfl) ?_
  have hP9 := hP.sub (ws' := [oO mo 6 [.int 0, .ref a1, .int (nI nC), .ref a2, .ref a3, .ref a4, .ref a5, .ref a6, .ref a7, .ref a8, .ref a9, .int (nI nS), .ref a10, .int (nI nM), .ref a11]]) [0] rfl
  refine vp_callSi (pV (rest := []) (qc := (RX6, TX6, 15)) [.int (nI i)] 1 hC (m_isClip l D (mo := mo) (i := i) (th := 0) (a1 := a1) (nC := nC) (a2 := a2) (a3 := a3) (a4 := a4) (a5 := a5) (a6 := a6) (a7 := a7) (a8 := a8) (a9 := a9) (nS := nS) (a10 := a10) (nM := nM) (a11 := a11) (by omega) (by omega)) rfl (hP 0 _ rfl) (gV mM_X6_54 mI_X6_isClip mS_X6_isClip mN_X6 mC_X6_isClip) (by decide +kernel) rfl rfl ⟨Nat.le_of_ble_eq_true rfl, Nat.le_of_ble_eq_true rfl⟩ hG hP9 rfl hl.1 rfl (Nat.le_of_ble_eq_true rfl) dX6_clip_7 ⟨Nat.le_of_ble_eq_true rfl, Nat.le_of_ble_eq_true rfl⟩) (fun r7 h7 => ?_)
  obtain rfl : r7 = 1 := h7
  refine lv_if_eq (tgt := 31) hx hb dX6_clip_10 (by decide) (fun h9 => absurd h9 (by decide)) (fun _ => ?_)
  refine lv_iload_n hx hb dX6_clip_13 rfl (lv_at hl 2 rfl) ?_
  refine lv_iconst (v := 0) hx hb dX6_clip_14 (by decide) ?_
  refine lv_iconst (v := 2) hx hb dX6_clip_15 (by decide) ?_
  have hP9 : va_P D cls [] H := fun k q h => by simp at h
  refine vp_callSi (pS (rest := []) [.int wh, .int 0, .int 2] 3 hC (m_isIn l D (x := wh) (a := 0) (b := 2) ) (gS mM_X6_50 mT_X6_isIn mN_X6 mC_X6_isIn) (by decide +kernel) rfl rfl ⟨Nat.le_of_ble_eq_true rfl, Nat.le_of_ble_eq_true rfl⟩ hG hP9 rfl hl.1 rfl (Nat.le_of_ble_eq_true rfl) dX6_clip_16 ⟨Nat.le_of_ble_eq_true rfl, Nat.le_of_ble_eq_true rfl⟩) (fun r16 h16 => ?_)
  rcases h16 with ⟨rfl, hb16⟩ | ⟨rfl, hb16⟩
  rotate_left
  · exact absurd (hw) hb16
  refine lv_if_eq (tgt := 31) hx hb dX6_clip_19 (by decide) (fun h9 => absurd h9 (by decide)) (fun _ => ?_)
  refine lv_aload_n hx hb dX6_clip_22 rfl (lv_at hl 0 rfl) ?_
  refine lv_iload_n hx hb dX6_clip_23 rfl (lv_at hl 1 rfl) ?_
  refine lv_iload_n hx hb dX6_clip_24 rfl (lv_at hl 2 rfl) ?_
  have hP9 := hP
  refine vp_callSi (pV (rest := []) (qc := (RX6, TX6, 15)) [.int (nI i), .int wh] 2 hC (m_clipTold l D (s0 := s0) (s1 := s1) (s2 := s2) (s3 := s3) (mo := mo) (i := i) (wh := wh) (th := 0) (a1 := a1) (nC := nC) (a2 := a2) (a3 := a3) (a4 := a4) (a5 := a5) (a6 := a6) (a7 := a7) (a8 := a8) (a9 := a9) (nS := nS) (a10 := a10) (nM := nM) (a11 := a11) (ln := ln) (ks := ks) (qs := qs) (by omega) (h0) (h1) (h2) (h3)) rfl (hP 0 _ rfl) (gV mM_X6_70 mI_X6_clipTold mS_X6_clipTold mN_X6 mC_X6_clipTold) (by decide +kernel) rfl rfl ⟨Nat.le_of_ble_eq_true rfl, Nat.le_of_ble_eq_true rfl⟩ hG hP9 rfl hl.1 rfl (Nat.le_of_ble_eq_true rfl) dX6_clip_25 ⟨Nat.le_of_ble_eq_true rfl, Nat.le_of_ble_eq_true rfl⟩) (fun r25 h25 => ?_)
  obtain rfl : r25 = (if wh = 0 then ln i else if wh = 1 then qs i else nI (s0 + s1 + s2 + s3)) := h25
  refine lv_goto (tgt := 36) hx hb dX6_clip_28 (by decide) ?_
  refine Wi () hx hb hr hlk ?_ hP hD hS (Nat.le_of_ble_eq_true rfl) (by first | exact Nat.le_of_ble_eq_true rfl | exact Nat.le_of_eq (Nat.zero_add _)) dX6_clip_36
  exact rfl
set_option maxHeartbeats 400000 in
set_option maxRecDepth 100000 in
theorem m_keys_1a (l : Launch) (D : va_G) {mo a1 a2 a3 a4 a5 a6 a7 a8 a9 a10 a11 nC nS nM : Nat} {th : Int32} {x y : Int32} (hz0 : Nat) (hn : nC ≤ 6) (hxx : x < 0 ∨ nI nC ≤ x) : Met l yX6_keys (ws_ yX6_keys cX6_keys 3 (some .int)) ({ frames := 3, cells := 0, slots := 0, locals := 65 } : Room) (va_Pc [.ref mo, .int x, .int y] (SW D [oO mo 6 [.int th, .ref a1, .int (nI nC), .ref a2, .ref a3, .ref a4, .ref a5, .ref a6, .ref a7, .ref a8, .ref a9, .int (nI nS), .ref a10, .int (nI nM), .ref a11]] hz0)) (va_Qi (fun v _ => v = 0) (AT D (va_A [oO mo 6 [.int th, .ref a1, .int (nI nC), .ref a2, .ref a3, .ref a4, .ref a5, .ref a6, .ref a7, .ref a8, .ref a9, .int (nI nS), .ref a10, .int (nI nM), .ref a11]] hz0) (fun _ : Unit => [oO mo 6 [.int 1, .ref a1, .int (nI nC), .ref a2, .ref a3, .ref a4, .ref a5, .ref a6, .ref a7, .ref a8, .ref a9, .int (nI nS), .ref a10, .int (nI nM), .ref a11]])) (va_A [oO mo 6 [.int th, .ref a1, .int (nI nC), .ref a2, .ref a3, .ref a4, .ref a5, .ref a6, .ref a7, .ref a8, .ref a9, .int (nI nS), .ref a10, .int (nI nM), .ref a11]] hz0)) 0 0 (va_A [oO mo 6 [.int th, .ref a1, .int (nI nC), .ref a2, .ref a3, .ref a4, .ref a5, .ref a6, .ref a7, .ref a8, .ref a9, .int (nI nS), .ref a10, .int (nI nM), .ref a11]] hz0) := by
  refine Met.ofW (cc := cX6_keys) (maxL := 3) (ret := (some .int)) (by decide) rfl ?_
  intro p e s m args below meth c s₁ B hml hv
  obtain ⟨rfl, hsz, hG, hP, hD0⟩ := hv
  have hx := B.exec
  have hb := B.bytes
  have hr := B.returns
  have hts : ∀ w ∈ wsL_law, w.before _ s = true := fun w h => atoms_spec (ws := (ws_ yX6_keys cX6_keys 3 (some .int))) B.pre w (List.mem_cons_of_mem _ h)
  have hown : s.vm.findClass RX6 = some m.cls := findClass_of_methodNamed B.named
  have hlk := B.notSynchronized
  have hC : CallFix p m c cX6_keys 3 s _ wsL_law RX6 := ⟨hx, hb, hml, hown, hts⟩
  subst hsz
  have hD := hD0.self (sz := s.heap.size)
  generalize hAe : va_A [oO mo 6 [.int th, .ref a1, .int (nI nC), .ref a2, .ref a3, .ref a4, .ref a5, .ref a6, .ref a7, .ref a8, .ref a9, .int (nI nS), .ref a10, .int (nI nM), .ref a11]] s.heap.size = A at hD ⊢
  have hA : ∀ q : Nat, s.heap.size ≤ q → A q := fun q h => by rw [← hAe]; exact Or.inr h
  have hS : va_S A s.heap s.heap [] := va_S.rf
  obtain ⟨H, hHe⟩ : ∃ H, H = s.heap := ⟨_, rfl⟩
  rw [← hHe] at hP
  have hS : va_S A s.heap H [] := by rw [hHe]; exact hS
  have hl := lv_entry ([.ref mo, .int x, .int y]) (n := 3) (Nat.le_of_ble_eq_true rfl)
  rw [lg_entry_eq]
  generalize (lg_sl ([.ref mo, .int x, .int y]) ++ List.replicate (3 - (lg_sl ([.ref mo, .int x, .int y])).length) Slot.unset).toArray = ls at hl ⊢
  have hl : lv_has ls 3 [(0, .ref mo), (1, .int x), (2, .int y)] := hl
  rw [← hHe]
  refine lv_aload_n hx hb dX6_keys_0 rfl (lv_at hl 0 rfl) ?_
  refine lv_iconst (v := 0) hx hb dX6_keys_1 (by decide) ?_
  refine va_put (D := D) (ci := 6) (v := .int 0) (ty := .int) (C := RX6) (T := TX6) (N := 15) hx hb hts inlX6 tyX6 tyX6_ok nmX6 hown hG.K hP hD hS 0 rfl rfl 0 (by decide) (hts _ mF_X6_43) (fun _ h9 => h9) rfl (by decide +kernel) rfl rfl (Nat.le_of_ble_eq_true rfl) dX6_keys_2 (fun H locs hP hD hS => ?_)
  have hP : va_P D cls [oO mo 6 [.int 0, .ref a1, .int (nI nC), .ref a2, .ref a3, .ref a4, .ref a5, .ref a6, .ref a7, .ref a8, .ref a9, .int (nI nS), .ref a10, .int (nI nM), .ref a11]] H := hP
  have hD : va_D A [oO mo 6 [.int 0, .ref a1, .int (nI nC), .ref a2, .ref a3, .ref a4, .ref a5, .ref a6, .ref a7, .ref a8, .ref a9, .int (nI nS), .ref a10, .int (nI nM), .ref a11]] := hD
  refine lv_aload_n hx hb dX6_keys_5 rfl (lv_at hl 0 rfl) ?_
  refine lv_iload_n hx hb dX6_keys_6 rfl (lv_at hl 1 rfl) ?_
  refine lv_iload_n hx hb dX6_keys_7 rfl (lv_at hl 2 rfl) ?_
  have hP9 := hP
  refine vp_callSi (pV (rest := []) (qc := (RX6, TX6, 15)) [.int x, .int y] 2 hC (m_isTrack_no1 l D (mo := mo) (x := x) (y := y) (th := 0) (a1 := a1) (nC := nC) (a2 := a2) (a3 := a3) (a4 := a4) (a5 := a5) (a6 := a6) (a7 := a7) (a8 := a8) (a9 := a9) (nS := nS) (a10 := a10) (nM := nM) (a11 := a11) (by omega) (hxx)) rfl (hP 0 _ rfl) (gV mM_X6_74 mI_X6_isTrack mS_X6_isTrack mN_X6 mC_X6_isTrack) (by decide +kernel) rfl rfl ⟨Nat.le_of_ble_eq_true rfl, Nat.le_of_ble_eq_true rfl⟩ hG hP9 rfl hl.1 rfl (Nat.le_of_ble_eq_true rfl) dX6_keys_8 ⟨Nat.le_of_ble_eq_true rfl, Nat.le_of_ble_eq_true rfl⟩) (fun r8 h8 => ?_)
  obtain rfl : r8 = 0 := h8
  refine lv_if_eq (tgt := 27) hx hb dX6_keys_11 (by decide) (fun _ => ?_) (fun h9 => (h9 (by decide)).elim)
  refine lv_aload_n hx hb dX6_keys_27 rfl (lv_at hl 0 rfl) ?_
  refine lv_iconst (v := 1) hx hb dX6_keys_28 (by decide) ?_
  have hP9 := hP.sub (ws' := [oO mo 6 [.int 0, .ref a1, .int (nI nC), .ref a2, .ref a3, .ref a4, .ref a5, .ref a6, .ref a7, .ref a8, .ref a9, .int (nI nS), .ref a10, .int (nI nM), .ref a11]]) [0] rfl
  have hD9 := (hD.sub (ws' := [oO mo 6 [.int 0, .ref a1, .int (nI nC), .ref a2, .ref a3, .ref a4, .ref a5, .ref a6, .ref a7, .ref a8, .ref a9, .int (nI nS), .ref a10, .int (nI nM), .ref a11]]) [0] (by decide) rfl).weaken (B := fun _ => True) (fun _ _ _ _ => trivial)
  refine ki (wr := []) (rV (rest := []) (qc := (RX6, TX6, 15)) [.int 1] 1 0 0 hC (m_no l D (mo := mo) (x := 1) (th := 0) (a1 := a1) (nC := nC) (a2 := a2) (a3 := a3) (a4 := a4) (a5 := a5) (a6 := a6) (a7 := a7) (a8 := a8) (a9 := a9) (nS := nS) (a10 := a10) (nM := nM) (a11 := a11) (hz0 := H.size) ) rfl (hP 0 _ rfl) (gV mM_X6_66 mI_X6_no mS_X6_no mN_X6 mC_X6_no) (by decide +kernel) rfl rfl ⟨Nat.le_of_ble_eq_true rfl, Nat.le_of_ble_eq_true rfl⟩ hG hP9 hD9 rfl hl.1 rfl (Nat.le_of_ble_eq_true rfl) dX6_keys_29 ⟨Nat.le_of_ble_eq_true rfl, Nat.le_of_ble_eq_true rfl⟩) hP hD hS hA [0] [] rfl rfl (by decide) (by decide) (fun r29 u29 H locs h29 hP hD hS hz hfr => ?_)
  have hP : va_P D cls [oO mo 6 [.int 1, .ref a1, .int (nI nC), .ref a2, .ref a3, .ref a4, .ref a5, .ref a6, .ref a7, .ref a8, .ref a9, .int (nI nS), .ref a10, .int (nI nM), .ref a11]] H := hP
  have hD : va_D A [oO mo 6 [.int 1, .ref a1, .int (nI nC), .ref a2, .ref a3, .ref a4, .ref a5, .ref a6, .ref a7, .ref a8, .ref a9, .int (nI nS), .ref a10, .int (nI nM), .ref a11]] := hD
  obtain rfl : r29 = 0 := h29
  refine Wi () hx hb hr hlk ?_ hP hD hS (Nat.le_of_ble_eq_true rfl) (by first | exact Nat.le_of_ble_eq_true rfl | exact Nat.le_of_eq (Nat.zero_add _)) dX6_keys_32
  exact rfl
set_option maxHeartbeats 400000 in
set_option maxRecDepth 100000 in
theorem m_keys_1b (l : Launch) (D : va_G) {mo a1 a2 a3 a4 a5 a6 a7 a8 a9 a10 a11 nC nS nM : Nat} {th : Int32} {i : Nat} {y : Int32} (hz0 : Nat) (hn : nC ≤ 6) (hi : i < nC) (hyy : ¬ ((0 : Int32) ≤ y ∧ y ≤ 3)) : Met l yX6_keys (ws_ yX6_keys cX6_keys 3 (some .int)) ({ frames := 3, cells := 0, slots := 0, locals := 65 } : Room) (va_Pc [.ref mo, .int (nI i), .int y] (SW D [oO mo 6 [.int th, .ref a1, .int (nI nC), .ref a2, .ref a3, .ref a4, .ref a5, .ref a6, .ref a7, .ref a8, .ref a9, .int (nI nS), .ref a10, .int (nI nM), .ref a11]] hz0)) (va_Qi (fun v _ => v = 0) (AT D (va_A [oO mo 6 [.int th, .ref a1, .int (nI nC), .ref a2, .ref a3, .ref a4, .ref a5, .ref a6, .ref a7, .ref a8, .ref a9, .int (nI nS), .ref a10, .int (nI nM), .ref a11]] hz0) (fun _ : Unit => [oO mo 6 [.int 1, .ref a1, .int (nI nC), .ref a2, .ref a3, .ref a4, .ref a5, .ref a6, .ref a7, .ref a8, .ref a9, .int (nI nS), .ref a10, .int (nI nM), .ref a11]])) (va_A [oO mo 6 [.int th, .ref a1, .int (nI nC), .ref a2, .ref a3, .ref a4, .ref a5, .ref a6, .ref a7, .ref a8, .ref a9, .int (nI nS), .ref a10, .int (nI nM), .ref a11]] hz0)) 0 0 (va_A [oO mo 6 [.int th, .ref a1, .int (nI nC), .ref a2, .ref a3, .ref a4, .ref a5, .ref a6, .ref a7, .ref a8, .ref a9, .int (nI nS), .ref a10, .int (nI nM), .ref a11]] hz0) := by
  refine Met.ofW (cc := cX6_keys) (maxL := 3) (ret := (some .int)) (by decide) rfl ?_
  intro p e s m args below meth c s₁ B hml hv
  obtain ⟨rfl, hsz, hG, hP, hD0⟩ := hv
  have hx := B.exec
  have hb := B.bytes
  have hr := B.returns
  have hts : ∀ w ∈ wsL_law, w.before _ s = true := fun w h => atoms_spec (ws := (ws_ yX6_keys cX6_keys 3 (some .int))) B.pre w (List.mem_cons_of_mem _ h)
  have hown : s.vm.findClass RX6 = some m.cls := findClass_of_methodNamed B.named
  have hlk := B.notSynchronized
  have hC : CallFix p m c cX6_keys 3 s _ wsL_law RX6 := ⟨hx, hb, hml, hown, hts⟩
  subst hsz
  have hD := hD0.self (sz := s.heap.size)
  generalize hAe : va_A [oO mo 6 [.int th, .ref a1, .int (nI nC), .ref a2, .ref a3, .ref a4, .ref a5, .ref a6, .ref a7, .ref a8, .ref a9, .int (nI nS), .ref a10, .int (nI nM), .ref a11]] s.heap.size = A at hD ⊢
  have hA : ∀ q : Nat, s.heap.size ≤ q → A q := fun q h => by rw [← hAe]; exact Or.inr h
  have hS : va_S A s.heap s.heap [] := va_S.rf
  obtain ⟨H, hHe⟩ : ∃ H, H = s.heap := ⟨_, rfl⟩
  rw [← hHe] at hP
  have hS : va_S A s.heap H [] := by rw [hHe]; exact hS
  have hl := lv_entry ([.ref mo, .int (nI i), .int y]) (n := 3) (Nat.le_of_ble_eq_true rfl)
  rw [lg_entry_eq]
  generalize (lg_sl ([.ref mo, .int (nI i), .int y]) ++ List.replicate (3 - (lg_sl ([.ref mo, .int (nI i), .int y])).length) Slot.unset).toArray = ls at hl ⊢
  have hl : lv_has ls 3 [(0, .ref mo), (1, .int (nI i)), (2, .int y)] := hl
  rw [← hHe]
  refine lv_aload_n hx hb dX6_keys_0 rfl (lv_at hl 0 rfl) ?_
  refine lv_iconst (v := 0) hx hb dX6_keys_1 (by decide) ?_
  refine va_put (D := D) (ci := 6) (v := .int 0) (ty := .int) (C := RX6) (T := TX6) (N := 15) hx hb hts inlX6 tyX6 tyX6_ok nmX6 hown hG.K hP hD hS 0 rfl rfl 0 (by decide) (hts _ mF_X6_43) (fun _ h9 => h9) rfl (by decide +kernel) rfl rfl (Nat.le_of_ble_eq_true rfl) dX6_keys_2 (fun H locs hP hD hS => ?_)
  have hP : va_P D cls [oO mo 6 [.int 0, .ref a1, .int (nI nC), .ref a2, .ref a3, .ref a4, .ref a5, .ref a6, .ref a7, .ref a8, .ref a9, .int (nI nS), .ref a10, .int (nI nM), .ref a11]] H := hP
  have hD : va_D A [oO mo 6 [.int 0, .ref a1, .int (nI nC), .ref a2, .ref a3, .ref a4, .ref a5, .ref a6, .ref a7, .ref a8, .ref a9, .int (nI nS), .ref a10, .int (nI nM), .ref a11]] := hD
  refine lv_aload_n hx hb dX6_keys_5 rfl (lv_at hl 0 rfl) ?_
  refine lv_iload_n hx hb dX6_keys_6 rfl (lv_at hl 1 rfl) ?_
  refine lv_iload_n hx hb dX6_keys_7 rfl (lv_at hl 2 rfl) ?_
  have hP9 := hP
  refine vp_callSi (pV (rest := []) (qc := (RX6, TX6, 15)) [.int (nI i), .int y] 2 hC (m_isTrack_no2 l D (mo := mo) (i := i) (y := y) (th := 0) (a1 := a1) (nC := nC) (a2 := a2) (a3 := a3) (a4 := a4) (a5 := a5) (a6 := a6) (a7 := a7) (a8 := a8) (a9 := a9) (nS := nS) (a10 := a10) (nM := nM) (a11 := a11) (by omega) (by omega) (hyy)) rfl (hP 0 _ rfl) (gV mM_X6_74 mI_X6_isTrack mS_X6_isTrack mN_X6 mC_X6_isTrack) (by decide +kernel) rfl rfl ⟨Nat.le_of_ble_eq_true rfl, Nat.le_of_ble_eq_true rfl⟩ hG hP9 rfl hl.1 rfl (Nat.le_of_ble_eq_true rfl) dX6_keys_8 ⟨Nat.le_of_ble_eq_true rfl, Nat.le_of_ble_eq_true rfl⟩) (fun r8 h8 => ?_)
  obtain rfl : r8 = 0 := h8
  refine lv_if_eq (tgt := 27) hx hb dX6_keys_11 (by decide) (fun _ => ?_) (fun h9 => (h9 (by decide)).elim)
  refine lv_aload_n hx hb dX6_keys_27 rfl (lv_at hl 0 rfl) ?_
  refine lv_iconst (v := 1) hx hb dX6_keys_28 (by decide) ?_
  have hP9 := hP.sub (ws' := [oO mo 6 [.int 0, .ref a1, .int (nI nC), .ref a2, .ref a3, .ref a4, .ref a5, .ref a6, .ref a7, .ref a8, .ref a9, .int (nI nS), .ref a10, .int (nI nM), .ref a11]]) [0] rfl
  have hD9 := (hD.sub (ws' := [oO mo 6 [.int 0, .ref a1, .int (nI nC), .ref a2, .ref a3, .ref a4, .ref a5, .ref a6, .ref a7, .ref a8, .ref a9, .int (nI nS), .ref a10, .int (nI nM), .ref a11]]) [0] (by decide) rfl).weaken (B := fun _ => True) (fun _ _ _ _ => trivial)
  refine ki (wr := []) (rV (rest := []) (qc := (RX6, TX6, 15)) [.int 1] 1 0 0 hC (m_no l D (mo := mo) (x := 1) (th := 0) (a1 := a1) (nC := nC) (a2 := a2) (a3 := a3) (a4 := a4) (a5 := a5) (a6 := a6) (a7 := a7) (a8 := a8) (a9 := a9) (nS := nS) (a10 := a10) (nM := nM) (a11 := a11) (hz0 := H.size) ) rfl (hP 0 _ rfl) (gV mM_X6_66 mI_X6_no mS_X6_no mN_X6 mC_X6_no) (by decide +kernel) rfl rfl ⟨Nat.le_of_ble_eq_true rfl, Nat.le_of_ble_eq_true rfl⟩ hG hP9 hD9 rfl hl.1 rfl (Nat.le_of_ble_eq_true rfl) dX6_keys_29 ⟨Nat.le_of_ble_eq_true rfl, Nat.le_of_ble_eq_true rfl⟩) hP hD hS hA [0] [] rfl rfl (by decide) (by decide) (fun r29 u29 H locs h29 hP hD hS hz hfr => ?_)
  have hP : va_P D cls [oO mo 6 [.int 1, .ref a1, .int (nI nC), .ref a2, .ref a3, .ref a4, .ref a5, .ref a6, .ref a7, .ref a8, .ref a9, .int (nI nS), .ref a10, .int (nI nM), .ref a11]] H := hP
  have hD : va_D A [oO mo 6 [.int 1, .ref a1, .int (nI nC), .ref a2, .ref a3, .ref a4, .ref a5, .ref a6, .ref a7, .ref a8, .ref a9, .int (nI nS), .ref a10, .int (nI nM), .ref a11]] := hD
  obtain rfl : r29 = 0 := h29
  refine Wi () hx hb hr hlk ?_ hP hD hS (Nat.le_of_ble_eq_true rfl) (by first | exact Nat.le_of_ble_eq_true rfl | exact Nat.le_of_eq (Nat.zero_add _)) dX6_keys_32
  exact rfl
set_option maxHeartbeats 400000 in
set_option maxRecDepth 100000 in
theorem m_keys (l : Launch) (D : va_G) {mo a1 a2 a3 a4 a5 a6 a7 a8 a9 a10 a11 nC nS nM : Nat} {th : Int32} {ks : Nat → Int32} {i j : Nat} (hz0 : Nat) (hn : nC ≤ 6) (hi : i < nC) (hj : j < 4) : Met l yX6_keys (ws_ yX6_keys cX6_keys 3 (some .int)) ({ frames := 3, cells := 0, slots := 0, locals := 65 } : Room) (va_Pc [.ref mo, .int (nI i), .int (nI j)] (SW D [oO mo 6 [.int th, .ref a1, .int (nI nC), .ref a2, .ref a3, .ref a4, .ref a5, .ref a6, .ref a7, .ref a8, .ref a9, .int (nI nS), .ref a10, .int (nI nM), .ref a11], aI D a3 24 ks] hz0)) (va_Qi (fun v _ => v = ks (4 * i + j)) (AT D (va_A [oO mo 6 [.int th, .ref a1, .int (nI nC), .ref a2, .ref a3, .ref a4, .ref a5, .ref a6, .ref a7, .ref a8, .ref a9, .int (nI nS), .ref a10, .int (nI nM), .ref a11], aI D a3 24 ks] hz0) (fun _ : Unit => [oO mo 6 [.int 0, .ref a1, .int (nI nC), .ref a2, .ref a3, .ref a4, .ref a5, .ref a6, .ref a7, .ref a8, .ref a9, .int (nI nS), .ref a10, .int (nI nM), .ref a11], aI D a3 24 ks])) (va_A [oO mo 6 [.int th, .ref a1, .int (nI nC), .ref a2, .ref a3, .ref a4, .ref a5, .ref a6, .ref a7, .ref a8, .ref a9, .int (nI nS), .ref a10, .int (nI nM), .ref a11], aI D a3 24 ks] hz0)) 0 0 (va_A [oO mo 6 [.int th, .ref a1, .int (nI nC), .ref a2, .ref a3, .ref a4, .ref a5, .ref a6, .ref a7, .ref a8, .ref a9, .int (nI nS), .ref a10, .int (nI nM), .ref a11], aI D a3 24 ks] hz0) := by
  refine Met.ofW (cc := cX6_keys) (maxL := 3) (ret := (some .int)) (by decide) rfl ?_
  intro p e s m args below meth c s₁ B hml hv
  obtain ⟨rfl, hsz, hG, hP, hD0⟩ := hv
  have hx := B.exec
  have hb := B.bytes
  have hr := B.returns
  have hts : ∀ w ∈ wsL_law, w.before _ s = true := fun w h => atoms_spec (ws := (ws_ yX6_keys cX6_keys 3 (some .int))) B.pre w (List.mem_cons_of_mem _ h)
  have hown : s.vm.findClass RX6 = some m.cls := findClass_of_methodNamed B.named
  have hlk := B.notSynchronized
  have hC : CallFix p m c cX6_keys 3 s _ wsL_law RX6 := ⟨hx, hb, hml, hown, hts⟩
  subst hsz
  have hD := hD0.self (sz := s.heap.size)
  generalize hAe : va_A [oO mo 6 [.int th, .ref a1, .int (nI nC), .ref a2, .ref a3, .ref a4, .ref a5, .ref a6, .ref a7, .ref a8, .ref a9, .int (nI nS), .ref a10, .int (nI nM), .ref a11], aI D a3 24 ks] s.heap.size = A at hD ⊢
  have hA : ∀ q : Nat, s.heap.size ≤ q → A q := fun q h => by rw [← hAe]; exact Or.inr h
  have hS : va_S A s.heap s.heap [] := va_S.rf
  obtain ⟨H, hHe⟩ : ∃ H, H = s.heap := ⟨_, rfl⟩
  rw [← hHe] at hP
  have hS : va_S A s.heap H [] := by rw [hHe]; exact hS
  have hl := lv_entry ([.ref mo, .int (nI i), .int (nI j)]) (n := 3) (Nat.le_of_ble_eq_true rfl)
  rw [lg_entry_eq]
  generalize (lg_sl ([.ref mo, .int (nI i), .int (nI j)]) ++ List.replicate (3 - (lg_sl ([.ref mo, .int (nI i), .int (nI j)])).length) Slot.unset).toArray = ls at hl ⊢
  have hl : lv_has ls 3 [(0, .ref mo), (1, .int (nI i)), (2, .int (nI j))] := hl
  rw [← hHe]
  refine lv_aload_n hx hb dX6_keys_0 rfl (lv_at hl 0 rfl) ?_
  refine lv_iconst (v := 0) hx hb dX6_keys_1 (by decide) ?_
  refine va_put (D := D) (ci := 6) (v := .int 0) (ty := .int) (C := RX6) (T := TX6) (N := 15) hx hb hts inlX6 tyX6 tyX6_ok nmX6 hown hG.K hP hD hS 0 rfl rfl 0 (by decide) (hts _ mF_X6_43) (fun _ h9 => h9) rfl (by decide +kernel) rfl rfl (Nat.le_of_ble_eq_true rfl) dX6_keys_2 (fun H locs hP hD hS => ?_)
  have hP : va_P D cls [oO mo 6 [.int 0, .ref a1, .int (nI nC), .ref a2, .ref a3, .ref a4, .ref a5, .ref a6, .ref a7, .ref a8, .ref a9, .int (nI nS), .ref a10, .int (nI nM), .ref a11], aI D a3 24 ks] H := hP
  have hD : va_D A [oO mo 6 [.int 0, .ref a1, .int (nI nC), .ref a2, .ref a3, .ref a4, .ref a5, .ref a6, .ref a7, .ref a8, .ref a9, .int (nI nS), .ref a10, .int (nI nM), .ref a11], aI D a3 24 ks] := hD
  refine lv_aload_n hx hb dX6_keys_5 rfl (lv_at hl 0 rfl) ?_
  refine lv_iload_n hx hb dX6_keys_6 rfl (lv_at hl 1 rfl) ?_
  refine lv_iload_n hx hb dX6_keys_7 rfl (lv_at hl 2 rfl) ?_
  have hP9 := hP.sub (ws' := [oO mo 6 [.int 0, .ref a1, .int (nI nC), .ref a2, .ref a3, .ref a4, .ref a5, .ref a6, .ref a7, .ref a8, .ref a9, .int (nI nS), .ref a10, .int (nI nM), .ref a11]]) [0] rfl
  refine vp_callSi (pV (rest := []) (qc := (RX6, TX6, 15)) [.int (nI i), .int (nI j)] 2 hC (m_isTrack l D (mo := mo) (i := i) (j := j) (th := 0) (a1 := a1) (nC := nC) (a2 := a2) (a3 := a3) (a4 := a4) (a5 := a5) (a6 := a6) (a7 := a7) (a8 := a8) (a9 := a9) (nS := nS) (a10 := a10) (nM := nM) (a11 := a11) (by omega) (by omega) (by omega)) rfl (hP 0 _ rfl) (gV mM_X6_74 mI_X6_isTrack mS_X6_isTrack mN_X6 mC_X6_isTrack) (by decide +kernel) rfl rfl ⟨Nat.le_of_ble_eq_true rfl, Nat.le_of_ble_eq_true rfl⟩ hG hP9 rfl hl.1 rfl (Nat.le_of_ble_eq_true rfl) dX6_keys_8 ⟨Nat.le_of_ble_eq_true rfl, Nat.le_of_ble_eq_true rfl⟩) (fun r8 h8 => ?_)
  obtain rfl : r8 = 1 := h8
  refine lv_if_eq (tgt := 27) hx hb dX6_keys_11 (by decide) (fun h9 => absurd h9 (by decide)) (fun _ => ?_)
  refine lv_aload_n hx hb dX6_keys_14 rfl (lv_at hl 0 rfl) ?_
  refine va_get (D := D) (ci := 6) (v := .ref a3) (C := RX6) (T := TX6) (N := 15) hx hb hts inlX6 hown hG.K hP 0 rfl rfl 4 (by decide) (hts _ mF_X6_16) (fun _ h9 => h9) rfl dX6_keys_15 ?_
  refine lv_iconst (v := 4) hx hb dX6_keys_18 (by decide) ?_
  refine lv_iload_n hx hb dX6_keys_19 rfl (lv_at hl 1 rfl) ?_
  refine lv_imul hx hb dX6_keys_20 ?_
  refine tpi (y := nI (4 * i)) (pk_mul 4 i) ?_
  refine lv_iload_n hx hb dX6_keys_21 rfl (lv_at hl 2 rfl) ?_
  refine lv_iadd hx hb dX6_keys_22 ?_
  refine tpi (y := nI ((4 * i) + j)) (nI_add (4 * i) j) ?_
  refine ild (n := 24) (j := (4 * i) + j) hx hb hG hP 1 rfl (by omega) (by omega) dX6_keys_23 ?_
  refine lv_goto (tgt := 32) hx hb dX6_keys_24 (by decide) ?_
  refine Wi () hx hb hr hlk ?_ hP hD hS (Nat.le_of_ble_eq_true rfl) (by first | exact Nat.le_of_ble_eq_true rfl | exact Nat.le_of_eq (Nat.zero_add _)) dX6_keys_32
  exact rfl
set_option maxHeartbeats 400000 in
set_option maxRecDepth 100000 in
theorem m_keyOf_1a (l : Launch) (D : va_G) {mo a1 a2 a3 a4 a5 a6 a7 a8 a9 a10 a11 nC nS nM : Nat} {th : Int32} {x y u0 wh : Int32} (hz0 : Nat) (hn : nC ≤ 6) (hxx : x < 0 ∨ nI nC ≤ x) : Met l yX6_keyOf (ws_ yX6_keyOf cX6_keyOf 6 (some .int)) ({ frames := 3, cells := 0, slots := 0, locals := 65 } : Room) (va_Pc [.ref mo, .int x, .int y, .int u0, .int wh] (SW D [oO mo 6 [.int th, .ref a1, .int (nI nC), .ref a2, .ref a3, .ref a4, .ref a5, .ref a6, .ref a7, .ref a8, .ref a9, .int (nI nS), .ref a10, .int (nI nM), .ref a11]] hz0)) (va_Qi (fun v _ => v = 0) (AT D (va_A [oO mo 6 [.int th, .ref a1, .int (nI nC), .ref a2, .ref a3, .ref a4, .ref a5, .ref a6, .ref a7, .ref a8, .ref a9, .int (nI nS), .ref a10, .int (nI nM), .ref a11]] hz0) (fun _ : Unit => [oO mo 6 [.int 1, .ref a1, .int (nI nC), .ref a2, .ref a3, .ref a4, .ref a5, .ref a6, .ref a7, .ref a8, .ref a9, .int (nI nS), .ref a10, .int (nI nM), .ref a11]])) (va_A [oO mo 6 [.int th, .ref a1, .int (nI nC), .ref a2, .ref a3, .ref a4, .ref a5, .ref a6, .ref a7, .ref a8, .ref a9, .int (nI nS), .ref a10, .int (nI nM), .ref a11]] hz0)) 0 0 (va_A [oO mo 6 [.int th, .ref a1, .int (nI nC), .ref a2, .ref a3, .ref a4, .ref a5, .ref a6, .ref a7, .ref a8, .ref a9, .int (nI nS), .ref a10, .int (nI nM), .ref a11]] hz0) := by
  refine Met.ofW (cc := cX6_keyOf) (maxL := 6) (ret := (some .int)) (by decide) rfl ?_
  intro p e s m args below meth c s₁ B hml hv
  obtain ⟨rfl, hsz, hG, hP, hD0⟩ := hv
  have hx := B.exec
  have hb := B.bytes
  have hr := B.returns
  have hts : ∀ w ∈ wsL_law, w.before _ s = true := fun w h => atoms_spec (ws := (ws_ yX6_keyOf cX6_keyOf 6 (some .int))) B.pre w (List.mem_cons_of_mem _ h)
  have hown : s.vm.findClass RX6 = some m.cls := findClass_of_methodNamed B.named
  have hlk := B.notSynchronized
  have hC : CallFix p m c cX6_keyOf 6 s _ wsL_law RX6 := ⟨hx, hb, hml, hown, hts⟩
  subst hsz
  have hD := hD0.self (sz := s.heap.size)
  generalize hAe : va_A [oO mo 6 [.int th, .ref a1, .int (nI nC), .ref a2, .ref a3, .ref a4, .ref a5, .ref a6, .ref a7, .ref a8, .ref a9, .int (nI nS), .ref a10, .int (nI nM), .ref a11]] s.heap.size = A at hD ⊢
  have hA : ∀ q : Nat, s.heap.size ≤ q → A q := fun q h => by rw [← hAe]; exact Or.inr h
  have hS : va_S A s.heap s.heap [] := va_S.rf
  obtain ⟨H, hHe⟩ : ∃ H, H = s.heap := ⟨_, rfl⟩
  rw [← hHe] at hP
  have hS : va_S A s.heap H [] := by rw [hHe]; exact hS
  have hl := lv_entry ([.ref mo, .int x, .int y, .int u0, .int wh]) (n := 6) (Nat.le_of_ble_eq_true rfl)
  rw [lg_entry_eq]
  generalize (lg_sl ([.ref mo, .int x, .int y, .int u0, .int wh]) ++ List.replicate (6 - (lg_sl ([.ref mo, .int x, .int y, .int u0, .int wh])).length) Slot.unset).toArray = ls at hl ⊢
  have hl : lv_has ls 6 [(0, .ref mo), (1, .int x), (2, .int y), (3, .int u0), (4, .int wh)] := hl
  rw [← hHe]
  refine lv_aload_n hx hb dX6_keyOf_0 rfl (lv_at hl 0 rfl) ?_
  refine lv_iconst (v := 0) hx hb dX6_keyOf_1 (by decide) ?_
  refine va_put (D := D) (ci := 6) (v := .int 0) (ty := .int) (C := RX6) (T := TX6) (N := 15) hx hb hts inlX6 tyX6 tyX6_ok nmX6 hown hG.K hP hD hS 0 rfl rfl 0 (by decide) (hts _ mF_X6_43) (fun _ h9 => h9) rfl (by decide +kernel) rfl rfl (Nat.le_of_ble_eq_true rfl) dX6_keyOf_2 (fun H locs hP hD hS => ?_)
  have hP : va_P D cls [oO mo 6 [.int 0, .ref a1, .int (nI nC), .ref a2, .ref a3, .ref a4, .ref a5, .ref a6, .ref a7, .ref a8, .ref a9, .int (nI nS), .ref a10, .int (nI nM), .ref a11]] H := hP
  have hD : va_D A [oO mo 6 [.int 0, .ref a1, .int (nI nC), .ref a2, .ref a3, .ref a4, .ref a5, .ref a6, .ref a7, .ref a8, .ref a9, .int (nI nS), .ref a10, .int (nI nM), .ref a11]] := hD
  refine lv_aload_n hx hb dX6_keyOf_5 rfl (lv_at hl 0 rfl) ?_
  refine lv_iload_n hx hb dX6_keyOf_6 rfl (lv_at hl 1 rfl) ?_
  refine lv_iload_n hx hb dX6_keyOf_7 rfl (lv_at hl 2 rfl) ?_
  have hP9 := hP
  refine vp_callSi (pV (rest := []) (qc := (RX6, TX6, 15)) [.int x, .int y] 2 hC (m_isTrack_no1 l D (mo := mo) (x := x) (y := y) (th := 0) (a1 := a1) (nC := nC) (a2 := a2) (a3 := a3) (a4 := a4) (a5 := a5) (a6 := a6) (a7 := a7) (a8 := a8) (a9 := a9) (nS := nS) (a10 := a10) (nM := nM) (a11 := a11) (by omega) (hxx)) rfl (hP 0 _ rfl) (gV mM_X6_74 mI_X6_isTrack mS_X6_isTrack mN_X6 mC_X6_isTrack) (by decide +kernel) rfl rfl ⟨Nat.le_of_ble_eq_true rfl, Nat.le_of_ble_eq_true rfl⟩ hG hP9 rfl hl.1 rfl (Nat.le_of_ble_eq_true rfl) dX6_keyOf_8 ⟨Nat.le_of_ble_eq_true rfl, Nat.le_of_ble_eq_true rfl⟩) (fun r8 h8 => ?_)
  obtain rfl : r8 = 0 := h8
  refine lv_if_eq (tgt := 44) hx hb dX6_keyOf_11 (by decide) (fun _ => ?_) (fun h9 => (h9 (by decide)).elim)
  refine lv_aload_n hx hb dX6_keyOf_44 rfl (lv_at hl 0 rfl) ?_
  refine lv_iconst (v := 1) hx hb dX6_keyOf_45 (by decide) ?_
  have hP9 := hP.sub (ws' := [oO mo 6 [.int 0, .ref a1, .int (nI nC), .ref a2, .ref a3, .ref a4, .ref a5, .ref a6, .ref a7, .ref a8, .ref a9, .int (nI nS), .ref a10, .int (nI nM), .ref a11]]) [0] rfl
  have hD9 := (hD.sub (ws' := [oO mo 6 [.int 0, .ref a1, .int (nI nC), .ref a2, .ref a3, .ref a4, .ref a5, .ref a6, .ref a7, .ref a8, .ref a9, .int (nI nS), .ref a10, .int (nI nM), .ref a11]]) [0] (by decide) rfl).weaken (B := fun _ => True) (fun _ _ _ _ => trivial)
  refine ki (wr := []) (rV (rest := []) (qc := (RX6, TX6, 15)) [.int 1] 1 0 0 hC (m_no l D (mo := mo) (x := 1) (th := 0) (a1 := a1) (nC := nC) (a2 := a2) (a3 := a3) (a4 := a4) (a5 := a5) (a6 := a6) (a7 := a7) (a8 := a8) (a9 := a9) (nS := nS) (a10 := a10) (nM := nM) (a11 := a11) (hz0 := H.size) ) rfl (hP 0 _ rfl) (gV mM_X6_66 mI_X6_no mS_X6_no mN_X6 mC_X6_no) (by decide +kernel) rfl rfl ⟨Nat.le_of_ble_eq_true rfl, Nat.le_of_ble_eq_true rfl⟩ hG hP9 hD9 rfl hl.1 rfl (Nat.le_of_ble_eq_true rfl) dX6_keyOf_46 ⟨Nat.le_of_ble_eq_true rfl, Nat.le_of_ble_eq_true rfl⟩) hP hD hS hA [0] [] rfl rfl (by decide) (by decide) (fun r46 u46 H locs h46 hP hD hS hz hfr => ?_)
  have hP : va_P D cls [oO mo 6 [.int 1, .ref a1, .int (nI nC), .ref a2, .ref a3, .ref a4, .ref a5, .ref a6, .ref a7, .ref a8, .ref a9, .int (nI nS), .ref a10, .int (nI nM), .ref a11]] H := hP
  have hD : va_D A [oO mo 6 [.int 1, .ref a1, .int (nI nC), .ref a2, .ref a3, .ref a4, .ref a5, .ref a6, .ref a7, .ref a8, .ref a9, .int (nI nS), .ref a10, .int (nI nM), .ref a11]] := hD
  obtain rfl : r46 = 0 := h46
  refine Wi () hx hb hr hlk ?_ hP hD hS (Nat.le_of_ble_eq_true rfl) (by first | exact Nat.le_of_ble_eq_true rfl | exact Nat.le_of_eq (Nat.zero_add _)) dX6_keyOf_49
  exact rfl
set_option maxHeartbeats 400000 in
set_option maxRecDepth 100000 in
theorem m_keyOf_1b (l : Launch) (D : va_G) {mo a1 a2 a3 a4 a5 a6 a7 a8 a9 a10 a11 nC nS nM : Nat} {th : Int32} {i : Nat} {y u0 wh : Int32} (hz0 : Nat) (hn : nC ≤ 6) (hi : i < nC) (hyy : ¬ ((0 : Int32) ≤ y ∧ y ≤ 3)) : Met l yX6_keyOf (ws_ yX6_keyOf cX6_keyOf 6 (some .int)) ({ frames := 3, cells := 0, slots := 0, locals := 65 } : Room) (va_Pc [.ref mo, .int (nI i), .int y, .int u0, .int wh] (SW D [oO mo 6 [.int th, .ref a1, .int (nI nC), .ref a2, .ref a3, .ref a4, .ref a5, .ref a6, .ref a7, .ref a8, .ref a9, .int (nI nS), .ref a10, .int (nI nM), .ref a11]] hz0)) (va_Qi (fun v _ => v = 0) (AT D (va_A [oO mo 6 [.int th, .ref a1, .int (nI nC), .ref a2, .ref a3, .ref a4, .ref a5, .ref a6, .ref a7, .ref a8, .ref a9, .int (nI nS), .ref a10, .int (nI nM), .ref a11]] hz0) (fun _ : Unit => [oO mo 6 [.int 1, .ref a1, .int (nI nC), .ref a2, .ref a3, .ref a4, .ref a5, .ref a6, .ref a7, .ref a8, .ref a9, .int (nI nS), .ref a10, .int (nI nM), .ref a11]])) (va_A [oO mo 6 [.int th, .ref a1, .int (nI nC), .ref a2, .ref a3, .ref a4, .ref a5, .ref a6, .ref a7, .ref a8, .ref a9, .int (nI nS), .ref a10, .int (nI nM), .ref a11]] hz0)) 0 0 (va_A [oO mo 6 [.int th, .ref a1, .int (nI nC), .ref a2, .ref a3, .ref a4, .ref a5, .ref a6, .ref a7, .ref a8, .ref a9, .int (nI nS), .ref a10, .int (nI nM), .ref a11]] hz0) := by
  refine Met.ofW (cc := cX6_keyOf) (maxL := 6) (ret := (some .int)) (by decide) rfl ?_
  intro p e s m args below meth c s₁ B hml hv
  obtain ⟨rfl, hsz, hG, hP, hD0⟩ := hv
  have hx := B.exec
  have hb := B.bytes
  have hr := B.returns
  have hts : ∀ w ∈ wsL_law, w.before _ s = true := fun w h => atoms_spec (ws := (ws_ yX6_keyOf cX6_keyOf 6 (some .int))) B.pre w (List.mem_cons_of_mem _ h)
  have hown : s.vm.findClass RX6 = some m.cls := findClass_of_methodNamed B.named
  have hlk := B.notSynchronized
  have hC : CallFix p m c cX6_keyOf 6 s _ wsL_law RX6 := ⟨hx, hb, hml, hown, hts⟩
  subst hsz
  have hD := hD0.self (sz := s.heap.size)
  generalize hAe : va_A [oO mo 6 [.int th, .ref a1, .int (nI nC), .ref a2, .ref a3, .ref a4, .ref a5, .ref a6, .ref a7, .ref a8, .ref a9, .int (nI nS), .ref a10, .int (nI nM), .ref a11]] s.heap.size = A at hD ⊢
  have hA : ∀ q : Nat, s.heap.size ≤ q → A q := fun q h => by rw [← hAe]; exact Or.inr h
  have hS : va_S A s.heap s.heap [] := va_S.rf
  obtain ⟨H, hHe⟩ : ∃ H, H = s.heap := ⟨_, rfl⟩
  rw [← hHe] at hP
  have hS : va_S A s.heap H [] := by rw [hHe]; exact hS
  have hl := lv_entry ([.ref mo, .int (nI i), .int y, .int u0, .int wh]) (n := 6) (Nat.le_of_ble_eq_true rfl)
  rw [lg_entry_eq]
  generalize (lg_sl ([.ref mo, .int (nI i), .int y, .int u0, .int wh]) ++ List.replicate (6 - (lg_sl ([.ref mo, .int (nI i), .int y, .int u0, .int wh])).length) Slot.unset).toArray = ls at hl ⊢
  have hl : lv_has ls 6 [(0, .ref mo), (1, .int (nI i)), (2, .int y), (3, .int u0), (4, .int wh)] := hl
  rw [← hHe]
  refine lv_aload_n hx hb dX6_keyOf_0 rfl (lv_at hl 0 rfl) ?_
  refine lv_iconst (v := 0) hx hb dX6_keyOf_1 (by decide) ?_
  refine va_put (D := D) (ci := 6) (v := .int 0) (ty := .int) (C := RX6) (T := TX6) (N := 15) hx hb hts inlX6 tyX6 tyX6_ok nmX6 hown hG.K hP hD hS 0 rfl rfl 0 (by decide) (hts _ mF_X6_43) (fun _ h9 => h9) rfl (by decide +kernel) rfl rfl (Nat.le_of_ble_eq_true rfl) dX6_keyOf_2 (fun H locs hP hD hS => ?_)
  have hP : va_P D cls [oO mo 6 [.int 0, .ref a1, .int (nI nC), .ref a2, .ref a3, .ref a4, .ref a5, .ref a6, .ref a7, .ref a8, .ref a9, .int (nI nS), .ref a10, .int (nI nM), .ref a11]] H := hP
  have hD : va_D A [oO mo 6 [.int 0, .ref a1, .int (nI nC), .ref a2, .ref a3, .ref a4, .ref a5, .ref a6, .ref a7, .ref a8, .ref a9, .int (nI nS), .ref a10, .int (nI nM), .ref a11]] := hD
  refine lv_aload_n hx hb dX6_keyOf_5 rfl (lv_at hl 0 rfl) ?_
  refine lv_iload_n hx hb dX6_keyOf_6 rfl (lv_at hl 1 rfl) ?_
  refine lv_iload_n hx hb dX6_keyOf_7 rfl (lv_at hl 2 rfl) ?_
  have hP9 := hP
  refine vp_callSi (pV (rest := []) (qc := (RX6, TX6, 15)) [.int (nI i), .int y] 2 hC (m_isTrack_no2 l D (mo := mo) (i := i) (y := y) (th := 0) (a1 := a1) (nC := nC) (a2 := a2) (a3 := a3) (a4 := a4) (a5 := a5) (a6 := a6) (a7 := a7) (a8 := a8) (a9 := a9) (nS := nS) (a10 := a10) (nM := nM) (a11 := a11) (by omega) (by omega) (hyy)) rfl (hP 0 _ rfl) (gV mM_X6_74 mI_X6_isTrack mS_X6_isTrack mN_X6 mC_X6_isTrack) (by decide +kernel) rfl rfl ⟨Nat.le_of_ble_eq_true rfl, Nat.le_of_ble_eq_true rfl⟩ hG hP9 rfl hl.1 rfl (Nat.le_of_ble_eq_true rfl) dX6_keyOf_8 ⟨Nat.le_of_ble_eq_true rfl, Nat.le_of_ble_eq_true rfl⟩) (fun r8 h8 => ?_)
  obtain rfl : r8 = 0 := h8
  refine lv_if_eq (tgt := 44) hx hb dX6_keyOf_11 (by decide) (fun _ => ?_) (fun h9 => (h9 (by decide)).elim)
  refine lv_aload_n hx hb dX6_keyOf_44 rfl (lv_at hl 0 rfl) ?_
  refine lv_iconst (v := 1) hx hb dX6_keyOf_45 (by decide) ?_
  have hP9 := hP.sub (ws' := [oO mo 6 [.int 0, .ref a1, .int (nI nC), .ref a2, .ref a3, .ref a4, .ref a5, .ref a6, .ref a7, .ref a8, .ref a9, .int (nI nS), .ref a10, .int (nI nM), .ref a11]]) [0] rfl
  have hD9 := (hD.sub (ws' := [oO mo 6 [.int 0, .ref a1, .int (nI nC), .ref a2, .ref a3, .ref a4, .ref a5, .ref a6, .ref a7, .ref a8, .ref a9, .int (nI nS), .ref a10, .int (nI nM), .ref a11]]) [0] (by decide) rfl).weaken (B := fun _ => True) (fun _ _ _ _ => trivial)
  refine ki (wr := []) (rV (rest := []) (qc := (RX6, TX6, 15)) [.int 1] 1 0 0 hC (m_no l D (mo := mo) (x := 1) (th := 0) (a1 := a1) (nC := nC) (a2 := a2) (a3 := a3) (a4 := a4) (a5 := a5) (a6 := a6) (a7 := a7) (a8 := a8) (a9 := a9) (nS := nS) (a10 := a10) (nM := nM) (a11 := a11) (hz0 := H.size) ) rfl (hP 0 _ rfl) (gV mM_X6_66 mI_X6_no mS_X6_no mN_X6 mC_X6_no) (by decide +kernel) rfl rfl ⟨Nat.le_of_ble_eq_true rfl, Nat.le_of_ble_eq_true rfl⟩ hG hP9 hD9 rfl hl.1 rfl (Nat.le_of_ble_eq_true rfl) dX6_keyOf_46 ⟨Nat.le_of_ble_eq_true rfl, Nat.le_of_ble_eq_true rfl⟩) hP hD hS hA [0] [] rfl rfl (by decide) (by decide) (fun r46 u46 H locs h46 hP hD hS hz hfr => ?_)
  have hP : va_P D cls [oO mo 6 [.int 1, .ref a1, .int (nI nC), .ref a2, .ref a3, .ref a4, .ref a5, .ref a6, .ref a7, .ref a8, .ref a9, .int (nI nS), .ref a10, .int (nI nM), .ref a11]] H := hP
  have hD : va_D A [oO mo 6 [.int 1, .ref a1, .int (nI nC), .ref a2, .ref a3, .ref a4, .ref a5, .ref a6, .ref a7, .ref a8, .ref a9, .int (nI nS), .ref a10, .int (nI nM), .ref a11]] := hD
  obtain rfl : r46 = 0 := h46
  refine Wi () hx hb hr hlk ?_ hP hD hS (Nat.le_of_ble_eq_true rfl) (by first | exact Nat.le_of_ble_eq_true rfl | exact Nat.le_of_eq (Nat.zero_add _)) dX6_keyOf_49
  exact rfl
set_option maxHeartbeats 400000 in
set_option maxRecDepth 100000 in
theorem m_keyOf_1c (l : Launch) (D : va_G) {mo a1 a2 a3 a4 a5 a6 a7 a8 a9 a10 a11 nC nS nM : Nat} {th : Int32} {ks : Nat → Int32} {i j : Nat} {n : Nat} {u0 wh : Int32} (hz0 : Nat) (hn : nC ≤ 6) (hi : i < nC) (hj : j < 4) (hks : ks (4 * i + j) = nI n) (h16 : n ≤ 16) (hh : ¬ ((0 ≤ u0 ∧ u0 ≤ nI n - 1) ∧ ((0 : Int32) ≤ wh ∧ wh ≤ 2))) : Met l yX6_keyOf (ws_ yX6_keyOf cX6_keyOf 6 (some .int)) ({ frames := 3, cells := 0, slots := 0, locals := 65 } : Room) (va_Pc [.ref mo, .int (nI i), .int (nI j), .int u0, .int wh] (SW D [oO mo 6 [.int th, .ref a1, .int (nI nC), .ref a2, .ref a3, .ref a4, .ref a5, .ref a6, .ref a7, .ref a8, .ref a9, .int (nI nS), .ref a10, .int (nI nM), .ref a11], aI D a3 24 ks] hz0)) (va_Qi (fun v _ => v = 0) (AT D (va_A [oO mo 6 [.int th, .ref a1, .int (nI nC), .ref a2, .ref a3, .ref a4, .ref a5, .ref a6, .ref a7, .ref a8, .ref a9, .int (nI nS), .ref a10, .int (nI nM), .ref a11], aI D a3 24 ks] hz0) (fun _ : Unit => [oO mo 6 [.int 1, .ref a1, .int (nI nC), .ref a2, .ref a3, .ref a4, .ref a5, .ref a6, .ref a7, .ref a8, .ref a9, .int (nI nS), .ref a10, .int (nI nM), .ref a11], aI D a3 24 ks])) (va_A [oO mo 6 [.int th, .ref a1, .int (nI nC), .ref a2, .ref a3, .ref a4, .ref a5, .ref a6, .ref a7, .ref a8, .ref a9, .int (nI nS), .ref a10, .int (nI nM), .ref a11], aI D a3 24 ks] hz0)) 0 0 (va_A [oO mo 6 [.int th, .ref a1, .int (nI nC), .ref a2, .ref a3, .ref a4, .ref a5, .ref a6, .ref a7, .ref a8, .ref a9, .int (nI nS), .ref a10, .int (nI nM), .ref a11], aI D a3 24 ks] hz0) := by
  refine Met.ofW (cc := cX6_keyOf) (maxL := 6) (ret := (some .int)) (by decide) rfl ?_
  intro p e s m args below meth c s₁ B hml hv
  obtain ⟨rfl, hsz, hG, hP, hD0⟩ := hv
  have hx := B.exec
  have hb := B.bytes
  have hr := B.returns
  have hts : ∀ w ∈ wsL_law, w.before _ s = true := fun w h => atoms_spec (ws := (ws_ yX6_keyOf cX6_keyOf 6 (some .int))) B.pre w (List.mem_cons_of_mem _ h)
  have hown : s.vm.findClass RX6 = some m.cls := findClass_of_methodNamed B.named
  have hlk := B.notSynchronized
  have hC : CallFix p m c cX6_keyOf 6 s _ wsL_law RX6 := ⟨hx, hb, hml, hown, hts⟩
  subst hsz
  have hD := hD0.self (sz := s.heap.size)
  generalize hAe : va_A [oO mo 6 [.int th, .ref a1, .int (nI nC), .ref a2, .ref a3, .ref a4, .ref a5, .ref a6, .ref a7, .ref a8, .ref a9, .int (nI nS), .ref a10, .int (nI nM), .ref a11], aI D a3 24 ks] s.heap.size = A at hD ⊢
  have hA : ∀ q : Nat, s.heap.size ≤ q → A q := fun q h => by rw [← hAe]; exact Or.inr h
  have hS : va_S A s.heap s.heap [] := va_S.rf
  obtain ⟨H, hHe⟩ : ∃ H, H = s.heap := ⟨_, rfl⟩
  rw [← hHe] at hP
  have hS : va_S A s.heap H [] := by rw [hHe]; exact hS
  have hl := lv_entry ([.ref mo, .int (nI i), .int (nI j), .int u0, .int wh]) (n := 6) (Nat.le_of_ble_eq_true rfl)
  rw [lg_entry_eq]
  generalize (lg_sl ([.ref mo, .int (nI i), .int (nI j), .int u0, .int wh]) ++ List.replicate (6 - (lg_sl ([.ref mo, .int (nI i), .int (nI j), .int u0, .int wh])).length) Slot.unset).toArray = ls at hl ⊢
  have hl : lv_has ls 6 [(0, .ref mo), (1, .int (nI i)), (2, .int (nI j)), (3, .int u0), (4, .int wh)] := hl
  rw [← hHe]
  refine lv_aload_n hx hb dX6_keyOf_0 rfl (lv_at hl 0 rfl) ?_
  refine lv_iconst (v := 0) hx hb dX6_keyOf_1 (by decide) ?_
  refine va_put (D := D) (ci := 6) (v := .int 0) (ty := .int) (C := RX6) (T := TX6) (N := 15) hx hb hts inlX6 tyX6 tyX6_ok nmX6 hown hG.K hP hD hS 0 rfl rfl 0 (by decide) (hts _ mF_X6_43) (fun _ h9 => h9) rfl (by decide +kernel) rfl rfl (Nat.le_of_ble_eq_true rfl) dX6_keyOf_2 (fun H locs hP hD hS => ?_)
  have hP : va_P D cls [oO mo 6 [.int 0, .ref a1, .int (nI nC), .ref a2, .ref a3, .ref a4, .ref a5, .ref a6, .ref a7, .ref a8, .ref a9, .int (nI nS), .ref a10, .int (nI nM), .ref a11], aI D a3 24 ks] H := hP
  have hD : va_D A [oO mo 6 [.int 0, .ref a1, .int (nI nC), .ref a2, .ref a3, .ref a4, .ref a5, .ref a6, .ref a7, .ref a8, .ref a9, .int (nI nS), .ref a10, .int (nI nM), .ref a11], aI D a3 24 ks] := hD
  refine lv_aload_n hx hb dX6_keyOf_5 rfl (lv_at hl 0 rfl) ?_
  refine lv_iload_n hx hb dX6_keyOf_6 rfl (lv_at hl 1 rfl) ?_
  refine lv_iload_n hx hb dX6_keyOf_7 rfl (lv_at hl 2 rfl) ?_
  have hP9 := hP.sub (ws' := [oO mo 6 [.int 0, .ref a1, .int (nI nC), .ref a2, .ref a3, .ref a4, .ref a5, .ref a6, .ref a7, .ref a8, .ref a9, .int (nI nS), .ref a10, .int (nI nM), .ref a11]]) [0] rfl
  refine vp_callSi (pV (rest := []) (qc := (RX6, TX6, 15)) [.int (nI i), .int (nI j)] 2 hC (m_isTrack l D (mo := mo) (i := i) (j := j) (th := 0) (a1 := a1) (nC := nC) (a2 := a2) (a3 := a3) (a4 := a4) (a5 := a5) (a6 := a6) (a7 := a7) (a8 := a8) (a9 := a9) (nS := nS) (a10 := a10) (nM := nM) (a11 := a11) (by omega) (by omega) (by omega)) rfl (hP 0 _ rfl) (gV mM_X6_74 mI_X6_isTrack mS_X6_isTrack mN_X6 mC_X6_isTrack) (by decide +kernel) rfl rfl ⟨Nat.le_of_ble_eq_true rfl, Nat.le_of_ble_eq_true rfl⟩ hG hP9 rfl hl.1 rfl (Nat.le_of_ble_eq_true rfl) dX6_keyOf_8 ⟨Nat.le_of_ble_eq_true rfl, Nat.le_of_ble_eq_true rfl⟩) (fun r8 h8 => ?_)
  obtain rfl : r8 = 1 := h8
  refine lv_if_eq (tgt := 44) hx hb dX6_keyOf_11 (by decide) (fun h9 => absurd h9 (by decide)) (fun _ => ?_)
  refine lv_iload_n hx hb dX6_keyOf_14 rfl (lv_at hl 3 rfl) ?_
  refine lv_iconst (v := 0) hx hb dX6_keyOf_15 (by decide) ?_
  refine lv_aload_n hx hb dX6_keyOf_16 rfl (lv_at hl 0 rfl) ?_
  refine va_get (D := D) (ci := 6) (v := .ref a3) (C := RX6) (T := TX6) (N := 15) hx hb hts inlX6 hown hG.K hP 0 rfl rfl 4 (by decide) (hts _ mF_X6_16) (fun _ h9 => h9) rfl dX6_keyOf_17 ?_
  refine lv_iconst (v := 4) hx hb dX6_keyOf_20 (by decide) ?_
  refine lv_iload_n hx hb dX6_keyOf_21 rfl (lv_at hl 1 rfl) ?_
  refine lv_imul hx hb dX6_keyOf_22 ?_
  refine tpi (y := nI (4 * i)) (pk_mul 4 i) ?_
  refine lv_iload_n hx hb dX6_keyOf_23 rfl (lv_at hl 2 rfl) ?_
  refine lv_iadd hx hb dX6_keyOf_24 ?_
  refine tpi (y := nI ((4 * i) + j)) (nI_add (4 * i) j) ?_
  refine ild (n := 24) (j := (4 * i) + j) hx hb hG hP 1 rfl (by omega) (by omega) dX6_keyOf_25 ?_
  refine tpi (y := nI n) (hks) ?_
  refine lv_iconst (v := 1) hx hb dX6_keyOf_26 (by decide) ?_
  refine lv_isub hx hb dX6_keyOf_27 ?_
  have hP9 : va_P D cls [] H := fun k q h => by simp at h
  refine vp_callSi (pS (rest := []) [.int u0, .int 0, .int ((nI n) - 1)] 3 hC (m_isIn l D (x := u0) (a := 0) (b := (nI n) - 1) ) (gS mM_X6_50 mT_X6_isIn mN_X6 mC_X6_isIn) (by decide +kernel) rfl rfl ⟨Nat.le_of_ble_eq_true rfl, Nat.le_of_ble_eq_true rfl⟩ hG hP9 rfl hl.1 rfl (Nat.le_of_ble_eq_true rfl) dX6_keyOf_28 ⟨Nat.le_of_ble_eq_true rfl, Nat.le_of_ble_eq_true rfl⟩) (fun r28 h28 => ?_)
  rcases h28 with ⟨rfl, hb28⟩ | ⟨rfl, hb28⟩
  · skip
    refine lv_if_eq (tgt := 44) hx hb dX6_keyOf_31 (by decide) (fun h9 => absurd h9 (by decide)) (fun _ => ?_)
    refine lv_iload hx hb dX6_keyOf_34 (lv_at hl 4 rfl) ?_
    refine lv_iconst (v := 0) hx hb dX6_keyOf_36 (by decide) ?_
    refine lv_iconst (v := 2) hx hb dX6_keyOf_37 (by decide) ?_
    have hP9 : va_P D cls [] H := fun k q h => by simp at h
    refine vp_callSi (pS (rest := []) [.int wh, .int 0, .int 2] 3 hC (m_isIn l D (x := wh) (a := 0) (b := 2) ) (gS mM_X6_50 mT_X6_isIn mN_X6 mC_X6_isIn) (by decide +kernel) rfl rfl ⟨Nat.le_of_ble_eq_true rfl, Nat.le_of_ble_eq_true rfl⟩ hG hP9 rfl hl.1 rfl (Nat.le_of_ble_eq_true rfl) dX6_keyOf_38 ⟨Nat.le_of_ble_eq_true rfl, Nat.le_of_ble_eq_true rfl⟩) (fun r38 h38 => ?_)
    rcases h38 with ⟨rfl, hb38⟩ | ⟨rfl, hb38⟩
    · exact absurd hb38 (fun h9 => hh ⟨hb28, h9⟩)
    refine lv_if_ne (tgt := 50) hx hb dX6_keyOf_41 (by decide) (fun h9 => (h9 (by decide)).elim) (fun _ => ?_)
    refine lv_aload_n hx hb dX6_keyOf_44 rfl (lv_at hl 0 rfl) ?_
    refine lv_iconst (v := 1) hx hb dX6_keyOf_45 (by decide) ?_
    have hP9 := hP.sub (ws' := [oO mo 6 [.int 0, .ref a1, .int (nI nC), .ref a2, .ref a3, .ref a4, .ref a5, .ref a6, .ref a7, .ref a8, .ref a9, .int (nI nS), .ref a10, .int (nI nM), .ref a11]]) [0] rfl
    have hD9 := (hD.sub (ws' := [oO mo 6 [.int 0, .ref a1, .int (nI nC), .ref a2, .ref a3, .ref a4, .ref a5, .ref a6, .ref a7, .ref a8, .ref a9, .int (nI nS), .ref a10, .int (nI nM), .ref a11]]) [0] (by decide) rfl).weaken (B := fun _ => True) (fun _ _ _ _ => trivial)
    refine ki (wr := [aI D a3 24 ks]) (rV (rest := []) (qc := (RX6, TX6, 15)) [.int 1] 1 0 0 hC (m_no l D (mo := mo) (x := 1) (th := 0) (a1 := a1) (nC := nC) (a2 := a2) (a3 := a3) (a4 := a4) (a5 := a5) (a6 := a6) (a7 := a7) (a8 := a8) (a9 := a9) (nS := nS) (a10 := a10) (nM := nM) (a11 := a11) (hz0 := H.size) ) rfl (hP 0 _ rfl) (gV mM_X6_66 mI_X6_no mS_X6_no mN_X6 mC_X6_no) (by decide +kernel) rfl rfl ⟨Nat.le_of_ble_eq_true rfl, Nat.le_of_ble_eq_true rfl⟩ hG hP9 hD9 rfl hl.1 rfl (Nat.le_of_ble_eq_true rfl) dX6_keyOf_46 ⟨Nat.le_of_ble_eq_true rfl, Nat.le_of_ble_eq_true rfl⟩) hP hD hS hA [0] [1] rfl rfl (by decide) (by decide) (fun r46 u46 H locs h46 hP hD hS hz hfr => ?_)
    have hP : va_P D cls [aI D a3 24 ks, oO mo 6 [.int 1, .ref a1, .int (nI nC), .ref a2, .ref a3, .ref a4, .ref a5, .ref a6, .ref a7, .ref a8, .ref a9, .int (nI nS), .ref a10, .int (nI nM), .ref a11]] H := hP
    have hD : va_D A [aI D a3 24 ks, oO mo 6 [.int 1, .ref a1, .int (nI nC), .ref a2, .ref a3, .ref a4, .ref a5, .ref a6, .ref a7, .ref a8, .ref a9, .int (nI nS), .ref a10, .int (nI nM), .ref a11]] := hD
    obtain rfl : r46 = 0 := h46
    refine Wi () hx hb hr hlk ?_ (hP.sub [1, 0] rfl) (hD.sub [1, 0] (by decide) rfl) hS (Nat.le_of_ble_eq_true rfl) (by first | exact Nat.le_of_ble_eq_true rfl | exact Nat.le_of_eq (Nat.zero_add _)) dX6_keyOf_49
    exact rfl
  · skip
    refine lv_if_eq (tgt := 44) hx hb dX6_keyOf_31 (by decide) (fun _ => ?_) (fun h9 => (h9 (by decide)).elim)
    refine lv_aload_n hx hb dX6_keyOf_44 rfl (lv_at hl 0 rfl) ?_
    refine lv_iconst (v := 1) hx hb dX6_keyOf_45 (by decide) ?_
    have hP9 := hP.sub (ws' := [oO mo 6 [.int 0, .ref a1, .int (nI nC), .ref a2, .ref a3, .ref a4, .ref a5, .ref a6, .ref a7, .ref a8, .ref a9, .int (nI nS), .ref a10, .int (nI nM), .ref a11]]) [0] rfl
    have hD9 := (hD.sub (ws' := [oO mo 6 [.int 0, .ref a1, .int (nI nC), .ref a2, .ref a3, .ref a4, .ref a5, .ref a6, .ref a7, .ref a8, .ref a9, .int (nI nS), .ref a10, .int (nI nM), .ref a11]]) [0] (by decide) rfl).weaken (B := fun _ => True) (fun _ _ _ _ => trivial)
    refine ki (wr := [aI D a3 24 ks]) (rV (rest := []) (qc := (RX6, TX6, 15)) [.int 1] 1 0 0 hC (m_no l D (mo := mo) (x := 1) (th := 0) (a1 := a1) (nC := nC) (a2 := a2) (a3 := a3) (a4 := a4) (a5 := a5) (a6 := a6) (a7 := a7) (a8 := a8) (a9 := a9) (nS := nS) (a10 := a10) (nM := nM) (a11 := a11) (hz0 := H.size) ) rfl (hP 0 _ rfl) (gV mM_X6_66 mI_X6_no mS_X6_no mN_X6 mC_X6_no) (by decide +kernel) rfl rfl ⟨Nat.le_of_ble_eq_true rfl, Nat.le_of_ble_eq_true rfl⟩ hG hP9 hD9 rfl hl.1 rfl (Nat.le_of_ble_eq_true rfl) dX6_keyOf_46 ⟨Nat.le_of_ble_eq_true rfl, Nat.le_of_ble_eq_true rfl⟩) hP hD hS hA [0] [1] rfl rfl (by decide) (by decide) (fun r46 u46 H locs h46 hP hD hS hz hfr => ?_)
    have hP : va_P D cls [aI D a3 24 ks, oO mo 6 [.int 1, .ref a1, .int (nI nC), .ref a2, .ref a3, .ref a4, .ref a5, .ref a6, .ref a7, .ref a8, .ref a9, .int (nI nS), .ref a10, .int (nI nM), .ref a11]] H := hP
    have hD : va_D A [aI D a3 24 ks, oO mo 6 [.int 1, .ref a1, .int (nI nC), .ref a2, .ref a3, .ref a4, .ref a5, .ref a6, .ref a7, .ref a8, .ref a9, .int (nI nS), .ref a10, .int (nI nM), .ref a11]] := hD
    obtain rfl : r46 = 0 := h46
    refine Wi () hx hb hr hlk ?_ (hP.sub [1, 0] rfl) (hD.sub [1, 0] (by decide) rfl) hS (Nat.le_of_ble_eq_true rfl) (by first | exact Nat.le_of_ble_eq_true rfl | exact Nat.le_of_eq (Nat.zero_add _)) dX6_keyOf_49
    exact rfl
set_option maxHeartbeats 400000 in
set_option maxRecDepth 100000 in
theorem m_keyOf (l : Launch) (D : va_G) {mo a1 a2 a3 a4 a5 a6 a7 a8 a9 a10 a11 nC nS nM : Nat} {th : Int32} {ks tm wo ea : Nat → Int32} {i j : Nat} {n d : Nat} {wh : Int32} (hz0 : Nat) (hn : nC ≤ 6) (hi : i < nC) (hj : j < 4) (hks : ks (4 * i + j) = nI n) (h16 : n ≤ 16) (hd : d < n) (hw : (0 : Int32) ≤ wh ∧ wh ≤ 2) : Met l yX6_keyOf (ws_ yX6_keyOf cX6_keyOf 6 (some .int)) ({ frames := 3, cells := 0, slots := 0, locals := 65 } : Room) (va_Pc [.ref mo, .int (nI i), .int (nI j), .int (nI d), .int wh] (SW D [oO mo 6 [.int th, .ref a1, .int (nI nC), .ref a2, .ref a3, .ref a4, .ref a5, .ref a6, .ref a7, .ref a8, .ref a9, .int (nI nS), .ref a10, .int (nI nM), .ref a11], aI D a3 24 ks, aI D a4 384 tm, aI D a5 384 wo, aI D a6 384 ea] hz0)) (va_Qi (fun v _ => v = if wh = 0 then tm (16 * (4 * i + j) + d) else if wh = 1 then wo (16 * (4 * i + j) + d) else ea (16 * (4 * i + j) + d)) (AT D (va_A [oO mo 6 [.int th, .ref a1, .int (nI nC), .ref a2, .ref a3, .ref a4, .ref a5, .ref a6, .ref a7, .ref a8, .ref a9, .int (nI nS), .ref a10, .int (nI nM), .ref a11], aI D a3 24 ks, aI D a4 384 tm, aI D a5 384 wo, aI D a6 384 ea] hz0) (fun _ : Unit => [oO mo 6 [.int 0, .ref a1, .int (nI nC), .ref a2, .ref a3, .ref a4, .ref a5, .ref a6, .ref a7, .ref a8, .ref a9, .int (nI nS), .ref a10, .int (nI nM), .ref a11], aI D a3 24 ks, aI D a4 384 tm, aI D a5 384 wo, aI D a6 384 ea])) (va_A [oO mo 6 [.int th, .ref a1, .int (nI nC), .ref a2, .ref a3, .ref a4, .ref a5, .ref a6, .ref a7, .ref a8, .ref a9, .int (nI nS), .ref a10, .int (nI nM), .ref a11], aI D a3 24 ks, aI D a4 384 tm, aI D a5 384 wo, aI D a6 384 ea] hz0)) 0 0 (va_A [oO mo 6 [.int th, .ref a1, .int (nI nC), .ref a2, .ref a3, .ref a4, .ref a5, .ref a6, .ref a7, .ref a8, .ref a9, .int (nI nS), .ref a10, .int (nI nM), .ref a11], aI D a3 24 ks, aI D a4 384 tm, aI D a5 384 wo, aI D a6 384 ea] hz0) := by
  refine Met.ofW (cc := cX6_keyOf) (maxL := 6) (ret := (some .int)) (by decide) rfl ?_
  intro p e s m args below meth c s₁ B hml hv
  obtain ⟨rfl, hsz, hG, hP, hD0⟩ := hv
  have hx := B.exec
  have hb := B.bytes
  have hr := B.returns
  have hts : ∀ w ∈ wsL_law, w.before _ s = true := fun w h => atoms_spec (ws := (ws_ yX6_keyOf cX6_keyOf 6 (some .int))) B.pre w (List.mem_cons_of_mem _ h)
  have hown : s.vm.findClass RX6 = some m.cls := findClass_of_methodNamed B.named
  have hlk := B.notSynchronized
  have hC : CallFix p m c cX6_keyOf 6 s _ wsL_law RX6 := ⟨hx, hb, hml, hown, hts⟩
  subst hsz
  have hD := hD0.self (sz := s.heap.size)
  generalize hAe : va_A [oO mo 6 [.int th, .ref a1, .int (nI nC), .ref a2, .ref a3, .ref a4, .ref a5, .ref a6, .ref a7, .ref a8, .ref a9, .int (nI nS), .ref a10, .int (nI nM), .ref a11], aI D a3 24 ks, aI D a4 384 tm, aI D a5 384 wo, aI D a6 384 ea] s.heap.size = A at hD ⊢
  have hA : ∀ q : Nat, s.heap.size ≤ q → A q := fun q h => by rw [← hAe]; exact Or.inr h
  have hS : va_S A s.heap s.heap [] := va_S.rf
  obtain ⟨H, hHe⟩ : ∃ H, H = s.heap := ⟨_, rfl⟩
  rw [← hHe] at hP
  have hS : va_S A s.heap H [] := by rw [hHe]; exact hS
  have hl := lv_entry ([.ref mo, .int (nI i), .int (nI j), .int (nI d), .int wh]) (n := 6) (Nat.le_of_ble_eq_true rfl)
  rw [lg_entry_eq]
  generalize (lg_sl ([.ref mo, .int (nI i), .int (nI j), .int (nI d), .int wh]) ++ List.replicate (6 - (lg_sl ([.ref mo, .int (nI i), .int (nI j), .int (nI d), .int wh])).length) Slot.unset).toArray = ls at hl ⊢
  have hl : lv_has ls 6 [(0, .ref mo), (1, .int (nI i)), (2, .int (nI j)), (3, .int (nI d)), (4, .int wh)] := hl
  rw [← hHe]
  refine lv_aload_n hx hb dX6_keyOf_0 rfl (lv_at hl 0 rfl) ?_
  refine lv_iconst (v := 0) hx hb dX6_keyOf_1 (by decide) ?_
  refine va_put (D := D) (ci := 6) (v := .int 0) (ty := .int) (C := RX6) (T := TX6) (N := 15) hx hb hts inlX6 tyX6 tyX6_ok nmX6 hown hG.K hP hD hS 0 rfl rfl 0 (by decide) (hts _ mF_X6_43) (fun _ h9 => h9) rfl (by decide +kernel) rfl rfl (Nat.le_of_ble_eq_true rfl) dX6_keyOf_2 (fun H locs hP hD hS => ?_)
  have hP : va_P D cls [oO mo 6 [.int 0, .ref a1, .int (nI nC), .ref a2, .ref a3, .ref a4, .ref a5, .ref a6, .ref a7, .ref a8, .ref a9, .int (nI nS), .ref a10, .int (nI nM), .ref a11], aI D a3 24 ks, aI D a4 384 tm, aI D a5 384 wo, aI D a6 384 ea] H := hP
  have hD : va_D A [oO mo 6 [.int 0, .ref a1, .int (nI nC), .ref a2, .ref a3, .ref a4, .ref a5, .ref a6, .ref a7, .ref a8, .ref a9, .int (nI nS), .ref a10, .int (nI nM), .ref a11], aI D a3 24 ks, aI D a4 384 tm, aI D a5 384 wo, aI D a6 384 ea] := hD
  refine lv_aload_n hx hb dX6_keyOf_5 rfl (lv_at hl 0 rfl) ?_
  refine lv_iload_n hx hb dX6_keyOf_6 rfl (lv_at hl 1 rfl) ?_
  refine lv_iload_n hx hb dX6_keyOf_7 rfl (lv_at hl 2 rfl) ?_
  have hP9 := hP.sub (ws' := [oO mo 6 [.int 0, .ref a1, .int (nI nC), .ref a2, .ref a3, .ref a4, .ref a5, .ref a6, .ref a7, .ref a8, .ref a9, .int (nI nS), .ref a10, .int (nI nM), .ref a11]]) [0] rfl
  refine vp_callSi (pV (rest := []) (qc := (RX6, TX6, 15)) [.int (nI i), .int (nI j)] 2 hC (m_isTrack l D (mo := mo) (i := i) (j := j) (th := 0) (a1 := a1) (nC := nC) (a2 := a2) (a3 := a3) (a4 := a4) (a5 := a5) (a6 := a6) (a7 := a7) (a8 := a8) (a9 := a9) (nS := nS) (a10 := a10) (nM := nM) (a11 := a11) (by omega) (by omega) (by omega)) rfl (hP 0 _ rfl) (gV mM_X6_74 mI_X6_isTrack mS_X6_isTrack mN_X6 mC_X6_isTrack) (by decide +kernel) rfl rfl ⟨Nat.le_of_ble_eq_true rfl, Nat.le_of_ble_eq_true rfl⟩ hG hP9 rfl hl.1 rfl (Nat.le_of_ble_eq_true rfl) dX6_keyOf_8 ⟨Nat.le_of_ble_eq_true rfl, Nat.le_of_ble_eq_true rfl⟩) (fun r8 h8 => ?_)
  obtain rfl : r8 = 1 := h8
  refine lv_if_eq (tgt := 44) hx hb dX6_keyOf_11 (by decide) (fun h9 => absurd h9 (by decide)) (fun _ => ?_)
  refine lv_iload_n hx hb dX6_keyOf_14 rfl (lv_at hl 3 rfl) ?_
  refine lv_iconst (v := 0) hx hb dX6_keyOf_15 (by decide) ?_
  refine lv_aload_n hx hb dX6_keyOf_16 rfl (lv_at hl 0 rfl) ?_
  refine va_get (D := D) (ci := 6) (v := .ref a3) (C := RX6) (T := TX6) (N := 15) hx hb hts inlX6 hown hG.K hP 0 rfl rfl 4 (by decide) (hts _ mF_X6_16) (fun _ h9 => h9) rfl dX6_keyOf_17 ?_
  refine lv_iconst (v := 4) hx hb dX6_keyOf_20 (by decide) ?_
  refine lv_iload_n hx hb dX6_keyOf_21 rfl (lv_at hl 1 rfl) ?_
  refine lv_imul hx hb dX6_keyOf_22 ?_
  refine tpi (y := nI (4 * i)) (pk_mul 4 i) ?_
  refine lv_iload_n hx hb dX6_keyOf_23 rfl (lv_at hl 2 rfl) ?_
  refine lv_iadd hx hb dX6_keyOf_24 ?_
  refine tpi (y := nI ((4 * i) + j)) (nI_add (4 * i) j) ?_
  refine ild (n := 24) (j := (4 * i) + j) hx hb hG hP 1 rfl (by omega) (by omega) dX6_keyOf_25 ?_
  refine tpi (y := nI n) (hks) ?_
  refine lv_iconst (v := 1) hx hb dX6_keyOf_26 (by decide) ?_
  refine lv_isub hx hb dX6_keyOf_27 ?_
  refine tpi (y := nI (n - 1)) (pk_sub (a := n) (b := 1) (by omega)) ?_
  have hP9 : va_P D cls [] H := fun k q h => by simp at h
  refine vp_callSi (pS (rest := []) [.int (nI d), .int 0, .int (nI (n - 1))] 3 hC (m_isIn l D (x := nI d) (a := 0) (b := nI (n - 1)) ) (gS mM_X6_50 mT_X6_isIn mN_X6 mC_X6_isIn) (by decide +kernel) rfl rfl ⟨Nat.le_of_ble_eq_true rfl, Nat.le_of_ble_eq_true rfl⟩ hG hP9 rfl hl.1 rfl (Nat.le_of_ble_eq_true rfl) dX6_keyOf_28 ⟨Nat.le_of_ble_eq_true rfl, Nat.le_of_ble_eq_true rfl⟩) (fun r28 h28 => ?_)
  rcases h28 with ⟨rfl, hb28⟩ | ⟨rfl, hb28⟩
  rotate_left
  · exact absurd (⟨nI_pos' (by omega), nI_le (by omega) (by omega)⟩) hb28
  refine lv_if_eq (tgt := 44) hx hb dX6_keyOf_31 (by decide) (fun h9 => absurd h9 (by decide)) (fun _ => ?_)
  refine lv_iload hx hb dX6_keyOf_34 (lv_at hl 4 rfl) ?_
  refine lv_iconst (v := 0) hx hb dX6_keyOf_36 (by decide) ?_
  refine lv_iconst (v := 2) hx hb dX6_keyOf_37 (by decide) ?_
  have hP9 : va_P D cls [] H := fun k q h => by simp at h
  refine vp_callSi (pS (rest := []) [.int wh, .int 0, .int 2] 3 hC (m_isIn l D (x := wh) (a := 0) (b := 2) ) (gS mM_X6_50 mT_X6_isIn mN_X6 mC_X6_isIn) (by decide +kernel) rfl rfl ⟨Nat.le_of_ble_eq_true rfl, Nat.le_of_ble_eq_true rfl⟩ hG hP9 rfl hl.1 rfl (Nat.le_of_ble_eq_true rfl) dX6_keyOf_38 ⟨Nat.le_of_ble_eq_true rfl, Nat.le_of_ble_eq_true rfl⟩) (fun r38 h38 => ?_)
  rcases h38 with ⟨rfl, hb38⟩ | ⟨rfl, hb38⟩
  rotate_left
  · exact absurd (hw) hb38
  refine lv_if_ne (tgt := 50) hx hb dX6_keyOf_41 (by decide) (fun _ => ?_) (fun h9 => absurd h9 (by decide))
  refine lv_iconst (v := 4) hx hb dX6_keyOf_50 (by decide) ?_
  refine lv_iload_n hx hb dX6_keyOf_51 rfl (lv_at hl 1 rfl) ?_
  refine lv_imul hx hb dX6_keyOf_52 ?_
  refine tpi (y := nI (4 * i)) (pk_mul 4 i) ?_
  refine lv_iload_n hx hb dX6_keyOf_53 rfl (lv_at hl 2 rfl) ?_
  refine lv_iadd hx hb dX6_keyOf_54 ?_
  refine tpi (y := nI ((4 * i) + j)) (nI_add (4 * i) j) ?_
  have hP9 : va_P D cls [] H := fun k q h => by simp at h
  refine vp_callSi (pS (rest := []) [.int (nI ((4 * i) + j))] 1 hC (m_row l D (j := (4 * i) + j) ) (gS mM_X6_78 mT_X6_row mN_X6 mC_X6_row) (by decide +kernel) rfl rfl ⟨Nat.le_of_ble_eq_true rfl, Nat.le_of_ble_eq_true rfl⟩ hG hP9 rfl hl.1 rfl (Nat.le_of_ble_eq_true rfl) dX6_keyOf_55 ⟨Nat.le_of_ble_eq_true rfl, Nat.le_of_ble_eq_true rfl⟩) (fun r55 h55 => ?_)
  obtain rfl : r55 = (nI (16 * ((4 * i) + j))) := h55
  refine lv_iload_n hx hb dX6_keyOf_58 rfl (lv_at hl 3 rfl) ?_
  refine lv_iadd hx hb dX6_keyOf_59 ?_
  refine tpi (y := nI ((16 * ((4 * i) + j)) + d)) (nI_add (16 * ((4 * i) + j)) d) ?_
  refine lv_istore (lv' := [(5, .int (nI ((16 * ((4 * i) + j)) + d))), (0, .ref mo), (1, .int (nI i)), (2, .int (nI j)), (3, .int (nI d)), (4, .int wh)]) hx hb dX6_keyOf_60 hl (by decide) rfl (fun ls hl => ?_)
  refine lv_iload hx hb dX6_keyOf_62 (lv_at hl 5 rfl) ?_
  refine lv_if_ne (tgt := 77) hx hb dX6_keyOf_64 (by decide) (fun c64 => ?_) (fun c64 => ?_)
  · skip
    refine lv_iload hx hb dX6_keyOf_77 (lv_at hl 5 rfl) ?_
    refine lv_iconst (v := 1) hx hb dX6_keyOf_79 (by decide) ?_
    refine lv_icmp_ne (tgt := 93) hx hb dX6_keyOf_80 (by decide) (fun c80 => ?_) (fun c80 => ?_)
    · skip
      refine lv_aload_n hx hb dX6_keyOf_93 rfl (lv_at hl 1 rfl) ?_
      refine va_get (D := D) (ci := 6) (v := .ref a6) (C := RX6) (T := TX6) (N := 15) hx hb hts inlX6 hown hG.K hP 0 rfl rfl 7 (by decide) (hts _ mF_X6_25) (fun _ h9 => h9) rfl dX6_keyOf_94 ?_
      refine lv_iload hx hb dX6_keyOf_97 (lv_at hl 0 rfl) ?_
      refine ild (n := 384) (j := (16 * ((4 * i) + j)) + d) hx hb hG hP 4 rfl (by omega) (by omega) dX6_keyOf_99 ?_
      refine Wi () hx hb hr hlk ?_ hP hD hS (Nat.le_of_ble_eq_true rfl) (by first | exact Nat.le_of_ble_eq_true rfl | exact Nat.le_of_eq (Nat.zero_add _)) dX6_keyOf_100
      show _ = _
      first | rw [if_pos c64] | rw [if_neg c64, if_pos c80] | rw [if_neg c64, if_neg c80]
    · skip
      refine lv_aload_n hx hb dX6_keyOf_83 rfl (lv_at hl 1 rfl) ?_
      refine va_get (D := D) (ci := 6) (v := .ref a5) (C := RX6) (T := TX6) (N := 15) hx hb hts inlX6 hown hG.K hP 0 rfl rfl 6 (by decide) (hts _ mF_X6_22) (fun _ h9 => h9) rfl dX6_keyOf_84 ?_
      refine lv_iload hx hb dX6_keyOf_87 (lv_at hl 0 rfl) ?_
      refine ild (n := 384) (j := (16 * ((4 * i) + j)) + d) hx hb hG hP 3 rfl (by omega) (by omega) dX6_keyOf_89 ?_
      refine lv_goto (tgt := 100) hx hb dX6_keyOf_90 (by decide) ?_
      refine Wi () hx hb hr hlk ?_ hP hD hS (Nat.le_of_ble_eq_true rfl) (by first | exact Nat.le_of_ble_eq_true rfl | exact Nat.le_of_eq (Nat.zero_add _)) dX6_keyOf_100
      show _ = _
      first | rw [if_pos c64] | rw [if_neg c64, if_pos c80] | rw [if_neg c64, if_neg c80]
  · skip
    refine lv_aload_n hx hb dX6_keyOf_67 rfl (lv_at hl 1 rfl) ?_
    refine va_get (D := D) (ci := 6) (v := .ref a4) (C := RX6) (T := TX6) (N := 15) hx hb hts inlX6 hown hG.K hP 0 rfl rfl 5 (by decide) (hts _ mF_X6_19) (fun _ h9 => h9) rfl dX6_keyOf_68 ?_
    refine lv_iload hx hb dX6_keyOf_71 (lv_at hl 0 rfl) ?_
    refine ild (n := 384) (j := (16 * ((4 * i) + j)) + d) hx hb hG hP 2 rfl (by omega) (by omega) dX6_keyOf_73 ?_
    refine lv_goto (tgt := 100) hx hb dX6_keyOf_74 (by decide) ?_
    refine Wi () hx hb hr hlk ?_ hP hD hS (Nat.le_of_ble_eq_true rfl) (by first | exact Nat.le_of_ble_eq_true rfl | exact Nat.le_of_eq (Nat.zero_add _)) dX6_keyOf_100
    show _ = _
    first | rw [if_pos c64] | rw [if_neg c64, if_pos c80] | rw [if_neg c64, if_neg c80]
set_option maxHeartbeats 400000 in
set_option maxRecDepth 100000 in
theorem m_trackAt_1a (l : Launch) (D : va_G) {mo a1 a2 a3 a4 a5 a6 a7 a8 a9 a10 a11 nC nS nM : Nat} {th : Int32} {x y u0 : Int32} (hz0 : Nat) (hn : nC ≤ 6) (hxx : x < 0 ∨ nI nC ≤ x) : Met l yX6_trackAt (ws_ yX6_trackAt cX6_trackAt 5 (some .int)) ({ frames := 4, cells := 0, slots := 0, locals := 101 } : Room) (va_Pc [.ref mo, .int x, .int y, .int u0] (SW D [oO mo 6 [.int th, .ref a1, .int (nI nC), .ref a2, .ref a3, .ref a4, .ref a5, .ref a6, .ref a7, .ref a8, .ref a9, .int (nI nS), .ref a10, .int (nI nM), .ref a11]] hz0)) (va_Qi (fun v _ => v = 0) (AT D (va_A [oO mo 6 [.int th, .ref a1, .int (nI nC), .ref a2, .ref a3, .ref a4, .ref a5, .ref a6, .ref a7, .ref a8, .ref a9, .int (nI nS), .ref a10, .int (nI nM), .ref a11]] hz0) (fun _ : Unit => [oO mo 6 [.int 1, .ref a1, .int (nI nC), .ref a2, .ref a3, .ref a4, .ref a5, .ref a6, .ref a7, .ref a8, .ref a9, .int (nI nS), .ref a10, .int (nI nM), .ref a11]])) (va_A [oO mo 6 [.int th, .ref a1, .int (nI nC), .ref a2, .ref a3, .ref a4, .ref a5, .ref a6, .ref a7, .ref a8, .ref a9, .int (nI nS), .ref a10, .int (nI nM), .ref a11]] hz0)) 0 0 (va_A [oO mo 6 [.int th, .ref a1, .int (nI nC), .ref a2, .ref a3, .ref a4, .ref a5, .ref a6, .ref a7, .ref a8, .ref a9, .int (nI nS), .ref a10, .int (nI nM), .ref a11]] hz0) := by
  refine Met.ofW (cc := cX6_trackAt) (maxL := 5) (ret := (some .int)) (by decide) rfl ?_
  intro p e s m args below meth c s₁ B hml hv
  obtain ⟨rfl, hsz, hG, hP, hD0⟩ := hv
  have hx := B.exec
  have hb := B.bytes
  have hr := B.returns
  have hts : ∀ w ∈ wsL_law, w.before _ s = true := fun w h => atoms_spec (ws := (ws_ yX6_trackAt cX6_trackAt 5 (some .int))) B.pre w (List.mem_cons_of_mem _ h)
  have hown : s.vm.findClass RX6 = some m.cls := findClass_of_methodNamed B.named
  have hlk := B.notSynchronized
  have hC : CallFix p m c cX6_trackAt 5 s _ wsL_law RX6 := ⟨hx, hb, hml, hown, hts⟩
  subst hsz
  have hD := hD0.self (sz := s.heap.size)
  generalize hAe : va_A [oO mo 6 [.int th, .ref a1, .int (nI nC), .ref a2, .ref a3, .ref a4, .ref a5, .ref a6, .ref a7, .ref a8, .ref a9, .int (nI nS), .ref a10, .int (nI nM), .ref a11]] s.heap.size = A at hD ⊢
  have hA : ∀ q : Nat, s.heap.size ≤ q → A q := fun q h => by rw [← hAe]; exact Or.inr h
  have hS : va_S A s.heap s.heap [] := va_S.rf
  obtain ⟨H, hHe⟩ : ∃ H, H = s.heap := ⟨_, rfl⟩
  rw [← hHe] at hP
  have hS : va_S A s.heap H [] := by rw [hHe]; exact hS
  have hl := lv_entry ([.ref mo, .int x, .int y, .int u0]) (n := 5) (Nat.le_of_ble_eq_true rfl)
  rw [lg_entry_eq]
  generalize (lg_sl ([.ref mo, .int x, .int y, .int u0]) ++ List.replicate (5 - (lg_sl ([.ref mo, .int x, .int y, .int u0])).length) Slot.unset).toArray = ls at hl ⊢
  have hl : lv_has ls 5 [(0, .ref mo), (1, .int x), (2, .int y), (3, .int u0)] := hl
  rw [← hHe]
  refine lv_aload_n hx hb dX6_trackAt_0 rfl (lv_at hl 0 rfl) ?_
  refine lv_iconst (v := 0) hx hb dX6_trackAt_1 (by decide) ?_
  refine va_put (D := D) (ci := 6) (v := .int 0) (ty := .int) (C := RX6) (T := TX6) (N := 15) hx hb hts inlX6 tyX6 tyX6_ok nmX6 hown hG.K hP hD hS 0 rfl rfl 0 (by decide) (hts _ mF_X6_43) (fun _ h9 => h9) rfl (by decide +kernel) rfl rfl (Nat.le_of_ble_eq_true rfl) dX6_trackAt_2 (fun H locs hP hD hS => ?_)
  have hP : va_P D cls [oO mo 6 [.int 0, .ref a1, .int (nI nC), .ref a2, .ref a3, .ref a4, .ref a5, .ref a6, .ref a7, .ref a8, .ref a9, .int (nI nS), .ref a10, .int (nI nM), .ref a11]] H := hP
  have hD : va_D A [oO mo 6 [.int 0, .ref a1, .int (nI nC), .ref a2, .ref a3, .ref a4, .ref a5, .ref a6, .ref a7, .ref a8, .ref a9, .int (nI nS), .ref a10, .int (nI nM), .ref a11]] := hD
  refine lv_aload_n hx hb dX6_trackAt_5 rfl (lv_at hl 0 rfl) ?_
  refine lv_iload_n hx hb dX6_trackAt_6 rfl (lv_at hl 1 rfl) ?_
  refine lv_iload_n hx hb dX6_trackAt_7 rfl (lv_at hl 2 rfl) ?_
  have hP9 := hP
  refine vp_callSi (pV (rest := []) (qc := (RX6, TX6, 15)) [.int x, .int y] 2 hC (m_isTrack_no1 l D (mo := mo) (x := x) (y := y) (th := 0) (a1 := a1) (nC := nC) (a2 := a2) (a3 := a3) (a4 := a4) (a5 := a5) (a6 := a6) (a7 := a7) (a8 := a8) (a9 := a9) (nS := nS) (a10 := a10) (nM := nM) (a11 := a11) (by omega) (hxx)) rfl (hP 0 _ rfl) (gV mM_X6_74 mI_X6_isTrack mS_X6_isTrack mN_X6 mC_X6_isTrack) (by decide +kernel) rfl rfl ⟨Nat.le_of_ble_eq_true rfl, Nat.le_of_ble_eq_true rfl⟩ hG hP9 rfl hl.1 rfl (Nat.le_of_ble_eq_true rfl) dX6_trackAt_8 ⟨Nat.le_of_ble_eq_true rfl, Nat.le_of_ble_eq_true rfl⟩) (fun r8 h8 => ?_)
  obtain rfl : r8 = 0 := h8
  refine lv_if_ne (tgt := 20) hx hb dX6_trackAt_11 (by decide) (fun h9 => (h9 (by decide)).elim) (fun _ => ?_)
  refine lv_aload_n hx hb dX6_trackAt_14 rfl (lv_at hl 0 rfl) ?_
  refine lv_iconst (v := 1) hx hb dX6_trackAt_15 (by decide) ?_
  have hP9 := hP.sub (ws' := [oO mo 6 [.int 0, .ref a1, .int (nI nC), .ref a2, .ref a3, .ref a4, .ref a5, .ref a6, .ref a7, .ref a8, .ref a9, .int (nI nS), .ref a10, .int (nI nM), .ref a11]]) [0] rfl
  have hD9 := (hD.sub (ws' := [oO mo 6 [.int 0, .ref a1, .int (nI nC), .ref a2, .ref a3, .ref a4, .ref a5, .ref a6, .ref a7, .ref a8, .ref a9, .int (nI nS), .ref a10, .int (nI nM), .ref a11]]) [0] (by decide) rfl).weaken (B := fun _ => True) (fun _ _ _ _ => trivial)
  refine ki (wr := []) (rV (rest := []) (qc := (RX6, TX6, 15)) [.int 1] 1 0 0 hC (m_no l D (mo := mo) (x := 1) (th := 0) (a1 := a1) (nC := nC) (a2 := a2) (a3 := a3) (a4 := a4) (a5 := a5) (a6 := a6) (a7 := a7) (a8 := a8) (a9 := a9) (nS := nS) (a10 := a10) (nM := nM) (a11 := a11) (hz0 := H.size) ) rfl (hP 0 _ rfl) (gV mM_X6_66 mI_X6_no mS_X6_no mN_X6 mC_X6_no) (by decide +kernel) rfl rfl ⟨Nat.le_of_ble_eq_true rfl, Nat.le_of_ble_eq_true rfl⟩ hG hP9 hD9 rfl hl.1 rfl (Nat.le_of_ble_eq_true rfl) dX6_trackAt_16 ⟨Nat.le_of_ble_eq_true rfl, Nat.le_of_ble_eq_true rfl⟩) hP hD hS hA [0] [] rfl rfl (by decide) (by decide) (fun r16 u16 H locs h16 hP hD hS hz hfr => ?_)
  have hP : va_P D cls [oO mo 6 [.int 1, .ref a1, .int (nI nC), .ref a2, .ref a3, .ref a4, .ref a5, .ref a6, .ref a7, .ref a8, .ref a9, .int (nI nS), .ref a10, .int (nI nM), .ref a11]] H := hP
  have hD : va_D A [oO mo 6 [.int 1, .ref a1, .int (nI nC), .ref a2, .ref a3, .ref a4, .ref a5, .ref a6, .ref a7, .ref a8, .ref a9, .int (nI nS), .ref a10, .int (nI nM), .ref a11]] := hD
  obtain rfl : r16 = 0 := h16
  refine Wi () hx hb hr hlk ?_ hP hD hS (Nat.le_of_ble_eq_true rfl) (by first | exact Nat.le_of_ble_eq_true rfl | exact Nat.le_of_eq (Nat.zero_add _)) dX6_trackAt_19
  exact rfl
set_option maxHeartbeats 400000 in
set_option maxRecDepth 100000 in
theorem m_trackAt_1b (l : Launch) (D : va_G) {mo a1 a2 a3 a4 a5 a6 a7 a8 a9 a10 a11 nC nS nM : Nat} {th : Int32} {i : Nat} {y u0 : Int32} (hz0 : Nat) (hn : nC ≤ 6) (hi : i < nC) (hyy : ¬ ((0 : Int32) ≤ y ∧ y ≤ 3)) : Met l yX6_trackAt (ws_ yX6_trackAt cX6_trackAt 5 (some .int)) ({ frames := 4, cells := 0, slots := 0, locals := 101 } : Room) (va_Pc [.ref mo, .int (nI i), .int y, .int u0] (SW D [oO mo 6 [.int th, .ref a1, .int (nI nC), .ref a2, .ref a3, .ref a4, .ref a5, .ref a6, .ref a7, .ref a8, .ref a9, .int (nI nS), .ref a10, .int (nI nM), .ref a11]] hz0)) (va_Qi (fun v _ => v = 0) (AT D (va_A [oO mo 6 [.int th, .ref a1, .int (nI nC), .ref a2, .ref a3, .ref a4, .ref a5, .ref a6, .ref a7, .ref a8, .ref a9, .int (nI nS), .ref a10, .int (nI nM), .ref a11]] hz0) (fun _ : Unit => [oO mo 6 [.int 1, .ref a1, .int (nI nC), .ref a2, .ref a3, .ref a4, .ref a5, .ref a6, .ref a7, .ref a8, .ref a9, .int (nI nS), .ref a10, .int (nI nM), .ref a11]])) (va_A [oO mo 6 [.int th, .ref a1, .int (nI nC), .ref a2, .ref a3, .ref a4, .ref a5, .ref a6, .ref a7, .ref a8, .ref a9, .int (nI nS), .ref a10, .int (nI nM), .ref a11]] hz0)) 0 0 (va_A [oO mo 6 [.int th, .ref a1, .int (nI nC), .ref a2, .ref a3, .ref a4, .ref a5, .ref a6, .ref a7, .ref a8, .ref a9, .int (nI nS), .ref a10, .int (nI nM), .ref a11]] hz0) := by
  refine Met.ofW (cc := cX6_trackAt) (maxL := 5) (ret := (some .int)) (by decide) rfl ?_
  intro p e s m args below meth c s₁ B hml hv
  obtain ⟨rfl, hsz, hG, hP, hD0⟩ := hv
  have hx := B.exec
  have hb := B.bytes
  have hr := B.returns
  have hts : ∀ w ∈ wsL_law, w.before _ s = true := fun w h => atoms_spec (ws := (ws_ yX6_trackAt cX6_trackAt 5 (some .int))) B.pre w (List.mem_cons_of_mem _ h)
  have hown : s.vm.findClass RX6 = some m.cls := findClass_of_methodNamed B.named
  have hlk := B.notSynchronized
  have hC : CallFix p m c cX6_trackAt 5 s _ wsL_law RX6 := ⟨hx, hb, hml, hown, hts⟩
  subst hsz
  have hD := hD0.self (sz := s.heap.size)
  generalize hAe : va_A [oO mo 6 [.int th, .ref a1, .int (nI nC), .ref a2, .ref a3, .ref a4, .ref a5, .ref a6, .ref a7, .ref a8, .ref a9, .int (nI nS), .ref a10, .int (nI nM), .ref a11]] s.heap.size = A at hD ⊢
  have hA : ∀ q : Nat, s.heap.size ≤ q → A q := fun q h => by rw [← hAe]; exact Or.inr h
  have hS : va_S A s.heap s.heap [] := va_S.rf
  obtain ⟨H, hHe⟩ : ∃ H, H = s.heap := ⟨_, rfl⟩
  rw [← hHe] at hP
  have hS : va_S A s.heap H [] := by rw [hHe]; exact hS
  have hl := lv_entry ([.ref mo, .int (nI i), .int y, .int u0]) (n := 5) (Nat.le_of_ble_eq_true rfl)
  rw [lg_entry_eq]
  generalize (lg_sl ([.ref mo, .int (nI i), .int y, .int u0]) ++ List.replicate (5 - (lg_sl ([.ref mo, .int (nI i), .int y, .int u0])).length) Slot.unset).toArray = ls at hl ⊢
  have hl : lv_has ls 5 [(0, .ref mo), (1, .int (nI i)), (2, .int y), (3, .int u0)] := hl
  rw [← hHe]
  refine lv_aload_n hx hb dX6_trackAt_0 rfl (lv_at hl 0 rfl) ?_
  refine lv_iconst (v := 0) hx hb dX6_trackAt_1 (by decide) ?_
  refine va_put (D := D) (ci := 6) (v := .int 0) (ty := .int) (C := RX6) (T := TX6) (N := 15) hx hb hts inlX6 tyX6 tyX6_ok nmX6 hown hG.K hP hD hS 0 rfl rfl 0 (by decide) (hts _ mF_X6_43) (fun _ h9 => h9) rfl (by decide +kernel) rfl rfl (Nat.le_of_ble_eq_true rfl) dX6_trackAt_2 (fun H locs hP hD hS => ?_)
  have hP : va_P D cls [oO mo 6 [.int 0, .ref a1, .int (nI nC), .ref a2, .ref a3, .ref a4, .ref a5, .ref a6, .ref a7, .ref a8, .ref a9, .int (nI nS), .ref a10, .int (nI nM), .ref a11]] H := hP
  have hD : va_D A [oO mo 6 [.int 0, .ref a1, .int (nI nC), .ref a2, .ref a3, .ref a4, .ref a5, .ref a6, .ref a7, .ref a8, .ref a9, .int (nI nS), .ref a10, .int (nI nM), .ref a11]] := hD
  refine lv_aload_n hx hb dX6_trackAt_5 rfl (lv_at hl 0 rfl) ?_
  refine lv_iload_n hx hb dX6_trackAt_6 rfl (lv_at hl 1 rfl) ?_
  refine lv_iload_n hx hb dX6_trackAt_7 rfl (lv_at hl 2 rfl) ?_
  have hP9 := hP
  refine vp_callSi (pV (rest := []) (qc := (RX6, TX6, 15)) [.int (nI i), .int y] 2 hC (m_isTrack_no2 l D (mo := mo) (i := i) (y := y) (th := 0) (a1 := a1) (nC := nC) (a2 := a2) (a3 := a3) (a4 := a4) (a5 := a5) (a6 := a6) (a7 := a7) (a8 := a8) (a9 := a9) (nS := nS) (a10 := a10) (nM := nM) (a11 := a11) (by omega) (by omega) (hyy)) rfl (hP 0 _ rfl) (gV mM_X6_74 mI_X6_isTrack mS_X6_isTrack mN_X6 mC_X6_isTrack) (by decide +kernel) rfl rfl ⟨Nat.le_of_ble_eq_true rfl, Nat.le_of_ble_eq_true rfl⟩ hG hP9 rfl hl.1 rfl (Nat.le_of_ble_eq_true rfl) dX6_trackAt_8 ⟨Nat.le_of_ble_eq_true rfl, Nat.le_of_ble_eq_true rfl⟩) (fun r8 h8 => ?_)
  obtain rfl : r8 = 0 := h8
  refine lv_if_ne (tgt := 20) hx hb dX6_trackAt_11 (by decide) (fun h9 => (h9 (by decide)).elim) (fun _ => ?_)
  refine lv_aload_n hx hb dX6_trackAt_14 rfl (lv_at hl 0 rfl) ?_
  refine lv_iconst (v := 1) hx hb dX6_trackAt_15 (by decide) ?_
  have hP9 := hP.sub (ws' := [oO mo 6 [.int 0, .ref a1, .int (nI nC), .ref a2, .ref a3, .ref a4, .ref a5, .ref a6, .ref a7, .ref a8, .ref a9, .int (nI nS), .ref a10, .int (nI nM), .ref a11]]) [0] rfl
  have hD9 := (hD.sub (ws' := [oO mo 6 [.int 0, .ref a1, .int (nI nC), .ref a2, .ref a3, .ref a4, .ref a5, .ref a6, .ref a7, .ref a8, .ref a9, .int (nI nS), .ref a10, .int (nI nM), .ref a11]]) [0] (by decide) rfl).weaken (B := fun _ => True) (fun _ _ _ _ => trivial)
  refine ki (wr := []) (rV (rest := []) (qc := (RX6, TX6, 15)) [.int 1] 1 0 0 hC (m_no l D (mo := mo) (x := 1) (th := 0) (a1 := a1) (nC := nC) (a2 := a2) (a3 := a3) (a4 := a4) (a5 := a5) (a6 := a6) (a7 := a7) (a8 := a8) (a9 := a9) (nS := nS) (a10 := a10) (nM := nM) (a11 := a11) (hz0 := H.size) ) rfl (hP 0 _ rfl) (gV mM_X6_66 mI_X6_no mS_X6_no mN_X6 mC_X6_no) (by decide +kernel) rfl rfl ⟨Nat.le_of_ble_eq_true rfl, Nat.le_of_ble_eq_true rfl⟩ hG hP9 hD9 rfl hl.1 rfl (Nat.le_of_ble_eq_true rfl) dX6_trackAt_16 ⟨Nat.le_of_ble_eq_true rfl, Nat.le_of_ble_eq_true rfl⟩) hP hD hS hA [0] [] rfl rfl (by decide) (by decide) (fun r16 u16 H locs h16 hP hD hS hz hfr => ?_)
  have hP : va_P D cls [oO mo 6 [.int 1, .ref a1, .int (nI nC), .ref a2, .ref a3, .ref a4, .ref a5, .ref a6, .ref a7, .ref a8, .ref a9, .int (nI nS), .ref a10, .int (nI nM), .ref a11]] H := hP
  have hD : va_D A [oO mo 6 [.int 1, .ref a1, .int (nI nC), .ref a2, .ref a3, .ref a4, .ref a5, .ref a6, .ref a7, .ref a8, .ref a9, .int (nI nS), .ref a10, .int (nI nM), .ref a11]] := hD
  obtain rfl : r16 = 0 := h16
  refine Wi () hx hb hr hlk ?_ hP hD hS (Nat.le_of_ble_eq_true rfl) (by first | exact Nat.le_of_ble_eq_true rfl | exact Nat.le_of_eq (Nat.zero_add _)) dX6_trackAt_19
  exact rfl
set_option maxHeartbeats 400000 in
set_option maxRecDepth 100000 in
theorem m_trackAt_2 (l : Launch) (D : va_G) {mo a1 a2 a3 a4 a5 a6 a7 a8 a9 a10 a11 nC nS nM : Nat} {th : Int32} {ln : Nat → Int32} {i j : Nat} {u0 : Int32} (hz0 : Nat) (hn : nC ≤ 6) (hi : i < nC) (hj : j < 4) (h : ¬ (0 ≤ u0 ∧ u0 ≤ ln i)) : Met l yX6_trackAt (ws_ yX6_trackAt cX6_trackAt 5 (some .int)) ({ frames := 4, cells := 0, slots := 0, locals := 101 } : Room) (va_Pc [.ref mo, .int (nI i), .int (nI j), .int u0] (SW D [oO mo 6 [.int th, .ref a1, .int (nI nC), .ref a2, .ref a3, .ref a4, .ref a5, .ref a6, .ref a7, .ref a8, .ref a9, .int (nI nS), .ref a10, .int (nI nM), .ref a11], aI D a2 6 ln] hz0)) (va_Qi (fun v _ => v = 0) (AT D (va_A [oO mo 6 [.int th, .ref a1, .int (nI nC), .ref a2, .ref a3, .ref a4, .ref a5, .ref a6, .ref a7, .ref a8, .ref a9, .int (nI nS), .ref a10, .int (nI nM), .ref a11], aI D a2 6 ln] hz0) (fun _ : Unit => [oO mo 6 [.int 2, .ref a1, .int (nI nC), .ref a2, .ref a3, .ref a4, .ref a5, .ref a6, .ref a7, .ref a8, .ref a9, .int (nI nS), .ref a10, .int (nI nM), .ref a11], aI D a2 6 ln])) (va_A [oO mo 6 [.int th, .ref a1, .int (nI nC), .ref a2, .ref a3, .ref a4, .ref a5, .ref a6, .ref a7, .ref a8, .ref a9, .int (nI nS), .ref a10, .int (nI nM), .ref a11], aI D a2 6 ln] hz0)) 0 0 (va_A [oO mo 6 [.int th, .ref a1, .int (nI nC), .ref a2, .ref a3, .ref a4, .ref a5, .ref a6, .ref a7, .ref a8, .ref a9, .int (nI nS), .ref a10, .int (nI nM), .ref a11], aI D a2 6 ln] hz0) := by
  refine Met.ofW (cc := cX6_trackAt) (maxL := 5) (ret := (some .int)) (by decide) rfl ?_
  intro p e s m args below meth c s₁ B hml hv
  obtain ⟨rfl, hsz, hG, hP, hD0⟩ := hv
  have hx := B.exec
  have hb := B.bytes
  have hr := B.returns
  have hts : ∀ w ∈ wsL_law, w.before _ s = true := fun w h => atoms_spec (ws := (ws_ yX6_trackAt cX6_trackAt 5 (some .int))) B.pre w (List.mem_cons_of_mem _ h)
  have hown : s.vm.findClass RX6 = some m.cls := findClass_of_methodNamed B.named
  have hlk := B.notSynchronized
  have hC : CallFix p m c cX6_trackAt 5 s _ wsL_law RX6 := ⟨hx, hb, hml, hown, hts⟩
  subst hsz
  have hD := hD0.self (sz := s.heap.size)
  generalize hAe : va_A [oO mo 6 [.int th, .ref a1, .int (nI nC), .ref a2, .ref a3, .ref a4, .ref a5, .ref a6, .ref a7, .ref a8, .ref a9, .int (nI nS), .ref a10, .int (nI nM), .ref a11], aI D a2 6 ln] s.heap.size = A at hD ⊢
  have hA : ∀ q : Nat, s.heap.size ≤ q → A q := fun q h => by rw [← hAe]; exact Or.inr h
  have hS : va_S A s.heap s.heap [] := va_S.rf
  obtain ⟨H, hHe⟩ : ∃ H, H = s.heap := ⟨_, rfl⟩
  rw [← hHe] at hP
  have hS : va_S A s.heap H [] := by rw [hHe]; exact hS
  have hl := lv_entry ([.ref mo, .int (nI i), .int (nI j), .int u0]) (n := 5) (Nat.le_of_ble_eq_true rfl)
  rw [lg_entry_eq]
  generalize (lg_sl ([.ref mo, .int (nI i), .int (nI j), .int u0]) ++ List.replicate (5 - (lg_sl ([.ref mo, .int (nI i), .int (nI j), .int u0])).length) Slot.unset).toArray = ls at hl ⊢
  have hl : lv_has ls 5 [(0, .ref mo), (1, .int (nI i)), (2, .int (nI j)), (3, .int u0)] := hl
  rw [← hHe]
  refine lv_aload_n hx hb dX6_trackAt_0 rfl (lv_at hl 0 rfl) ?_
  refine lv_iconst (v := 0) hx hb dX6_trackAt_1 (by decide) ?_
  refine va_put (D := D) (ci := 6) (v := .int 0) (ty := .int) (C := RX6) (T := TX6) (N := 15) hx hb hts inlX6 tyX6 tyX6_ok nmX6 hown hG.K hP hD hS 0 rfl rfl 0 (by decide) (hts _ mF_X6_43) (fun _ h9 => h9) rfl (by decide +kernel) rfl rfl (Nat.le_of_ble_eq_true rfl) dX6_trackAt_2 (fun H locs hP hD hS => ?_)
  have hP : va_P D cls [oO mo 6 [.int 0, .ref a1, .int (nI nC), .ref a2, .ref a3, .ref a4, .ref a5, .ref a6, .ref a7, .ref a8, .ref a9, .int (nI nS), .ref a10, .int (nI nM), .ref a11], aI D a2 6 ln] H := hP
  have hD : va_D A [oO mo 6 [.int 0, .ref a1, .int (nI nC), .ref a2, .ref a3, .ref a4, .ref a5, .ref a6, .ref a7, .ref a8, .ref a9, .int (nI nS), .ref a10, .int (nI nM), .ref a11], aI D a2 6 ln] := hD
  refine lv_aload_n hx hb dX6_trackAt_5 rfl (lv_at hl 0 rfl) ?_
  refine lv_iload_n hx hb dX6_trackAt_6 rfl (lv_at hl 1 rfl) ?_
  refine lv_iload_n hx hb dX6_trackAt_7 rfl (lv_at hl 2 rfl) ?_
  have hP9 := hP.sub (ws' := [oO mo 6 [.int 0, .ref a1, .int (nI nC), .ref a2, .ref a3, .ref a4, .ref a5, .ref a6, .ref a7, .ref a8, .ref a9, .int (nI nS), .ref a10, .int (nI nM), .ref a11]]) [0] rfl
  refine vp_callSi (pV (rest := []) (qc := (RX6, TX6, 15)) [.int (nI i), .int (nI j)] 2 hC (m_isTrack l D (mo := mo) (i := i) (j := j) (th := 0) (a1 := a1) (nC := nC) (a2 := a2) (a3 := a3) (a4 := a4) (a5 := a5) (a6 := a6) (a7 := a7) (a8 := a8) (a9 := a9) (nS := nS) (a10 := a10) (nM := nM) (a11 := a11) (by omega) (by omega) (by omega)) rfl (hP 0 _ rfl) (gV mM_X6_74 mI_X6_isTrack mS_X6_isTrack mN_X6 mC_X6_isTrack) (by decide +kernel) rfl rfl ⟨Nat.le_of_ble_eq_true rfl, Nat.le_of_ble_eq_true rfl⟩ hG hP9 rfl hl.1 rfl (Nat.le_of_ble_eq_true rfl) dX6_trackAt_8 ⟨Nat.le_of_ble_eq_true rfl, Nat.le_of_ble_eq_true rfl⟩) (fun r8 h8 => ?_)
  obtain rfl : r8 = 1 := h8
  refine lv_if_ne (tgt := 20) hx hb dX6_trackAt_11 (by decide) (fun _ => ?_) (fun h9 => absurd h9 (by decide))
  refine lv_iload_n hx hb dX6_trackAt_20 rfl (lv_at hl 3 rfl) ?_
  refine lv_iconst (v := 0) hx hb dX6_trackAt_21 (by decide) ?_
  refine lv_aload_n hx hb dX6_trackAt_22 rfl (lv_at hl 0 rfl) ?_
  refine va_get (D := D) (ci := 6) (v := .ref a2) (C := RX6) (T := TX6) (N := 15) hx hb hts inlX6 hown hG.K hP 0 rfl rfl 3 (by decide) (hts _ mF_X6_13) (fun _ h9 => h9) rfl dX6_trackAt_23 ?_
  refine lv_iload_n hx hb dX6_trackAt_26 rfl (lv_at hl 1 rfl) ?_
  refine ild (n := 6) (j := i) hx hb hG hP 1 rfl (by omega) (by omega) dX6_trackAt_27 ?_
  have hP9 : va_P D cls [] H := fun k q h => by simp at h
  refine vp_callSi (pS (rest := []) [.int u0, .int 0, .int (ln i)] 3 hC (m_isIn l D (x := u0) (a := 0) (b := ln i) ) (gS mM_X6_50 mT_X6_isIn mN_X6 mC_X6_isIn) (by decide +kernel) rfl rfl ⟨Nat.le_of_ble_eq_true rfl, Nat.le_of_ble_eq_true rfl⟩ hG hP9 rfl hl.1 rfl (Nat.le_of_ble_eq_true rfl) dX6_trackAt_28 ⟨Nat.le_of_ble_eq_true rfl, Nat.le_of_ble_eq_true rfl⟩) (fun r28 h28 => ?_)
  rcases h28 with ⟨rfl, hb28⟩ | ⟨rfl, hb28⟩
  · exact absurd hb28 (h)
  refine lv_if_ne (tgt := 40) hx hb dX6_trackAt_31 (by decide) (fun h9 => (h9 (by decide)).elim) (fun _ => ?_)
  refine lv_aload_n hx hb dX6_trackAt_34 rfl (lv_at hl 0 rfl) ?_
  refine lv_iconst (v := 2) hx hb dX6_trackAt_35 (by decide) ?_
  have hP9 := hP.sub (ws' := [oO mo 6 [.int 0, .ref a1, .int (nI nC), .ref a2, .ref a3, .ref a4, .ref a5, .ref a6, .ref a7, .ref a8, .ref a9, .int (nI nS), .ref a10, .int (nI nM), .ref a11]]) [0] rfl
  have hD9 := (hD.sub (ws' := [oO mo 6 [.int 0, .ref a1, .int (nI nC), .ref a2, .ref a3, .ref a4, .ref a5, .ref a6, .ref a7, .ref a8, .ref a9, .int (nI nS), .ref a10, .int (nI nM), .ref a11]]) [0] (by decide) rfl).weaken (B := fun _ => True) (fun _ _ _ _ => trivial)
  refine ki (wr := [aI D a2 6 ln]) (rV (rest := []) (qc := (RX6, TX6, 15)) [.int 2] 1 0 0 hC (m_no l D (mo := mo) (x := 2) (th := 0) (a1 := a1) (nC := nC) (a2 := a2) (a3 := a3) (a4 := a4) (a5 := a5) (a6 := a6) (a7 := a7) (a8 := a8) (a9 := a9) (nS := nS) (a10 := a10) (nM := nM) (a11 := a11) (hz0 := H.size) ) rfl (hP 0 _ rfl) (gV mM_X6_66 mI_X6_no mS_X6_no mN_X6 mC_X6_no) (by decide +kernel) rfl rfl ⟨Nat.le_of_ble_eq_true rfl, Nat.le_of_ble_eq_true rfl⟩ hG hP9 hD9 rfl hl.1 rfl (Nat.le_of_ble_eq_true rfl) dX6_trackAt_36 ⟨Nat.le_of_ble_eq_true rfl, Nat.le_of_ble_eq_true rfl⟩) hP hD hS hA [0] [1] rfl rfl (by decide) (by decide) (fun r36 u36 H locs h36 hP hD hS hz hfr => ?_)
  have hP : va_P D cls [aI D a2 6 ln, oO mo 6 [.int 2, .ref a1, .int (nI nC), .ref a2, .ref a3, .ref a4, .ref a5, .ref a6, .ref a7, .ref a8, .ref a9, .int (nI nS), .ref a10, .int (nI nM), .ref a11]] H := hP
  have hD : va_D A [aI D a2 6 ln, oO mo 6 [.int 2, .ref a1, .int (nI nC), .ref a2, .ref a3, .ref a4, .ref a5, .ref a6, .ref a7, .ref a8, .ref a9, .int (nI nS), .ref a10, .int (nI nM), .ref a11]] := hD
  obtain rfl : r36 = 0 := h36
  refine Wi () hx hb hr hlk ?_ (hP.sub [1, 0] rfl) (hD.sub [1, 0] (by decide) rfl) hS (Nat.le_of_ble_eq_true rfl) (by first | exact Nat.le_of_ble_eq_true rfl | exact Nat.le_of_eq (Nat.zero_add _)) dX6_trackAt_39
  exact rfl
set_option maxHeartbeats 400000 in
set_option maxRecDepth 100000 in
theorem m_trackAt_3 (l : Launch) (D : va_G) {mo a1 a2 a3 a4 a5 a6 a7 a8 a9 a10 a11 nC nS nM : Nat} {th : Int32} {ln ks : Nat → Int32} {i j : Nat} {u0 : Int32} (hz0 : Nat) (hn : nC ≤ 6) (hi : i < nC) (hj : j < 4) (h : 0 ≤ u0 ∧ u0 ≤ ln i) (hks : ks (4 * i + j) = nI 0) : Met l yX6_trackAt (ws_ yX6_trackAt cX6_trackAt 5 (some .int)) ({ frames := 4, cells := 0, slots := 0, locals := 101 } : Room) (va_Pc [.ref mo, .int (nI i), .int (nI j), .int u0] (SW D [oO mo 6 [.int th, .ref a1, .int (nI nC), .ref a2, .ref a3, .ref a4, .ref a5, .ref a6, .ref a7, .ref a8, .ref a9, .int (nI nS), .ref a10, .int (nI nM), .ref a11], aI D a2 6 ln, aI D a3 24 ks] hz0)) (va_Qi (fun v _ => v = 0) (AT D (va_A [oO mo 6 [.int th, .ref a1, .int (nI nC), .ref a2, .ref a3, .ref a4, .ref a5, .ref a6, .ref a7, .ref a8, .ref a9, .int (nI nS), .ref a10, .int (nI nM), .ref a11], aI D a2 6 ln, aI D a3 24 ks] hz0) (fun _ : Unit => [oO mo 6 [.int 3, .ref a1, .int (nI nC), .ref a2, .ref a3, .ref a4, .ref a5, .ref a6, .ref a7, .ref a8, .ref a9, .int (nI nS), .ref a10, .int (nI nM), .ref a11], aI D a2 6 ln, aI D a3 24 ks])) (va_A [oO mo 6 [.int th, .ref a1, .int (nI nC), .ref a2, .ref a3, .ref a4, .ref a5, .ref a6, .ref a7, .ref a8, .ref a9, .int (nI nS), .ref a10, .int (nI nM), .ref a11], aI D a2 6 ln, aI D a3 24 ks] hz0)) 0 0 (va_A [oO mo 6 [.int th, .ref a1, .int (nI nC), .ref a2, .ref a3, .ref a4, .ref a5, .ref a6, .ref a7, .ref a8, .ref a9, .int (nI nS), .ref a10, .int (nI nM), .ref a11], aI D a2 6 ln, aI D a3 24 ks] hz0) := by
  refine Met.ofW (cc := cX6_trackAt) (maxL := 5) (ret := (some .int)) (by decide) rfl ?_
  intro p e s m args below meth c s₁ B hml hv
  obtain ⟨rfl, hsz, hG, hP, hD0⟩ := hv
  have hx := B.exec
  have hb := B.bytes
  have hr := B.returns
  have hts : ∀ w ∈ wsL_law, w.before _ s = true := fun w h => atoms_spec (ws := (ws_ yX6_trackAt cX6_trackAt 5 (some .int))) B.pre w (List.mem_cons_of_mem _ h)
  have hown : s.vm.findClass RX6 = some m.cls := findClass_of_methodNamed B.named
  have hlk := B.notSynchronized
  have hC : CallFix p m c cX6_trackAt 5 s _ wsL_law RX6 := ⟨hx, hb, hml, hown, hts⟩
  subst hsz
  have hD := hD0.self (sz := s.heap.size)
  generalize hAe : va_A [oO mo 6 [.int th, .ref a1, .int (nI nC), .ref a2, .ref a3, .ref a4, .ref a5, .ref a6, .ref a7, .ref a8, .ref a9, .int (nI nS), .ref a10, .int (nI nM), .ref a11], aI D a2 6 ln, aI D a3 24 ks] s.heap.size = A at hD ⊢
  have hA : ∀ q : Nat, s.heap.size ≤ q → A q := fun q h => by rw [← hAe]; exact Or.inr h
  have hS : va_S A s.heap s.heap [] := va_S.rf
  obtain ⟨H, hHe⟩ : ∃ H, H = s.heap := ⟨_, rfl⟩
  rw [← hHe] at hP
  have hS : va_S A s.heap H [] := by rw [hHe]; exact hS
  have hl := lv_entry ([.ref mo, .int (nI i), .int (nI j), .int u0]) (n := 5) (Nat.le_of_ble_eq_true rfl)
  rw [lg_entry_eq]
  generalize (lg_sl ([.ref mo, .int (nI i), .int (nI j), .int u0]) ++ List.replicate (5 - (lg_sl ([.ref mo, .int (nI i), .int (nI j), .int u0])).length) Slot.unset).toArray = ls at hl ⊢
  have hl : lv_has ls 5 [(0, .ref mo), (1, .int (nI i)), (2, .int (nI j)), (3, .int u0)] := hl
  rw [← hHe]
  refine lv_aload_n hx hb dX6_trackAt_0 rfl (lv_at hl 0 rfl) ?_
  refine lv_iconst (v := 0) hx hb dX6_trackAt_1 (by decide) ?_
  refine va_put (D := D) (ci := 6) (v := .int 0) (ty := .int) (C := RX6) (T := TX6) (N := 15) hx hb hts inlX6 tyX6 tyX6_ok nmX6 hown hG.K hP hD hS 0 rfl rfl 0 (by decide) (hts _ mF_X6_43) (fun _ h9 => h9) rfl (by decide +kernel) rfl rfl (Nat.le_of_ble_eq_true rfl) dX6_trackAt_2 (fun H locs hP hD hS => ?_)
  have hP : va_P D cls [oO mo 6 [.int 0, .ref a1, .int (nI nC), .ref a2, .ref a3, .ref a4, .ref a5, .ref a6, .ref a7, .ref a8, .ref a9, .int (nI nS), .ref a10, .int (nI nM), .ref a11], aI D a2 6 ln, aI D a3 24 ks] H := hP
  have hD : va_D A [oO mo 6 [.int 0, .ref a1, .int (nI nC), .ref a2, .ref a3, .ref a4, .ref a5, .ref a6, .ref a7, .ref a8, .ref a9, .int (nI nS), .ref a10, .int (nI nM), .ref a11], aI D a2 6 ln, aI D a3 24 ks] := hD
  refine lv_aload_n hx hb dX6_trackAt_5 rfl (lv_at hl 0 rfl) ?_
  refine lv_iload_n hx hb dX6_trackAt_6 rfl (lv_at hl 1 rfl) ?_
  refine lv_iload_n hx hb dX6_trackAt_7 rfl (lv_at hl 2 rfl) ?_
  have hP9 := hP.sub (ws' := [oO mo 6 [.int 0, .ref a1, .int (nI nC), .ref a2, .ref a3, .ref a4, .ref a5, .ref a6, .ref a7, .ref a8, .ref a9, .int (nI nS), .ref a10, .int (nI nM), .ref a11]]) [0] rfl
  refine vp_callSi (pV (rest := []) (qc := (RX6, TX6, 15)) [.int (nI i), .int (nI j)] 2 hC (m_isTrack l D (mo := mo) (i := i) (j := j) (th := 0) (a1 := a1) (nC := nC) (a2 := a2) (a3 := a3) (a4 := a4) (a5 := a5) (a6 := a6) (a7 := a7) (a8 := a8) (a9 := a9) (nS := nS) (a10 := a10) (nM := nM) (a11 := a11) (by omega) (by omega) (by omega)) rfl (hP 0 _ rfl) (gV mM_X6_74 mI_X6_isTrack mS_X6_isTrack mN_X6 mC_X6_isTrack) (by decide +kernel) rfl rfl ⟨Nat.le_of_ble_eq_true rfl, Nat.le_of_ble_eq_true rfl⟩ hG hP9 rfl hl.1 rfl (Nat.le_of_ble_eq_true rfl) dX6_trackAt_8 ⟨Nat.le_of_ble_eq_true rfl, Nat.le_of_ble_eq_true rfl⟩) (fun r8 h8 => ?_)
  obtain rfl : r8 = 1 := h8
  refine lv_if_ne (tgt := 20) hx hb dX6_trackAt_11 (by decide) (fun _ => ?_) (fun h9 => absurd h9 (by decide))
  refine lv_iload_n hx hb dX6_trackAt_20 rfl (lv_at hl 3 rfl) ?_
  refine lv_iconst (v := 0) hx hb dX6_trackAt_21 (by decide) ?_
  refine lv_aload_n hx hb dX6_trackAt_22 rfl (lv_at hl 0 rfl) ?_
  refine va_get (D := D) (ci := 6) (v := .ref a2) (C := RX6) (T := TX6) (N := 15) hx hb hts inlX6 hown hG.K hP 0 rfl rfl 3 (by decide) (hts _ mF_X6_13) (fun _ h9 => h9) rfl dX6_trackAt_23 ?_
  refine lv_iload_n hx hb dX6_trackAt_26 rfl (lv_at hl 1 rfl) ?_
  refine ild (n := 6) (j := i) hx hb hG hP 1 rfl (by omega) (by omega) dX6_trackAt_27 ?_
  have hP9 : va_P D cls [] H := fun k q h => by simp at h
  refine vp_callSi (pS (rest := []) [.int u0, .int 0, .int (ln i)] 3 hC (m_isIn l D (x := u0) (a := 0) (b := ln i) ) (gS mM_X6_50 mT_X6_isIn mN_X6 mC_X6_isIn) (by decide +kernel) rfl rfl ⟨Nat.le_of_ble_eq_true rfl, Nat.le_of_ble_eq_true rfl⟩ hG hP9 rfl hl.1 rfl (Nat.le_of_ble_eq_true rfl) dX6_trackAt_28 ⟨Nat.le_of_ble_eq_true rfl, Nat.le_of_ble_eq_true rfl⟩) (fun r28 h28 => ?_)
  rcases h28 with ⟨rfl, hb28⟩ | ⟨rfl, hb28⟩
  rotate_left
  · exact absurd (h) hb28
  refine lv_if_ne (tgt := 40) hx hb dX6_trackAt_31 (by decide) (fun _ => ?_) (fun h9 => absurd h9 (by decide))
  refine lv_iconst (v := 4) hx hb dX6_trackAt_40 (by decide) ?_
  refine lv_iload_n hx hb dX6_trackAt_41 rfl (lv_at hl 1 rfl) ?_
  refine lv_imul hx hb dX6_trackAt_42 ?_
  refine tpi (y := nI (4 * i)) (pk_mul 4 i) ?_
  refine lv_iload_n hx hb dX6_trackAt_43 rfl (lv_at hl 2 rfl) ?_
  refine lv_iadd hx hb dX6_trackAt_44 ?_
  refine tpi (y := nI ((4 * i) + j)) (nI_add (4 * i) j) ?_
  refine lv_istore (lv' := [(4, .int (nI ((4 * i) + j))), (0, .ref mo), (1, .int (nI i)), (2, .int (nI j)), (3, .int u0)]) hx hb dX6_trackAt_45 hl (by decide) rfl (fun ls hl => ?_)
  refine lv_aload_n hx hb dX6_trackAt_47 rfl (lv_at hl 1 rfl) ?_
  refine va_get (D := D) (ci := 6) (v := .ref a3) (C := RX6) (T := TX6) (N := 15) hx hb hts inlX6 hown hG.K hP 0 rfl rfl 4 (by decide) (hts _ mF_X6_16) (fun _ h9 => h9) rfl dX6_trackAt_48 ?_
  refine lv_iload hx hb dX6_trackAt_51 (lv_at hl 0 rfl) ?_
  refine ild (n := 24) (j := (4 * i) + j) hx hb hG hP 2 rfl (by omega) (by omega) dX6_trackAt_53 ?_
  refine tpi (y := nI 0) (hks) ?_
  refine lv_if_ne (tgt := 65) hx hb dX6_trackAt_54 (by decide) (fun h9 => (h9 (by decide)).elim) (fun _ => ?_)
  refine lv_aload_n hx hb dX6_trackAt_57 rfl (lv_at hl 1 rfl) ?_
  refine lv_iconst (v := 3) hx hb dX6_trackAt_58 (by decide) ?_
  have hP9 := hP.sub (ws' := [oO mo 6 [.int 0, .ref a1, .int (nI nC), .ref a2, .ref a3, .ref a4, .ref a5, .ref a6, .ref a7, .ref a8, .ref a9, .int (nI nS), .ref a10, .int (nI nM), .ref a11]]) [0] rfl
  have hD9 := (hD.sub (ws' := [oO mo 6 [.int 0, .ref a1, .int (nI nC), .ref a2, .ref a3, .ref a4, .ref a5, .ref a6, .ref a7, .ref a8, .ref a9, .int (nI nS), .ref a10, .int (nI nM), .ref a11]]) [0] (by decide) rfl).weaken (B := fun _ => True) (fun _ _ _ _ => trivial)
  refine ki (wr := [aI D a2 6 ln, aI D a3 24 ks]) (rV (rest := []) (qc := (RX6, TX6, 15)) [.int 3] 1 0 0 hC (m_no l D (mo := mo) (x := 3) (th := 0) (a1 := a1) (nC := nC) (a2 := a2) (a3 := a3) (a4 := a4) (a5 := a5) (a6 := a6) (a7 := a7) (a8 := a8) (a9 := a9) (nS := nS) (a10 := a10) (nM := nM) (a11 := a11) (hz0 := H.size) ) rfl (hP 0 _ rfl) (gV mM_X6_66 mI_X6_no mS_X6_no mN_X6 mC_X6_no) (by decide +kernel) rfl rfl ⟨Nat.le_of_ble_eq_true rfl, Nat.le_of_ble_eq_true rfl⟩ hG hP9 hD9 rfl hl.1 rfl (Nat.le_of_ble_eq_true rfl) dX6_trackAt_59 ⟨Nat.le_of_ble_eq_true rfl, Nat.le_of_ble_eq_true rfl⟩) hP hD hS hA [0] [1, 2] rfl rfl (by decide) (by decide) (fun r59 u59 H locs h59 hP hD hS hz hfr => ?_)
  have hP : va_P D cls [aI D a2 6 ln, aI D a3 24 ks, oO mo 6 [.int 3, .ref a1, .int (nI nC), .ref a2, .ref a3, .ref a4, .ref a5, .ref a6, .ref a7, .ref a8, .ref a9, .int (nI nS), .ref a10, .int (nI nM), .ref a11]] H := hP
  have hD : va_D A [aI D a2 6 ln, aI D a3 24 ks, oO mo 6 [.int 3, .ref a1, .int (nI nC), .ref a2, .ref a3, .ref a4, .ref a5, .ref a6, .ref a7, .ref a8, .ref a9, .int (nI nS), .ref a10, .int (nI nM), .ref a11]] := hD
  obtain rfl : r59 = 0 := h59
  refine lv_goto (tgt := 72) hx hb dX6_trackAt_62 (by decide) ?_
  refine Wi () hx hb hr hlk ?_ (hP.sub [2, 0, 1] rfl) (hD.sub [2, 0, 1] (by decide) rfl) hS (Nat.le_of_ble_eq_true rfl) (by first | exact Nat.le_of_ble_eq_true rfl | exact Nat.le_of_eq (Nat.zero_add _)) dX6_trackAt_72
  exact rfl
set_option maxHeartbeats 400000 in
set_option maxRecDepth 100000 in
theorem m_trackAt (l : Launch) (D : va_G) {mo a1 a2 a3 a4 a5 a6 a7 a8 a9 a10 a11 nC nS nM : Nat} {th : Int32} {ln ks tm wo ea ft fv fe : Nat → Int32} {i j : Nat} {n : Nat} {u0 : Int32} (hz0 : Nat) (hn : nC ≤ 6) (hi : i < nC) (hj : j < 4) (h : 0 ≤ u0 ∧ u0 ≤ ln i) (h0 : 0 < n) (h16 : n ≤ 16) (hks : ks (4 * i + j) = nI n) (htm : ∀ k, k < n → tm (16 * (4 * i + j) + k) = ft k) (hwo : ∀ k, k < n → wo (16 * (4 * i + j) + k) = fv k) (hea : ∀ k, k < n → ea (16 * (4 * i + j) + k) = fe k) (hT : tOK ft n) (hV : ∀ k, k < n → -10000 ≤ (fv k).toInt ∧ (fv k).toInt ≤ 10000) : Met l yX6_trackAt (ws_ yX6_trackAt cX6_trackAt 5 (some .int)) ({ frames := 4, cells := 0, slots := 0, locals := 101 } : Room) (va_Pc [.ref mo, .int (nI i), .int (nI j), .int u0] (SW D [oO mo 6 [.int th, .ref a1, .int (nI nC), .ref a2, .ref a3, .ref a4, .ref a5, .ref a6, .ref a7, .ref a8, .ref a9, .int (nI nS), .ref a10, .int (nI nM), .ref a11], aI D a2 6 ln, aI D a3 24 ks, aI D a4 384 tm, aI D a5 384 wo, aI D a6 384 ea] hz0)) (va_Qi (fun v _ => v = evT n ft fv fe u0) (AT D (va_A [oO mo 6 [.int th, .ref a1, .int (nI nC), .ref a2, .ref a3, .ref a4, .ref a5, .ref a6, .ref a7, .ref a8, .ref a9, .int (nI nS), .ref a10, .int (nI nM), .ref a11], aI D a2 6 ln, aI D a3 24 ks, aI D a4 384 tm, aI D a5 384 wo, aI D a6 384 ea] hz0) (fun _ : Unit => [oO mo 6 [.int 0, .ref a1, .int (nI nC), .ref a2, .ref a3, .ref a4, .ref a5, .ref a6, .ref a7, .ref a8, .ref a9, .int (nI nS), .ref a10, .int (nI nM), .ref a11], aI D a2 6 ln, aI D a3 24 ks, aI D a4 384 tm, aI D a5 384 wo, aI D a6 384 ea])) (va_A [oO mo 6 [.int th, .ref a1, .int (nI nC), .ref a2, .ref a3, .ref a4, .ref a5, .ref a6, .ref a7, .ref a8, .ref a9, .int (nI nS), .ref a10, .int (nI nM), .ref a11], aI D a2 6 ln, aI D a3 24 ks, aI D a4 384 tm, aI D a5 384 wo, aI D a6 384 ea] hz0)) 0 0 (va_A [oO mo 6 [.int th, .ref a1, .int (nI nC), .ref a2, .ref a3, .ref a4, .ref a5, .ref a6, .ref a7, .ref a8, .ref a9, .int (nI nS), .ref a10, .int (nI nM), .ref a11], aI D a2 6 ln, aI D a3 24 ks, aI D a4 384 tm, aI D a5 384 wo, aI D a6 384 ea] hz0) := by
  refine Met.ofW (cc := cX6_trackAt) (maxL := 5) (ret := (some .int)) (by decide) rfl ?_
  intro p e s m args below meth c s₁ B hml hv
  obtain ⟨rfl, hsz, hG, hP, hD0⟩ := hv
  have hx := B.exec
  have hb := B.bytes
  have hr := B.returns
  have hts : ∀ w ∈ wsL_law, w.before _ s = true := fun w h => atoms_spec (ws := (ws_ yX6_trackAt cX6_trackAt 5 (some .int))) B.pre w (List.mem_cons_of_mem _ h)
  have hown : s.vm.findClass RX6 = some m.cls := findClass_of_methodNamed B.named
  have hlk := B.notSynchronized
  have hC : CallFix p m c cX6_trackAt 5 s _ wsL_law RX6 := ⟨hx, hb, hml, hown, hts⟩
  subst hsz
  have hD := hD0.self (sz := s.heap.size)
  generalize hAe : va_A [oO mo 6 [.int th, .ref a1, .int (nI nC), .ref a2, .ref a3, .ref a4, .ref a5, .ref a6, .ref a7, .ref a8, .ref a9, .int (nI nS), .ref a10, .int (nI nM), .ref a11], aI D a2 6 ln, aI D a3 24 ks, aI D a4 384 tm, aI D a5 384 wo, aI D a6 384 ea] s.heap.size = A at hD ⊢
  have hA : ∀ q : Nat, s.heap.size ≤ q → A q := fun q h => by rw [← hAe]; exact Or.inr h
  have hS : va_S A s.heap s.heap [] := va_S.rf
  obtain ⟨H, hHe⟩ : ∃ H, H = s.heap := ⟨_, rfl⟩
  rw [← hHe] at hP
  have hS : va_S A s.heap H [] := by rw [hHe]; exact hS
  have hl := lv_entry ([.ref mo, .int (nI i), .int (nI j), .int u0]) (n := 5) (Nat.le_of_ble_eq_true rfl)
  rw [lg_entry_eq]
  generalize (lg_sl ([.ref mo, .int (nI i), .int (nI j), .int u0]) ++ List.replicate (5 - (lg_sl ([.ref mo, .int (nI i), .int (nI j), .int u0])).length) Slot.unset).toArray = ls at hl ⊢
  have hl : lv_has ls 5 [(0, .ref mo), (1, .int (nI i)), (2, .int (nI j)), (3, .int u0)] := hl
  rw [← hHe]
  refine lv_aload_n hx hb dX6_trackAt_0 rfl (lv_at hl 0 rfl) ?_
  refine lv_iconst (v := 0) hx hb dX6_trackAt_1 (by decide) ?_
  refine va_put (D := D) (ci := 6) (v := .int 0) (ty := .int) (C := RX6) (T := TX6) (N := 15) hx hb hts inlX6 tyX6 tyX6_ok nmX6 hown hG.K hP hD hS 0 rfl rfl 0 (by decide) (hts _ mF_X6_43) (fun _ h9 => h9) rfl (by decide +kernel) rfl rfl (Nat.le_of_ble_eq_true rfl) dX6_trackAt_2 (fun H locs hP hD hS => ?_)
  have hP : va_P D cls [oO mo 6 [.int 0, .ref a1, .int (nI nC), .ref a2, .ref a3, .ref a4, .ref a5, .ref a6, .ref a7, .ref a8, .ref a9, .int (nI nS), .ref a10, .int (nI nM), .ref a11], aI D a2 6 ln, aI D a3 24 ks, aI D a4 384 tm, aI D a5 384 wo, aI D a6 384 ea] H := hP
  have hD : va_D A [oO mo 6 [.int 0, .ref a1, .int (nI nC), .ref a2, .ref a3, .ref a4, .ref a5, .ref a6, .ref a7, .ref a8, .ref a9, .int (nI nS), .ref a10, .int (nI nM), .ref a11], aI D a2 6 ln, aI D a3 24 ks, aI D a4 384 tm, aI D a5 384 wo, aI D a6 384 ea] := hD
  refine lv_aload_n hx hb dX6_trackAt_5 rfl (lv_at hl 0 rfl) ?_
  refine lv_iload_n hx hb dX6_trackAt_6 rfl (lv_at hl 1 rfl) ?_
  refine lv_iload_n hx hb dX6_trackAt_7 rfl (lv_at hl 2 rfl) ?_
  have hP9 := hP.sub (ws' := [oO mo 6 [.int 0, .ref a1, .int (nI nC), .ref a2, .ref a3, .ref a4, .ref a5, .ref a6, .ref a7, .ref a8, .ref a9, .int (nI nS), .ref a10, .int (nI nM), .ref a11]]) [0] rfl
  refine vp_callSi (pV (rest := []) (qc := (RX6, TX6, 15)) [.int (nI i), .int (nI j)] 2 hC (m_isTrack l D (mo := mo) (i := i) (j := j) (th := 0) (a1 := a1) (nC := nC) (a2 := a2) (a3 := a3) (a4 := a4) (a5 := a5) (a6 := a6) (a7 := a7) (a8 := a8) (a9 := a9) (nS := nS) (a10 := a10) (nM := nM) (a11 := a11) (by omega) (by omega) (by omega)) rfl (hP 0 _ rfl) (gV mM_X6_74 mI_X6_isTrack mS_X6_isTrack mN_X6 mC_X6_isTrack) (by decide +kernel) rfl rfl ⟨Nat.le_of_ble_eq_true rfl, Nat.le_of_ble_eq_true rfl⟩ hG hP9 rfl hl.1 rfl (Nat.le_of_ble_eq_true rfl) dX6_trackAt_8 ⟨Nat.le_of_ble_eq_true rfl, Nat.le_of_ble_eq_true rfl⟩) (fun r8 h8 => ?_)
  obtain rfl : r8 = 1 := h8
  refine lv_if_ne (tgt := 20) hx hb dX6_trackAt_11 (by decide) (fun _ => ?_) (fun h9 => absurd h9 (by decide))
  refine lv_iload_n hx hb dX6_trackAt_20 rfl (lv_at hl 3 rfl) ?_
  refine lv_iconst (v := 0) hx hb dX6_trackAt_21 (by decide) ?_
  refine lv_aload_n hx hb dX6_trackAt_22 rfl (lv_at hl 0 rfl) ?_
  refine va_get (D := D) (ci := 6) (v := .ref a2) (C := RX6) (T := TX6) (N := 15) hx hb hts inlX6 hown hG.K hP 0 rfl rfl 3 (by decide) (hts _ mF_X6_13) (fun _ h9 => h9) rfl dX6_trackAt_23 ?_
  refine lv_iload_n hx hb dX6_trackAt_26 rfl (lv_at hl 1 rfl) ?_
  refine ild (n := 6) (j := i) hx hb hG hP 1 rfl (by omega) (by omega) dX6_trackAt_27 ?_
  have hP9 : va_P D cls [] H := fun k q h => by simp at h
  refine vp_callSi (pS (rest := []) [.int u0, .int 0, .int (ln i)] 3 hC (m_isIn l D (x := u0) (a := 0) (b := ln i) ) (gS mM_X6_50 mT_X6_isIn mN_X6 mC_X6_isIn) (by decide +kernel) rfl rfl ⟨Nat.le_of_ble_eq_true rfl, Nat.le_of_ble_eq_true rfl⟩ hG hP9 rfl hl.1 rfl (Nat.le_of_ble_eq_true rfl) dX6_trackAt_28 ⟨Nat.le_of_ble_eq_true rfl, Nat.le_of_ble_eq_true rfl⟩) (fun r28 h28 => ?_)
  rcases h28 with ⟨rfl, hb28⟩ | ⟨rfl, hb28⟩
  rotate_left
  · exact absurd (h) hb28
  refine lv_if_ne (tgt := 40) hx hb dX6_trackAt_31 (by decide) (fun _ => ?_) (fun h9 => absurd h9 (by decide))
  refine lv_iconst (v := 4) hx hb dX6_trackAt_40 (by decide) ?_
  refine lv_iload_n hx hb dX6_trackAt_41 rfl (lv_at hl 1 rfl) ?_
  refine lv_imul hx hb dX6_trackAt_42 ?_
  refine tpi (y := nI (4 * i)) (pk_mul 4 i) ?_
  refine lv_iload_n hx hb dX6_trackAt_43 rfl (lv_at hl 2 rfl) ?_
  refine lv_iadd hx hb dX6_trackAt_44 ?_
  refine tpi (y := nI ((4 * i) + j)) (nI_add (4 * i) j) ?_
  refine lv_istore (lv' := [(4, .int (nI ((4 * i) + j))), (0, .ref mo), (1, .int (nI i)), (2, .int (nI j)), (3, .int u0)]) hx hb dX6_trackAt_45 hl (by decide) rfl (fun ls hl => ?_)
  refine lv_aload_n hx hb dX6_trackAt_47 rfl (lv_at hl 1 rfl) ?_
  refine va_get (D := D) (ci := 6) (v := .ref a3) (C := RX6) (T := TX6) (N := 15) hx hb hts inlX6 hown hG.K hP 0 rfl rfl 4 (by decide) (hts _ mF_X6_16) (fun _ h9 => h9) rfl dX6_trackAt_48 ?_
  refine lv_iload hx hb dX6_trackAt_51 (lv_at hl 0 rfl) ?_
  refine ild (n := 24) (j := (4 * i) + j) hx hb hG hP 2 rfl (by omega) (by omega) dX6_trackAt_53 ?_
  refine tpi (y := nI n) (hks) ?_
  refine lv_if_ne (tgt := 65) hx hb dX6_trackAt_54 (by decide) (fun _ => ?_) (fun h9 => absurd ((nI_eq (a := n) (b := 0) (by omega) (by omega)).mp h9) (by omega))
  refine lv_aload_n hx hb dX6_trackAt_65 rfl (lv_at hl 1 rfl) ?_
  refine lv_iload hx hb dX6_trackAt_66 (lv_at hl 0 rfl) ?_
  refine lv_iload_n hx hb dX6_trackAt_68 rfl (lv_at hl 4 rfl) ?_
  have hP9 := hP.sub (ws' := [oO mo 6 [.int 0, .ref a1, .int (nI nC), .ref a2, .ref a3, .ref a4, .ref a5, .ref a6, .ref a7, .ref a8, .ref a9, .int (nI nS), .ref a10, .int (nI nM), .ref a11], aI D a3 24 ks, aI D a4 384 tm, aI D a5 384 wo, aI D a6 384 ea]) [0, 2, 3, 4, 5] rfl
  refine vp_callSi (pV (rest := []) (qc := (RX6, TX6, 15)) [.int (nI ((4 * i) + j)), .int u0] 2 hC (m_worth l D (n := n) (ft := ft) (fv := fv) (fe := fe) (mo := mo) (k0 := (4 * i) + j) (x := u0) (th := 0) (a1 := a1) (nC := nC) (a2 := a2) (a3 := a3) (a4 := a4) (a5 := a5) (a6 := a6) (a7 := a7) (a8 := a8) (a9 := a9) (nS := nS) (a10 := a10) (nM := nM) (a11 := a11) (ks := ks) (tm := tm) (wo := wo) (ea := ea) (by omega) (h0) (h16) (hks) (htm) (hwo) (hea) (hT) (hV)) rfl (hP 0 _ rfl) (gV mM_X6_99 mI_X6_worth mS_X6_worth mN_X6 mC_X6_worth) (by decide +kernel) rfl rfl ⟨Nat.le_of_ble_eq_true rfl, Nat.le_of_ble_eq_true rfl⟩ hG hP9 rfl hl.1 rfl (Nat.le_of_ble_eq_true rfl) dX6_trackAt_69 ⟨Nat.le_of_ble_eq_true rfl, Nat.le_of_ble_eq_true rfl⟩) (fun r69 h69 => ?_)
  obtain rfl : r69 = (evT n ft fv fe u0) := h69
  refine Wi () hx hb hr hlk ?_ hP hD hS (Nat.le_of_ble_eq_true rfl) (by first | exact Nat.le_of_ble_eq_true rfl | exact Nat.le_of_eq (Nat.zero_add _)) dX6_trackAt_72
  exact rfl
