set_option maxHeartbeats 400000 in
set_option maxRecDepth 100000 in
theorem m_at_1 (l : Launch) (D : va_G) {mo a1 a2 a3 a4 a5 a6 a7 a8 a9 a10 a11 nC nS nM : Nat} {th : Int32} {p1 x : Int32} (hz0 : Nat) (h : ¬ ((0 : Int32) ≤ p1 ∧ p1 ≤ 3)) : Met l yX6_at (ws_ yX6_at cX6_at 3 (some .int)) ({ frames := 6, cells := 0, slots := 0, locals := 141 } : Room) (va_Pc [.ref mo, .int p1, .int x] (SW D [oO mo 6 [.int th, .ref a1, .int (nI nC), .ref a2, .ref a3, .ref a4, .ref a5, .ref a6, .ref a7, .ref a8, .ref a9, .int (nI nS), .ref a10, .int (nI nM), .ref a11]] hz0)) (va_Qi (fun v _ => v = 0) (AT D (va_A [oO mo 6 [.int th, .ref a1, .int (nI nC), .ref a2, .ref a3, .ref a4, .ref a5, .ref a6, .ref a7, .ref a8, .ref a9, .int (nI nS), .ref a10, .int (nI nM), .ref a11]] hz0) (fun _ : Unit => [oO mo 6 [.int 1, .ref a1, .int (nI nC), .ref a2, .ref a3, .ref a4, .ref a5, .ref a6, .ref a7, .ref a8, .ref a9, .int (nI nS), .ref a10, .int (nI nM), .ref a11]])) (va_A [oO mo 6 [.int th, .ref a1, .int (nI nC), .ref a2, .ref a3, .ref a4, .ref a5, .ref a6, .ref a7, .ref a8, .ref a9, .int (nI nS), .ref a10, .int (nI nM), .ref a11]] hz0)) 0 0 (va_A [oO mo 6 [.int th, .ref a1, .int (nI nC), .ref a2, .ref a3, .ref a4, .ref a5, .ref a6, .ref a7, .ref a8, .ref a9, .int (nI nS), .ref a10, .int (nI nM), .ref a11]] hz0) := by
  refine Met.ofW (cc := cX6_at) (maxL := 3) (ret := (some .int)) (by decide) rfl ?_
  intro p e s m args below meth c s₁ B hml hv
  obtain ⟨rfl, hsz, hG, hP, hD0⟩ := hv
  have hx := B.exec
  have hb := B.bytes
  have hr := B.returns
  have hts : ∀ w ∈ wsL_law, w.before _ s = true := fun w h => atoms_spec (ws := (ws_ yX6_at cX6_at 3 (some .int))) B.pre w (List.mem_cons_of_mem _ h)
  have hown : s.vm.findClass RX6 = some m.cls := findClass_of_methodNamed B.named
  have hlk := B.notSynchronized
  have hC : CallFix p m c cX6_at 3 s _ wsL_law RX6 := ⟨hx, hb, hml, hown, hts⟩
  subst hsz
  have hD := hD0.self (sz := s.heap.size)
  generalize hAe : va_A [oO mo 6 [.int th, .ref a1, .int (nI nC), .ref a2, .ref a3, .ref a4, .ref a5, .ref a6, .ref a7, .ref a8, .ref a9, .int (nI nS), .ref a10, .int (nI nM), .ref a11]] s.heap.size = A at hD ⊢
  have hA : ∀ q : Nat, s.heap.size ≤ q → A q := fun q h => by rw [← hAe]; exact Or.inr h
  have hS : va_S A s.heap s.heap [] := va_S.rf
  obtain ⟨H, hHe⟩ : ∃ H, H = s.heap := ⟨_, rfl⟩
  rw [← hHe] at hP
  have hS : va_S A s.heap H [] := by rw [hHe]; exact hS
  have hl := lv_entry ([.ref mo, .int p1, .int x]) (n := 3) (Nat.le_of_ble_eq_true rfl)
  rw [lg_entry_eq]
  generalize (lg_sl ([.ref mo, .int p1, .int x]) ++ List.replicate (3 - (lg_sl ([.ref mo, .int p1, .int x])).length) Slot.unset).toArray = ls at hl ⊢
  have hl : lv_has ls 3 [(0, .ref mo), (1, .int p1), (2, .int x)] := hl
  rw [← hHe]
  refine lv_aload_n hx hb dX6_at_0 rfl (lv_at hl 0 rfl) ?_
  refine lv_iconst (v := 0) hx hb dX6_at_1 (by decide) ?_
  refine va_put (D := D) (ci := 6) (v := .int 0) (ty := .int) (C := RX6) (T := TX6) (N := 15) hx hb hts inlX6 tyX6 tyX6_ok nmX6 hown hG.K hP hD hS 0 rfl rfl 0 (by decide) (hts _ mF_X6_43) (fun _ h9 => h9) rfl (by decide +kernel) rfl rfl (Nat.le_of_ble_eq_true rfl) dX6_at_2 (fun H locs hP hD hS => ?_)
  have hP : va_P D cls [oO mo 6 [.int 0, .ref a1, .int (nI nC), .ref a2, .ref a3, .ref a4, .ref a5, .ref a6, .ref a7, .ref a8, .ref a9, .int (nI nS), .ref a10, .int (nI nM), .ref a11]] H := hP
  have hD : va_D A [oO mo 6 [.int 0, .ref a1, .int (nI nC), .ref a2, .ref a3, .ref a4, .ref a5, .ref a6, .ref a7, .ref a8, .ref a9, .int (nI nS), .ref a10, .int (nI nM), .ref a11]] := hD
  refine lv_iload_n hx hb dX6_at_5 rfl (lv_at hl 1 rfl) ?_
  refine lv_iconst (v := 0) hx hb dX6_at_6 (by decide) ?_
  refine lv_iconst (v := 3) hx hb dX6_at_7 (by decide) ?_
  have hP9 : va_P D cls [] H := fun k q h => by simp at h
  refine vp_callSi (pS (rest := []) [.int p1, .int 0, .int 3] 3 hC (m_isIn l D (x := p1) (a := 0) (b := 3) ) (gS mM_X6_50 mT_X6_isIn mN_X6 mC_X6_isIn) (by decide +kernel) rfl rfl ⟨Nat.le_of_ble_eq_true rfl, Nat.le_of_ble_eq_true rfl⟩ hG hP9 rfl hl.1 rfl (Nat.le_of_ble_eq_true rfl) dX6_at_8 ⟨Nat.le_of_ble_eq_true rfl, Nat.le_of_ble_eq_true rfl⟩) (fun r8 h8 => ?_)
  rcases h8 with ⟨rfl, hb8⟩ | ⟨rfl, hb8⟩
  · exact absurd hb8 (h)
  refine lv_if_ne (tgt := 20) hx hb dX6_at_11 (by decide) (fun h9 => (h9 (by decide)).elim) (fun _ => ?_)
  refine lv_aload_n hx hb dX6_at_14 rfl (lv_at hl 0 rfl) ?_
  refine lv_iconst (v := 1) hx hb dX6_at_15 (by decide) ?_
  have hP9 := hP.sub (ws' := [oO mo 6 [.int 0, .ref a1, .int (nI nC), .ref a2, .ref a3, .ref a4, .ref a5, .ref a6, .ref a7, .ref a8, .ref a9, .int (nI nS), .ref a10, .int (nI nM), .ref a11]]) [0] rfl
  have hD9 := (hD.sub (ws' := [oO mo 6 [.int 0, .ref a1, .int (nI nC), .ref a2, .ref a3, .ref a4, .ref a5, .ref a6, .ref a7, .ref a8, .ref a9, .int (nI nS), .ref a10, .int (nI nM), .ref a11]]) [0] (by decide) rfl).weaken (B := fun _ => True) (fun _ _ _ _ => trivial)
  refine ki (wr := []) (rV (rest := []) (qc := (RX6, TX6, 15)) [.int 1] 1 0 0 hC (m_no l D (mo := mo) (x := 1) (th := 0) (a1 := a1) (nC := nC) (a2 := a2) (a3 := a3) (a4 := a4) (a5 := a5) (a6 := a6) (a7 := a7) (a8 := a8) (a9 := a9) (nS := nS) (a10 := a10) (nM := nM) (a11 := a11) (hz0 := H.size) ) rfl (hP 0 _ rfl) (gV mM_X6_66 mI_X6_no mS_X6_no mN_X6 mC_X6_no) (by decide +kernel) rfl rfl ⟨Nat.le_of_ble_eq_true rfl, Nat.le_of_ble_eq_true rfl⟩ hG hP9 hD9 rfl hl.1 rfl (Nat.le_of_ble_eq_true rfl) dX6_at_16 ⟨Nat.le_of_ble_eq_true rfl, Nat.le_of_ble_eq_true rfl⟩) hP hD hS hA [0] [] rfl rfl (by decide) (by decide) (fun r16 u16 H locs h16 hP hD hS hz hfr => ?_)
  have hP : va_P D cls [oO mo 6 [.int 1, .ref a1, .int (nI nC), .ref a2, .ref a3, .ref a4, .ref a5, .ref a6, .ref a7, .ref a8, .ref a9, .int (nI nS), .ref a10, .int (nI nM), .ref a11]] H := hP
  have hD : va_D A [oO mo 6 [.int 1, .ref a1, .int (nI nC), .ref a2, .ref a3, .ref a4, .ref a5, .ref a6, .ref a7, .ref a8, .ref a9, .int (nI nS), .ref a10, .int (nI nM), .ref a11]] := hD
  obtain rfl : r16 = 0 := h16
  refine Wi () hx hb hr hlk ?_ hP hD hS (Nat.le_of_ble_eq_true rfl) (by first | exact Nat.le_of_ble_eq_true rfl | exact Nat.le_of_eq (Nat.zero_add _)) dX6_at_19
  exact rfl
set_option maxHeartbeats 400000 in
set_option maxRecDepth 100000 in
theorem m_at_2 (l : Launch) (D : va_G) {mo a1 a2 a3 a4 a5 a6 a7 a8 a9 a10 a11 nC nS nM : Nat} {th : Int32} {p1 x : Int32} (hz0 : Nat) (h : (0 : Int32) ≤ p1 ∧ p1 ≤ 3) (hh : ¬ ((0 : Int32) ≤ x ∧ x ≤ 100000)) : Met l yX6_at (ws_ yX6_at cX6_at 3 (some .int)) ({ frames := 6, cells := 0, slots := 0, locals := 141 } : Room) (va_Pc [.ref mo, .int p1, .int x] (SW D [oO mo 6 [.int th, .ref a1, .int (nI nC), .ref a2, .ref a3, .ref a4, .ref a5, .ref a6, .ref a7, .ref a8, .ref a9, .int (nI nS), .ref a10, .int (nI nM), .ref a11]] hz0)) (va_Qi (fun v _ => v = 0) (AT D (va_A [oO mo 6 [.int th, .ref a1, .int (nI nC), .ref a2, .ref a3, .ref a4, .ref a5, .ref a6, .ref a7, .ref a8, .ref a9, .int (nI nS), .ref a10, .int (nI nM), .ref a11]] hz0) (fun _ : Unit => [oO mo 6 [.int 2, .ref a1, .int (nI nC), .ref a2, .ref a3, .ref a4, .ref a5, .ref a6, .ref a7, .ref a8, .ref a9, .int (nI nS), .ref a10, .int (nI nM), .ref a11]])) (va_A [oO mo 6 [.int th, .ref a1, .int (nI nC), .ref a2, .ref a3, .ref a4, .ref a5, .ref a6, .ref a7, .ref a8, .ref a9, .int (nI nS), .ref a10, .int (nI nM), .ref a11]] hz0)) 0 0 (va_A [oO mo 6 [.int th, .ref a1, .int (nI nC), .ref a2, .ref a3, .ref a4, .ref a5, .ref a6, .ref a7, .ref a8, .ref a9, .int (nI nS), .ref a10, .int (nI nM), .ref a11]] hz0) := by
  refine Met.ofW (cc := cX6_at) (maxL := 3) (ret := (some .int)) (by decide) rfl ?_
  intro p e s m args below meth c s₁ B hml hv
  obtain ⟨rfl, hsz, hG, hP, hD0⟩ := hv
  have hx := B.exec
  have hb := B.bytes
  have hr := B.returns
  have hts : ∀ w ∈ wsL_law, w.before _ s = true := fun w h => atoms_spec (ws := (ws_ yX6_at cX6_at 3 (some .int))) B.pre w (List.mem_cons_of_mem _ h)
  have hown : s.vm.findClass RX6 = some m.cls := findClass_of_methodNamed B.named
  have hlk := B.notSynchronized
  have hC : CallFix p m c cX6_at 3 s _ wsL_law RX6 := ⟨hx, hb, hml, hown, hts⟩
  subst hsz
  have hD := hD0.self (sz := s.heap.size)
  generalize hAe : va_A [oO mo 6 [.int th, .ref a1, .int (nI nC), .ref a2, .ref a3, .ref a4, .ref a5, .ref a6, .ref a7, .ref a8, .ref a9, .int (nI nS), .ref a10, .int (nI nM), .ref a11]] s.heap.size = A at hD ⊢
  have hA : ∀ q : Nat, s.heap.size ≤ q → A q := fun q h => by rw [← hAe]; exact Or.inr h
  have hS : va_S A s.heap s.heap [] := va_S.rf
  obtain ⟨H, hHe⟩ : ∃ H, H = s.heap := ⟨_, rfl⟩
  rw [← hHe] at hP
  have hS : va_S A s.heap H [] := by rw [hHe]; exact hS
  have hl := lv_entry ([.ref mo, .int p1, .int x]) (n := 3) (Nat.le_of_ble_eq_true rfl)
  rw [lg_entry_eq]
  generalize (lg_sl ([.ref mo, .int p1, .int x]) ++ List.replicate (3 - (lg_sl ([.ref mo, .int p1, .int x])).length) Slot.unset).toArray = ls at hl ⊢
  have hl : lv_has ls 3 [(0, .ref mo), (1, .int p1), (2, .int x)] := hl
  rw [← hHe]
  refine lv_aload_n hx hb dX6_at_0 rfl (lv_at hl 0 rfl) ?_
  refine lv_iconst (v := 0) hx hb dX6_at_1 (by decide) ?_
  refine va_put (D := D) (ci := 6) (v := .int 0) (ty := .int) (C := RX6) (T := TX6) (N := 15) hx hb hts inlX6 tyX6 tyX6_ok nmX6 hown hG.K hP hD hS 0 rfl rfl 0 (by decide) (hts _ mF_X6_43) (fun _ h9 => h9) rfl (by decide +kernel) rfl rfl (Nat.le_of_ble_eq_true rfl) dX6_at_2 (fun H locs hP hD hS => ?_)
  have hP : va_P D cls [oO mo 6 [.int 0, .ref a1, .int (nI nC), .ref a2, .ref a3, .ref a4, .ref a5, .ref a6, .ref a7, .ref a8, .ref a9, .int (nI nS), .ref a10, .int (nI nM), .ref a11]] H := hP
  have hD : va_D A [oO mo 6 [.int 0, .ref a1, .int (nI nC), .ref a2, .ref a3, .ref a4, .ref a5, .ref a6, .ref a7, .ref a8, .ref a9, .int (nI nS), .ref a10, .int (nI nM), .ref a11]] := hD
  refine lv_iload_n hx hb dX6_at_5 rfl (lv_at hl 1 rfl) ?_
  refine lv_iconst (v := 0) hx hb dX6_at_6 (by decide) ?_
  refine lv_iconst (v := 3) hx hb dX6_at_7 (by decide) ?_
  have hP9 : va_P D cls [] H := fun k q h => by simp at h
  refine vp_callSi (pS (rest := []) [.int p1, .int 0, .int 3] 3 hC (m_isIn l D (x := p1) (a := 0) (b := 3) ) (gS mM_X6_50 mT_X6_isIn mN_X6 mC_X6_isIn) (by decide +kernel) rfl rfl ⟨Nat.le_of_ble_eq_true rfl, Nat.le_of_ble_eq_true rfl⟩ hG hP9 rfl hl.1 rfl (Nat.le_of_ble_eq_true rfl) dX6_at_8 ⟨Nat.le_of_ble_eq_true rfl, Nat.le_of_ble_eq_true rfl⟩) (fun r8 h8 => ?_)
  rcases h8 with ⟨rfl, hb8⟩ | ⟨rfl, hb8⟩
  rotate_left
  · exact absurd (h) hb8
  refine lv_if_ne (tgt := 20) hx hb dX6_at_11 (by decide) (fun _ => ?_) (fun h9 => absurd h9 (by decide))
  refine lv_iload_n hx hb dX6_at_20 rfl (lv_at hl 2 rfl) ?_
  refine lv_iconst (v := 0) hx hb dX6_at_21 (by decide) ?_
  refine lv_ldc hx hb hown (hts _ mG_X6_146) dX6_at_22 ?_
  have hP9 : va_P D cls [] H := fun k q h => by simp at h
  refine vp_callSi (pS (rest := []) [.int x, .int 0, .int 100000] 3 hC (m_isIn l D (x := x) (a := 0) (b := 100000) ) (gS mM_X6_50 mT_X6_isIn mN_X6 mC_X6_isIn) (by decide +kernel) rfl rfl ⟨Nat.le_of_ble_eq_true rfl, Nat.le_of_ble_eq_true rfl⟩ hG hP9 rfl hl.1 rfl (Nat.le_of_ble_eq_true rfl) dX6_at_24 ⟨Nat.le_of_ble_eq_true rfl, Nat.le_of_ble_eq_true rfl⟩) (fun r24 h24 => ?_)
  rcases h24 with ⟨rfl, hb24⟩ | ⟨rfl, hb24⟩
  · exact absurd hb24 (hh)
  refine lv_if_eq (tgt := 39) hx hb dX6_at_27 (by decide) (fun _ => ?_) (fun h9 => (h9 (by decide)).elim)
  refine lv_aload_n hx hb dX6_at_39 rfl (lv_at hl 0 rfl) ?_
  refine lv_iconst (v := 2) hx hb dX6_at_40 (by decide) ?_
  have hP9 := hP.sub (ws' := [oO mo 6 [.int 0, .ref a1, .int (nI nC), .ref a2, .ref a3, .ref a4, .ref a5, .ref a6, .ref a7, .ref a8, .ref a9, .int (nI nS), .ref a10, .int (nI nM), .ref a11]]) [0] rfl
  have hD9 := (hD.sub (ws' := [oO mo 6 [.int 0, .ref a1, .int (nI nC), .ref a2, .ref a3, .ref a4, .ref a5, .ref a6, .ref a7, .ref a8, .ref a9, .int (nI nS), .ref a10, .int (nI nM), .ref a11]]) [0] (by decide) rfl).weaken (B := fun _ => True) (fun _ _ _ _ => trivial)
  refine ki (wr := []) (rV (rest := []) (qc := (RX6, TX6, 15)) [.int 2] 1 0 0 hC (m_no l D (mo := mo) (x := 2) (th := 0) (a1 := a1) (nC := nC) (a2 := a2) (a3 := a3) (a4 := a4) (a5 := a5) (a6 := a6) (a7 := a7) (a8 := a8) (a9 := a9) (nS := nS) (a10 := a10) (nM := nM) (a11 := a11) (hz0 := H.size) ) rfl (hP 0 _ rfl) (gV mM_X6_66 mI_X6_no mS_X6_no mN_X6 mC_X6_no) (by decide +kernel) rfl rfl ⟨Nat.le_of_ble_eq_true rfl, Nat.le_of_ble_eq_true rfl⟩ hG hP9 hD9 rfl hl.1 rfl (Nat.le_of_ble_eq_true rfl) dX6_at_41 ⟨Nat.le_of_ble_eq_true rfl, Nat.le_of_ble_eq_true rfl⟩) hP hD hS hA [0] [] rfl rfl (by decide) (by decide) (fun r41 u41 H locs h41 hP hD hS hz hfr => ?_)
  have hP : va_P D cls [oO mo 6 [.int 2, .ref a1, .int (nI nC), .ref a2, .ref a3, .ref a4, .ref a5, .ref a6, .ref a7, .ref a8, .ref a9, .int (nI nS), .ref a10, .int (nI nM), .ref a11]] H := hP
  have hD : va_D A [oO mo 6 [.int 2, .ref a1, .int (nI nC), .ref a2, .ref a3, .ref a4, .ref a5, .ref a6, .ref a7, .ref a8, .ref a9, .int (nI nS), .ref a10, .int (nI nM), .ref a11]] := hD
  obtain rfl : r41 = 0 := h41
  refine Wi () hx hb hr hlk ?_ hP hD hS (Nat.le_of_ble_eq_true rfl) (by first | exact Nat.le_of_ble_eq_true rfl | exact Nat.le_of_eq (Nat.zero_add _)) dX6_at_44
  exact rfl
set_option maxHeartbeats 400000 in
set_option maxRecDepth 100000 in
theorem m_at (l : Launch) (D : va_G) {mo a1 a2 a3 a4 a5 a6 a7 a8 a9 a10 a11 nC nS nM : Nat} {th : Int32} {bs ln ks tm wo ea pa : Nat → Int32} {ck : Nat → Nat} {pt : Nat → Nat → Int32} {len : Nat → Int32} {sz : Nat → Nat → Nat} {f : Nat → Nat → Nat → Int32} {j : Nat} {x : Int32} (hz0 : Nat) (hn10 : nS ≤ 10) (hj : j < 4) (hpa : ∀ i, i < nS → ∀ w, w < 13 → ¬ w = 2 → pa (13 * i + w) = pt i w) (hc0 : ∀ i, i < nS → pa (13 * i) = nI (ck i)) (hc6 : ∀ i, i < nS → ck i < 6) (hlq : ∀ i, i < nS → ln (ck i) = len (ck i)) (hO : ∀ i, i < nS → sOK (len (ck i)) (pt i)) (hks : ∀ i, i < nS → ks (4 * ck i + j) = nI (sz (ck i) j)) (h16 : ∀ i, i < nS → sz (ck i) j ≤ 16) (htm : ∀ i, i < nS → ∀ k, k < sz (ck i) j → tm (16 * (4 * ck i + j) + k) = f (ck i) (3 * j) k) (hwo : ∀ i, i < nS → ∀ k, k < sz (ck i) j → wo (16 * (4 * ck i + j) + k) = f (ck i) (3 * j + 1) k) (hea : ∀ i, i < nS → ∀ k, k < sz (ck i) j → ea (16 * (4 * ck i + j) + k) = f (ck i) (3 * j + 2) k) (hT : ∀ i, i < nS → tOK (f (ck i) (3 * j)) (sz (ck i) j)) (hV : ∀ i, i < nS → ∀ k, k < sz (ck i) j → -10000 ≤ (f (ck i) (3 * j + 1) k).toInt ∧ (f (ck i) (3 * j + 1) k).toInt ≤ 10000) (hB : ∀ ll : List Nat, ll.length ≤ 10 → (∀ z, z ∈ ll → z < nS) → -1073741824 ≤ (valL (fun z v => blendS (len (ck z)) (pt z) (sz (ck z) j) (f (ck z) (3 * j)) (f (ck z) (3 * j + 1)) (f (ck z) (3 * j + 2)) v x) ll (bs j) ll.length).toInt ∧ (valL (fun z v => blendS (len (ck z)) (pt z) (sz (ck z) j) (f (ck z) (3 * j)) (f (ck z) (3 * j + 1)) (f (ck z) (3 * j + 2)) v x) ll (bs j) ll.length).toInt ≤ 1073741824) (hE : ∀ i, i < nS → ∀ y : Int32, -1073741824 ≤ (evT (sz (ck i) j) (f (ck i) (3 * j)) (f (ck i) (3 * j + 1)) (f (ck i) (3 * j + 2)) y).toInt ∧ (evT (sz (ck i) j) (f (ck i) (3 * j)) (f (ck i) (3 * j + 1)) (f (ck i) (3 * j + 2)) y).toInt ≤ 1073741823) (h : (0 : Int32) ≤ x ∧ x ≤ 100000) : Met l yX6_at (ws_ yX6_at cX6_at 3 (some .int)) ({ frames := 6, cells := 0, slots := 0, locals := 141 } : Room) (va_Pc [.ref mo, .int (nI j), .int x] (SW D [oO mo 6 [.int th, .ref a1, .int (nI nC), .ref a2, .ref a3, .ref a4, .ref a5, .ref a6, .ref a7, .ref a8, .ref a9, .int (nI nS), .ref a10, .int (nI nM), .ref a11], aI D a1 4 bs, aI D a2 6 ln, aI D a3 24 ks, aI D a4 384 tm, aI D a5 384 wo, aI D a6 384 ea, aI D a10 130 pa] hz0)) (va_Qi (fun v _ => v = valL (fun z v => blendS (len (ck z)) (pt z) (sz (ck z) j) (f (ck z) (3 * j)) (f (ck z) (3 * j + 1)) (f (ck z) (3 * j + 2)) v x) (lyT (fun z => pt z 7) nS 10) (bs j) (lyT (fun z => pt z 7) nS 10).length) (AT D (va_A [oO mo 6 [.int th, .ref a1, .int (nI nC), .ref a2, .ref a3, .ref a4, .ref a5, .ref a6, .ref a7, .ref a8, .ref a9, .int (nI nS), .ref a10, .int (nI nM), .ref a11], aI D a1 4 bs, aI D a2 6 ln, aI D a3 24 ks, aI D a4 384 tm, aI D a5 384 wo, aI D a6 384 ea, aI D a10 130 pa] hz0) (fun _ : Unit => [oO mo 6 [.int 0, .ref a1, .int (nI nC), .ref a2, .ref a3, .ref a4, .ref a5, .ref a6, .ref a7, .ref a8, .ref a9, .int (nI nS), .ref a10, .int (nI nM), .ref a11], aI D a1 4 bs, aI D a2 6 ln, aI D a3 24 ks, aI D a4 384 tm, aI D a5 384 wo, aI D a6 384 ea, aI D a10 130 pa])) (va_A [oO mo 6 [.int th, .ref a1, .int (nI nC), .ref a2, .ref a3, .ref a4, .ref a5, .ref a6, .ref a7, .ref a8, .ref a9, .int (nI nS), .ref a10, .int (nI nM), .ref a11], aI D a1 4 bs, aI D a2 6 ln, aI D a3 24 ks, aI D a4 384 tm, aI D a5 384 wo, aI D a6 384 ea, aI D a10 130 pa] hz0)) 0 0 (va_A [oO mo 6 [.int th, .ref a1, .int (nI nC), .ref a2, .ref a3, .ref a4, .ref a5, .ref a6, .ref a7, .ref a8, .ref a9, .int (nI nS), .ref a10, .int (nI nM), .ref a11], aI D a1 4 bs, aI D a2 6 ln, aI D a3 24 ks, aI D a4 384 tm, aI D a5 384 wo, aI D a6 384 ea, aI D a10 130 pa] hz0) := by
  refine Met.ofW (cc := cX6_at) (maxL := 3) (ret := (some .int)) (by decide) rfl ?_
  intro p e s m args below meth c s₁ B hml hv
  obtain ⟨rfl, hsz, hG, hP, hD0⟩ := hv
  have hx := B.exec
  have hb := B.bytes
  have hr := B.returns
  have hts : ∀ w ∈ wsL_law, w.before _ s = true := fun w h => atoms_spec (ws := (ws_ yX6_at cX6_at 3 (some .int))) B.pre w (List.mem_cons_of_mem _ h)
  have hown : s.vm.findClass RX6 = some m.cls := findClass_of_methodNamed B.named
  have hlk := B.notSynchronized
  have hC : CallFix p m c cX6_at 3 s _ wsL_law RX6 := ⟨hx, hb, hml, hown, hts⟩
  subst hsz
  have hD := hD0.self (sz := s.heap.size)
  generalize hAe : va_A [oO mo 6 [.int th, .ref a1, .int (nI nC), .ref a2, .ref a3, .ref a4, .ref a5, .ref a6, .ref a7, .ref a8, .ref a9, .int (nI nS), .ref a10, .int (nI nM), .ref a11], aI D a1 4 bs, aI D a2 6 ln, aI D a3 24 ks, aI D a4 384 tm, aI D a5 384 wo, aI D a6 384 ea, aI D a10 130 pa] s.heap.size = A at hD ⊢
  have hA : ∀ q : Nat, s.heap.size ≤ q → A q := fun q h => by rw [← hAe]; exact Or.inr h
  have hS : va_S A s.heap s.heap [] := va_S.rf
  obtain ⟨H, hHe⟩ : ∃ H, H = s.heap := ⟨_, rfl⟩
  rw [← hHe] at hP
  have hS : va_S A s.heap H [] := by rw [hHe]; exact hS
  have hl := lv_entry ([.ref mo, .int (nI j), .int x]) (n := 3) (Nat.le_of_ble_eq_true rfl)
  rw [lg_entry_eq]
  generalize (lg_sl ([.ref mo, .int (nI j), .int x]) ++ List.replicate (3 - (lg_sl ([.ref mo, .int (nI j), .int x])).length) Slot.unset).toArray = ls at hl ⊢
  have hl : lv_has ls 3 [(0, .ref mo), (1, .int (nI j)), (2, .int x)] := hl
  rw [← hHe]
  refine lv_aload_n hx hb dX6_at_0 rfl (lv_at hl 0 rfl) ?_
  refine lv_iconst (v := 0) hx hb dX6_at_1 (by decide) ?_
  refine va_put (D := D) (ci := 6) (v := .int 0) (ty := .int) (C := RX6) (T := TX6) (N := 15) hx hb hts inlX6 tyX6 tyX6_ok nmX6 hown hG.K hP hD hS 0 rfl rfl 0 (by decide) (hts _ mF_X6_43) (fun _ h9 => h9) rfl (by decide +kernel) rfl rfl (Nat.le_of_ble_eq_true rfl) dX6_at_2 (fun H locs hP hD hS => ?_)
  have hP : va_P D cls [oO mo 6 [.int 0, .ref a1, .int (nI nC), .ref a2, .ref a3, .ref a4, .ref a5, .ref a6, .ref a7, .ref a8, .ref a9, .int (nI nS), .ref a10, .int (nI nM), .ref a11], aI D a1 4 bs, aI D a2 6 ln, aI D a3 24 ks, aI D a4 384 tm, aI D a5 384 wo, aI D a6 384 ea, aI D a10 130 pa] H := hP
  have hD : va_D A [oO mo 6 [.int 0, .ref a1, .int (nI nC), .ref a2, .ref a3, .ref a4, .ref a5, .ref a6, .ref a7, .ref a8, .ref a9, .int (nI nS), .ref a10, .int (nI nM), .ref a11], aI D a1 4 bs, aI D a2 6 ln, aI D a3 24 ks, aI D a4 384 tm, aI D a5 384 wo, aI D a6 384 ea, aI D a10 130 pa] := hD
  refine lv_iload_n hx hb dX6_at_5 rfl (lv_at hl 1 rfl) ?_
  refine lv_iconst (v := 0) hx hb dX6_at_6 (by decide) ?_
  refine lv_iconst (v := 3) hx hb dX6_at_7 (by decide) ?_
  have hP9 : va_P D cls [] H := fun k q h => by simp at h
  refine vp_callSi (pS (rest := []) [.int (nI j), .int 0, .int 3] 3 hC (m_isIn l D (x := nI j) (a := 0) (b := 3) ) (gS mM_X6_50 mT_X6_isIn mN_X6 mC_X6_isIn) (by decide +kernel) rfl rfl ⟨Nat.le_of_ble_eq_true rfl, Nat.le_of_ble_eq_true rfl⟩ hG hP9 rfl hl.1 rfl (Nat.le_of_ble_eq_true rfl) dX6_at_8 ⟨Nat.le_of_ble_eq_true rfl, Nat.le_of_ble_eq_true rfl⟩) (fun r8 h8 => ?_)
  rcases h8 with ⟨rfl, hb8⟩ | ⟨rfl, hb8⟩
  rotate_left
  · exact absurd (in3 hj) hb8
  refine lv_if_ne (tgt := 20) hx hb dX6_at_11 (by decide) (fun _ => ?_) (fun h9 => absurd h9 (by decide))
  refine lv_iload_n hx hb dX6_at_20 rfl (lv_at hl 2 rfl) ?_
  refine lv_iconst (v := 0) hx hb dX6_at_21 (by decide) ?_
  refine lv_ldc hx hb hown (hts _ mG_X6_146) dX6_at_22 ?_
  have hP9 : va_P D cls [] H := fun k q h => by simp at h
  refine vp_callSi (pS (rest := []) [.int x, .int 0, .int 100000] 3 hC (m_isIn l D (x := x) (a := 0) (b := 100000) ) (gS mM_X6_50 mT_X6_isIn mN_X6 mC_X6_isIn) (by decide +kernel) rfl rfl ⟨Nat.le_of_ble_eq_true rfl, Nat.le_of_ble_eq_true rfl⟩ hG hP9 rfl hl.1 rfl (Nat.le_of_ble_eq_true rfl) dX6_at_24 ⟨Nat.le_of_ble_eq_true rfl, Nat.le_of_ble_eq_true rfl⟩) (fun r24 h24 => ?_)
  rcases h24 with ⟨rfl, hb24⟩ | ⟨rfl, hb24⟩
  rotate_left
  · exact absurd (h) hb24
  refine lv_if_eq (tgt := 39) hx hb dX6_at_27 (by decide) (fun h9 => absurd h9 (by decide)) (fun _ => ?_)
  refine lv_aload_n hx hb dX6_at_30 rfl (lv_at hl 0 rfl) ?_
  refine lv_iload_n hx hb dX6_at_31 rfl (lv_at hl 1 rfl) ?_
  refine lv_iload_n hx hb dX6_at_32 rfl (lv_at hl 2 rfl) ?_
  have hP9 := hP
  refine vp_callSi (pV (rest := []) (qc := (RX6, TX6, 15)) [.int (nI j), .int x] 2 hC (m_played l D (ck := ck) (pt := pt) (len := len) (sz := sz) (f := f) (mo := mo) (j := j) (x := x) (th := 0) (a1 := a1) (nC := nC) (a2 := a2) (a3 := a3) (a4 := a4) (a5 := a5) (a6 := a6) (a7 := a7) (a8 := a8) (a9 := a9) (nS := nS) (a10 := a10) (nM := nM) (a11 := a11) (bs := bs) (ln := ln) (ks := ks) (tm := tm) (wo := wo) (ea := ea) (pa := pa) (by omega) (by omega) (hpa) (hc0) (hc6) (hlq) (hO) (hks) (h16) (htm) (hwo) (hea) (hT) (hV) (hB) (hE) (by have := (fa_le _ _).mp h.1; rw [show (0 : Int32).toInt = 0 by decide] at this; omega) (by have := (fa_le _ _).mp h.2; rw [show (100000 : Int32).toInt = 100000 by decide] at this; omega)) rfl (hP 0 _ rfl) (gV mM_X6_161 mI_X6_played mS_X6_played mN_X6 mC_X6_played) (by decide +kernel) rfl rfl ⟨Nat.le_of_ble_eq_true rfl, Nat.le_of_ble_eq_true rfl⟩ hG hP9 rfl hl.1 rfl (Nat.le_of_ble_eq_true rfl) dX6_at_33 ⟨Nat.le_of_ble_eq_true rfl, Nat.le_of_ble_eq_true rfl⟩) (fun r33 h33 => ?_)
  obtain rfl : r33 = (valL (fun z v => blendS (len (ck z)) (pt z) (sz (ck z) j) (f (ck z) (3 * j)) (f (ck z) (3 * j + 1)) (f (ck z) (3 * j + 2)) v x) (lyT (fun z => pt z 7) nS 10) (bs j) (lyT (fun z => pt z 7) nS 10).length) := h33
  refine lv_goto (tgt := 44) hx hb dX6_at_36 (by decide) ?_
  refine Wi () hx hb hr hlk ?_ hP hD hS (Nat.le_of_ble_eq_true rfl) (by first | exact Nat.le_of_ble_eq_true rfl | exact Nat.le_of_eq (Nat.zero_add _)) dX6_at_44
  exact rfl
set_option maxHeartbeats 400000 in
set_option maxRecDepth 100000 in
theorem m_span_1 (l : Launch) (D : va_G) {p1 x y : Int32} (h : ¬ ((0 : Int32) ≤ p1 ∧ p1 ≤ 3)) : Met l yX6_spanError (ws_ yX6_spanError cX6_spanError 3 (some .int)) ({ frames := 1, cells := 0, slots := 0, locals := 22 } : Room) (va_Pc [.int p1, .int x, .int y] (PW D [])) (vp_Si (fun v => v = 1)) 0 0 (fun _ => False) := by
  refine Met.ofW (cc := cX6_spanError) (maxL := 3) (ret := (some .int)) (by decide) rfl ?_
  intro p e s m args below meth c s₁ B hml hv
  obtain ⟨rfl, hG, hP⟩ := hv
  have hx := B.exec
  have hb := B.bytes
  have hr := B.returns
  have hts : ∀ w ∈ wsL_law, w.before _ s = true := fun w h => atoms_spec (ws := (ws_ yX6_spanError cX6_spanError 3 (some .int))) B.pre w (List.mem_cons_of_mem _ h)
  have hown : s.vm.findClass RX6 = some m.cls := findClass_of_methodNamed B.named
  have hlk := B.notSynchronized
  have hC : CallFix p m c cX6_spanError 3 s _ wsL_law RX6 := ⟨hx, hb, hml, hown, hts⟩
  have hl := lv_entry ([.int p1, .int x, .int y]) (n := 3) (Nat.le_of_ble_eq_true rfl)
  rw [lg_entry_eq]
  generalize (lg_sl ([.int p1, .int x, .int y]) ++ List.replicate (3 - (lg_sl ([.int p1, .int x, .int y])).length) Slot.unset).toArray = ls at hl ⊢
  have hl : lv_has ls 3 [(0, .int p1), (1, .int x), (2, .int y)] := hl
  refine lv_iload_n hx hb dX6_spanError_0 rfl (lv_at hl 0 rfl) ?_
  refine lv_iconst (v := 0) hx hb dX6_spanError_1 (by decide) ?_
  refine lv_iconst (v := 3) hx hb dX6_spanError_2 (by decide) ?_
  have hP9 : va_P D cls [] s.heap := fun k q h => by simp at h
  refine vp_callSi (pS (rest := []) [.int p1, .int 0, .int 3] 3 hC (m_isIn l D (x := p1) (a := 0) (b := 3) ) (gS mM_X6_50 mT_X6_isIn mN_X6 mC_X6_isIn) (by decide +kernel) rfl rfl ⟨Nat.le_of_ble_eq_true rfl, Nat.le_of_ble_eq_true rfl⟩ hG hP9 rfl hl.1 rfl (Nat.le_of_ble_eq_true rfl) dX6_spanError_3 ⟨Nat.le_of_ble_eq_true rfl, Nat.le_of_ble_eq_true rfl⟩) (fun r3 h3 => ?_)
  rcases h3 with ⟨rfl, hb3⟩ | ⟨rfl, hb3⟩
  · exact absurd hb3 (h)
  refine lv_if_ne (tgt := 11) hx hb dX6_spanError_6 (by decide) (fun h9 => (h9 (by decide)).elim) (fun _ => ?_)
  refine lv_iconst (v := 1) hx hb dX6_spanError_9 (by decide) ?_
  refine Ri hx hb hr hlk ?_ dX6_spanError_10
  exact rfl
set_option maxHeartbeats 400000 in
set_option maxRecDepth 100000 in
theorem m_span_2 (l : Launch) (D : va_G) {p1 x y : Int32} (h : (0 : Int32) ≤ p1 ∧ p1 ≤ 3) (hh : ¬ (((0 : Int32) ≤ x ∧ x ≤ 100000) ∧ (x ≤ y ∧ y ≤ x + 300))) : Met l yX6_spanError (ws_ yX6_spanError cX6_spanError 3 (some .int)) ({ frames := 1, cells := 0, slots := 0, locals := 22 } : Room) (va_Pc [.int p1, .int x, .int y] (PW D [])) (vp_Si (fun v => v = 2)) 0 0 (fun _ => False) := by
  refine Met.ofW (cc := cX6_spanError) (maxL := 3) (ret := (some .int)) (by decide) rfl ?_
  intro p e s m args below meth c s₁ B hml hv
  obtain ⟨rfl, hG, hP⟩ := hv
  have hx := B.exec
  have hb := B.bytes
  have hr := B.returns
  have hts : ∀ w ∈ wsL_law, w.before _ s = true := fun w h => atoms_spec (ws := (ws_ yX6_spanError cX6_spanError 3 (some .int))) B.pre w (List.mem_cons_of_mem _ h)
  have hown : s.vm.findClass RX6 = some m.cls := findClass_of_methodNamed B.named
  have hlk := B.notSynchronized
  have hC : CallFix p m c cX6_spanError 3 s _ wsL_law RX6 := ⟨hx, hb, hml, hown, hts⟩
  have hl := lv_entry ([.int p1, .int x, .int y]) (n := 3) (Nat.le_of_ble_eq_true rfl)
  rw [lg_entry_eq]
  generalize (lg_sl ([.int p1, .int x, .int y]) ++ List.replicate (3 - (lg_sl ([.int p1, .int x, .int y])).length) Slot.unset).toArray = ls at hl ⊢
  have hl : lv_has ls 3 [(0, .int p1), (1, .int x), (2, .int y)] := hl
  refine lv_iload_n hx hb dX6_spanError_0 rfl (lv_at hl 0 rfl) ?_
  refine lv_iconst (v := 0) hx hb dX6_spanError_1 (by decide) ?_
  refine lv_iconst (v := 3) hx hb dX6_spanError_2 (by decide) ?_
  have hP9 : va_P D cls [] s.heap := fun k q h => by simp at h
  refine vp_callSi (pS (rest := []) [.int p1, .int 0, .int 3] 3 hC (m_isIn l D (x := p1) (a := 0) (b := 3) ) (gS mM_X6_50 mT_X6_isIn mN_X6 mC_X6_isIn) (by decide +kernel) rfl rfl ⟨Nat.le_of_ble_eq_true rfl, Nat.le_of_ble_eq_true rfl⟩ hG hP9 rfl hl.1 rfl (Nat.le_of_ble_eq_true rfl) dX6_spanError_3 ⟨Nat.le_of_ble_eq_true rfl, Nat.le_of_ble_eq_true rfl⟩) (fun r3 h3 => ?_)
  rcases h3 with ⟨rfl, hb3⟩ | ⟨rfl, hb3⟩
  rotate_left
  · exact absurd (h) hb3
  refine lv_if_ne (tgt := 11) hx hb dX6_spanError_6 (by decide) (fun _ => ?_) (fun h9 => absurd h9 (by decide))
  refine lv_iload_n hx hb dX6_spanError_11 rfl (lv_at hl 1 rfl) ?_
  refine lv_iconst (v := 0) hx hb dX6_spanError_12 (by decide) ?_
  refine lv_ldc hx hb hown (hts _ mG_X6_146) dX6_spanError_13 ?_
  have hP9 : va_P D cls [] s.heap := fun k q h => by simp at h
  refine vp_callSi (pS (rest := []) [.int x, .int 0, .int 100000] 3 hC (m_isIn l D (x := x) (a := 0) (b := 100000) ) (gS mM_X6_50 mT_X6_isIn mN_X6 mC_X6_isIn) (by decide +kernel) rfl rfl ⟨Nat.le_of_ble_eq_true rfl, Nat.le_of_ble_eq_true rfl⟩ hG hP9 rfl hl.1 rfl (Nat.le_of_ble_eq_true rfl) dX6_spanError_15 ⟨Nat.le_of_ble_eq_true rfl, Nat.le_of_ble_eq_true rfl⟩) (fun r15 h15 => ?_)
  rcases h15 with ⟨rfl, hb15⟩ | ⟨rfl, hb15⟩
  · skip
    refine lv_if_eq (tgt := 38) hx hb dX6_spanError_18 (by decide) (fun h9 => absurd h9 (by decide)) (fun _ => ?_)
    refine lv_iload_n hx hb dX6_spanError_21 rfl (lv_at hl 2 rfl) ?_
    refine lv_iload_n hx hb dX6_spanError_22 rfl (lv_at hl 1 rfl) ?_
    refine lv_iload_n hx hb dX6_spanError_23 rfl (lv_at hl 1 rfl) ?_
    refine lv_sipush (v := 300) hx hb dX6_spanError_24 (by decide) ?_
    refine lv_iadd hx hb dX6_spanError_27 ?_
    have hP9 : va_P D cls [] s.heap := fun k q h => by simp at h
    refine vp_callSi (pS (rest := []) [.int y, .int x, .int (x + 300)] 3 hC (m_isIn l D (x := y) (a := x) (b := x + 300) ) (gS mM_X6_50 mT_X6_isIn mN_X6 mC_X6_isIn) (by decide +kernel) rfl rfl ⟨Nat.le_of_ble_eq_true rfl, Nat.le_of_ble_eq_true rfl⟩ hG hP9 rfl hl.1 rfl (Nat.le_of_ble_eq_true rfl) dX6_spanError_28 ⟨Nat.le_of_ble_eq_true rfl, Nat.le_of_ble_eq_true rfl⟩) (fun r28 h28 => ?_)
    rcases h28 with ⟨rfl, hb28⟩ | ⟨rfl, hb28⟩
    · exact absurd hb28 (fun h9 => hh ⟨hb15, h9⟩)
    refine lv_if_eq (tgt := 38) hx hb dX6_spanError_31 (by decide) (fun _ => ?_) (fun h9 => (h9 (by decide)).elim)
    refine lv_iconst (v := 2) hx hb dX6_spanError_38 (by decide) ?_
    refine Ri hx hb hr hlk ?_ dX6_spanError_39
    exact rfl
  · skip
    refine lv_if_eq (tgt := 38) hx hb dX6_spanError_18 (by decide) (fun _ => ?_) (fun h9 => (h9 (by decide)).elim)
    refine lv_iconst (v := 2) hx hb dX6_spanError_38 (by decide) ?_
    refine Ri hx hb hr hlk ?_ dX6_spanError_39
    exact rfl
set_option maxHeartbeats 400000 in
set_option maxRecDepth 100000 in
theorem m_span_0 (l : Launch) (D : va_G) {p1 x y : Int32} (h : (0 : Int32) ≤ p1 ∧ p1 ≤ 3) (hh : ((0 : Int32) ≤ x ∧ x ≤ 100000) ∧ (x ≤ y ∧ y ≤ x + 300)) : Met l yX6_spanError (ws_ yX6_spanError cX6_spanError 3 (some .int)) ({ frames := 1, cells := 0, slots := 0, locals := 22 } : Room) (va_Pc [.int p1, .int x, .int y] (PW D [])) (vp_Si (fun v => v = 0)) 0 0 (fun _ => False) := by
  refine Met.ofW (cc := cX6_spanError) (maxL := 3) (ret := (some .int)) (by decide) rfl ?_
  intro p e s m args below meth c s₁ B hml hv
  obtain ⟨rfl, hG, hP⟩ := hv
  have hx := B.exec
  have hb := B.bytes
  have hr := B.returns
  have hts : ∀ w ∈ wsL_law, w.before _ s = true := fun w h => atoms_spec (ws := (ws_ yX6_spanError cX6_spanError 3 (some .int))) B.pre w (List.mem_cons_of_mem _ h)
  have hown : s.vm.findClass RX6 = some m.cls := findClass_of_methodNamed B.named
  have hlk := B.notSynchronized
  have hC : CallFix p m c cX6_spanError 3 s _ wsL_law RX6 := ⟨hx, hb, hml, hown, hts⟩
  have hl := lv_entry ([.int p1, .int x, .int y]) (n := 3) (Nat.le_of_ble_eq_true rfl)
  rw [lg_entry_eq]
  generalize (lg_sl ([.int p1, .int x, .int y]) ++ List.replicate (3 - (lg_sl ([.int p1, .int x, .int y])).length) Slot.unset).toArray = ls at hl ⊢
  have hl : lv_has ls 3 [(0, .int p1), (1, .int x), (2, .int y)] := hl
  refine lv_iload_n hx hb dX6_spanError_0 rfl (lv_at hl 0 rfl) ?_
  refine lv_iconst (v := 0) hx hb dX6_spanError_1 (by decide) ?_
  refine lv_iconst (v := 3) hx hb dX6_spanError_2 (by decide) ?_
  have hP9 : va_P D cls [] s.heap := fun k q h => by simp at h
  refine vp_callSi (pS (rest := []) [.int p1, .int 0, .int 3] 3 hC (m_isIn l D (x := p1) (a := 0) (b := 3) ) (gS mM_X6_50 mT_X6_isIn mN_X6 mC_X6_isIn) (by decide +kernel) rfl rfl ⟨Nat.le_of_ble_eq_true rfl, Nat.le_of_ble_eq_true rfl⟩ hG hP9 rfl hl.1 rfl (Nat.le_of_ble_eq_true rfl) dX6_spanError_3 ⟨Nat.le_of_ble_eq_true rfl, Nat.le_of_ble_eq_true rfl⟩) (fun r3 h3 => ?_)
  rcases h3 with ⟨rfl, hb3⟩ | ⟨rfl, hb3⟩
  rotate_left
  · exact absurd (h) hb3
  refine lv_if_ne (tgt := 11) hx hb dX6_spanError_6 (by decide) (fun _ => ?_) (fun h9 => absurd h9 (by decide))
  refine lv_iload_n hx hb dX6_spanError_11 rfl (lv_at hl 1 rfl) ?_
  refine lv_iconst (v := 0) hx hb dX6_spanError_12 (by decide) ?_
  refine lv_ldc hx hb hown (hts _ mG_X6_146) dX6_spanError_13 ?_
  have hP9 : va_P D cls [] s.heap := fun k q h => by simp at h
  refine vp_callSi (pS (rest := []) [.int x, .int 0, .int 100000] 3 hC (m_isIn l D (x := x) (a := 0) (b := 100000) ) (gS mM_X6_50 mT_X6_isIn mN_X6 mC_X6_isIn) (by decide +kernel) rfl rfl ⟨Nat.le_of_ble_eq_true rfl, Nat.le_of_ble_eq_true rfl⟩ hG hP9 rfl hl.1 rfl (Nat.le_of_ble_eq_true rfl) dX6_spanError_15 ⟨Nat.le_of_ble_eq_true rfl, Nat.le_of_ble_eq_true rfl⟩) (fun r15 h15 => ?_)
  rcases h15 with ⟨rfl, hb15⟩ | ⟨rfl, hb15⟩
  rotate_left
  · exact absurd (hh.1) hb15
  refine lv_if_eq (tgt := 38) hx hb dX6_spanError_18 (by decide) (fun h9 => absurd h9 (by decide)) (fun _ => ?_)
  refine lv_iload_n hx hb dX6_spanError_21 rfl (lv_at hl 2 rfl) ?_
  refine lv_iload_n hx hb dX6_spanError_22 rfl (lv_at hl 1 rfl) ?_
  refine lv_iload_n hx hb dX6_spanError_23 rfl (lv_at hl 1 rfl) ?_
  refine lv_sipush (v := 300) hx hb dX6_spanError_24 (by decide) ?_
  refine lv_iadd hx hb dX6_spanError_27 ?_
  have hP9 : va_P D cls [] s.heap := fun k q h => by simp at h
  refine vp_callSi (pS (rest := []) [.int y, .int x, .int (x + 300)] 3 hC (m_isIn l D (x := y) (a := x) (b := x + 300) ) (gS mM_X6_50 mT_X6_isIn mN_X6 mC_X6_isIn) (by decide +kernel) rfl rfl ⟨Nat.le_of_ble_eq_true rfl, Nat.le_of_ble_eq_true rfl⟩ hG hP9 rfl hl.1 rfl (Nat.le_of_ble_eq_true rfl) dX6_spanError_28 ⟨Nat.le_of_ble_eq_true rfl, Nat.le_of_ble_eq_true rfl⟩) (fun r28 h28 => ?_)
  rcases h28 with ⟨rfl, hb28⟩ | ⟨rfl, hb28⟩
  rotate_left
  · exact absurd (hh.2) hb28
  refine lv_if_eq (tgt := 38) hx hb dX6_spanError_31 (by decide) (fun h9 => absurd h9 (by decide)) (fun _ => ?_)
  refine lv_iconst (v := 0) hx hb dX6_spanError_34 (by decide) ?_
  refine lv_goto (tgt := 39) hx hb dX6_spanError_35 (by decide) ?_
  refine Ri hx hb hr hlk ?_ dX6_spanError_39
  exact rfl
set_option maxHeartbeats 400000 in
set_option maxRecDepth 100000 in
theorem m_reaches_1 (l : Launch) (D : va_G) {mo a1 a2 a3 a4 a5 a6 a7 a8 a9 a10 a11 nC nS nM : Nat} {th : Int32} {p1 x y : Int32} {w : Int32} (hz0 : Nat) (h : ¬ ((0 : Int32) ≤ p1 ∧ p1 ≤ 3)) : Met l yX6_reaches (ws_ yX6_reaches cX6_reaches 6 (some .int)) ({ frames := 6, cells := 0, slots := 0, locals := 141 } : Room) (va_Pc [.ref mo, .int p1, .int x, .int y, .int w] (SW D [oO mo 6 [.int th, .ref a1, .int (nI nC), .ref a2, .ref a3, .ref a4, .ref a5, .ref a6, .ref a7, .ref a8, .ref a9, .int (nI nS), .ref a10, .int (nI nM), .ref a11]] hz0)) (va_Qi (fun _ _ => True) (AT D (va_A [oO mo 6 [.int th, .ref a1, .int (nI nC), .ref a2, .ref a3, .ref a4, .ref a5, .ref a6, .ref a7, .ref a8, .ref a9, .int (nI nS), .ref a10, .int (nI nM), .ref a11]] hz0) (fun _ : Unit => [oO mo 6 [.int 1, .ref a1, .int (nI nC), .ref a2, .ref a3, .ref a4, .ref a5, .ref a6, .ref a7, .ref a8, .ref a9, .int (nI nS), .ref a10, .int (nI nM), .ref a11]])) (va_A [oO mo 6 [.int th, .ref a1, .int (nI nC), .ref a2, .ref a3, .ref a4, .ref a5, .ref a6, .ref a7, .ref a8, .ref a9, .int (nI nS), .ref a10, .int (nI nM), .ref a11]] hz0)) 0 0 (va_A [oO mo 6 [.int th, .ref a1, .int (nI nC), .ref a2, .ref a3, .ref a4, .ref a5, .ref a6, .ref a7, .ref a8, .ref a9, .int (nI nS), .ref a10, .int (nI nM), .ref a11]] hz0) := by
  refine Met.ofW (cc := cX6_reaches) (maxL := 6) (ret := (some .int)) (by decide) rfl ?_
  intro p e s m args below meth c s₁ B hml hv
  obtain ⟨rfl, hsz, hG, hP, hD0⟩ := hv
  have hx := B.exec
  have hb := B.bytes
  have hr := B.returns
  have hts : ∀ w ∈ wsL_law, w.before _ s = true := fun w h => atoms_spec (ws := (ws_ yX6_reaches cX6_reaches 6 (some .int))) B.pre w (List.mem_cons_of_mem _ h)
  have hown : s.vm.findClass RX6 = some m.cls := findClass_of_methodNamed B.named
  have hlk := B.notSynchronized
  have hC : CallFix p m c cX6_reaches 6 s _ wsL_law RX6 := ⟨hx, hb, hml, hown, hts⟩
  subst hsz
  have hD := hD0.self (sz := s.heap.size)
  generalize hAe : va_A [oO mo 6 [.int th, .ref a1, .int (nI nC), .ref a2, .ref a3, .ref a4, .ref a5, .ref a6, .ref a7, .ref a8, .ref a9, .int (nI nS), .ref a10, .int (nI nM), .ref a11]] s.heap.size = A at hD ⊢
  have hA : ∀ q : Nat, s.heap.size ≤ q → A q := fun q h => by rw [← hAe]; exact Or.inr h
  have hS : va_S A s.heap s.heap [] := va_S.rf
  obtain ⟨H, hHe⟩ : ∃ H, H = s.heap := ⟨_, rfl⟩
  rw [← hHe] at hP
  have hS : va_S A s.heap H [] := by rw [hHe]; exact hS
  have hl := lv_entry ([.ref mo, .int p1, .int x, .int y, .int w]) (n := 6) (Nat.le_of_ble_eq_true rfl)
  rw [lg_entry_eq]
  generalize (lg_sl ([.ref mo, .int p1, .int x, .int y, .int w]) ++ List.replicate (6 - (lg_sl ([.ref mo, .int p1, .int x, .int y, .int w])).length) Slot.unset).toArray = ls at hl ⊢
  have hl : lv_has ls 6 [(0, .ref mo), (1, .int p1), (2, .int x), (3, .int y), (4, .int w)] := hl
  rw [← hHe]
  refine lv_aload_n hx hb dX6_reaches_0 rfl (lv_at hl 0 rfl) ?_
  refine lv_iload_n hx hb dX6_reaches_1 rfl (lv_at hl 1 rfl) ?_
  refine lv_iload_n hx hb dX6_reaches_2 rfl (lv_at hl 2 rfl) ?_
  refine lv_iload_n hx hb dX6_reaches_3 rfl (lv_at hl 3 rfl) ?_
  have hP9 : va_P D cls [] H := fun k q h => by simp at h
  refine vp_callSi (pS (rest := [.ref mo]) [.int p1, .int x, .int y] 3 hC (m_span_1 l D (p1 := p1) (x := x) (y := y) (h)) (gS mM_X6_164 mT_X6_spanError mN_X6 mC_X6_spanError) (by decide +kernel) rfl rfl ⟨Nat.le_of_ble_eq_true rfl, Nat.le_of_ble_eq_true rfl⟩ hG hP9 rfl hl.1 rfl (Nat.le_of_ble_eq_true rfl) dX6_reaches_4 ⟨Nat.le_of_ble_eq_true rfl, Nat.le_of_ble_eq_true rfl⟩) (fun r4 h4 => ?_)
  obtain rfl : r4 = 1 := h4
  refine va_put (D := D) (ci := 6) (v := .int 1) (ty := .int) (C := RX6) (T := TX6) (N := 15) hx hb hts inlX6 tyX6 tyX6_ok nmX6 hown hG.K hP hD hS 0 rfl rfl 0 (by decide) (hts _ mF_X6_43) (fun _ h9 => h9) rfl (by decide +kernel) rfl rfl (Nat.le_of_ble_eq_true rfl) dX6_reaches_7 (fun H locs hP hD hS => ?_)
  have hP : va_P D cls [oO mo 6 [.int 1, .ref a1, .int (nI nC), .ref a2, .ref a3, .ref a4, .ref a5, .ref a6, .ref a7, .ref a8, .ref a9, .int (nI nS), .ref a10, .int (nI nM), .ref a11]] H := hP
  have hD : va_D A [oO mo 6 [.int 1, .ref a1, .int (nI nC), .ref a2, .ref a3, .ref a4, .ref a5, .ref a6, .ref a7, .ref a8, .ref a9, .int (nI nS), .ref a10, .int (nI nM), .ref a11]] := hD
  refine lv_aload_n hx hb dX6_reaches_10 rfl (lv_at hl 0 rfl) ?_
  refine va_get (D := D) (ci := 6) (v := .int 1) (C := RX6) (T := TX6) (N := 15) hx hb hts inlX6 hown hG.K hP 0 rfl rfl 0 (by decide) (hts _ mF_X6_43) (fun _ h9 => h9) rfl dX6_reaches_11 ?_
  refine lv_if_eq (tgt := 19) hx hb dX6_reaches_14 (by decide) (fun h9 => absurd h9 (by decide)) (fun _ => ?_)
  refine lv_iconst (v := 0) hx hb dX6_reaches_17 (by decide) ?_
  refine Wi () hx hb hr hlk ?_ hP hD hS (Nat.le_of_ble_eq_true rfl) (by first | exact Nat.le_of_ble_eq_true rfl | exact Nat.le_of_eq (Nat.zero_add _)) dX6_reaches_18
  exact trivial
set_option maxHeartbeats 400000 in
set_option maxRecDepth 100000 in
theorem m_reaches_2 (l : Launch) (D : va_G) {mo a1 a2 a3 a4 a5 a6 a7 a8 a9 a10 a11 nC nS nM : Nat} {th : Int32} {p1 x y : Int32} {w : Int32} (hz0 : Nat) (h : (0 : Int32) ≤ p1 ∧ p1 ≤ 3) (hh : ¬ (((0 : Int32) ≤ x ∧ x ≤ 100000) ∧ (x ≤ y ∧ y ≤ x + 300))) : Met l yX6_reaches (ws_ yX6_reaches cX6_reaches 6 (some .int)) ({ frames := 6, cells := 0, slots := 0, locals := 141 } : Room) (va_Pc [.ref mo, .int p1, .int x, .int y, .int w] (SW D [oO mo 6 [.int th, .ref a1, .int (nI nC), .ref a2, .ref a3, .ref a4, .ref a5, .ref a6, .ref a7, .ref a8, .ref a9, .int (nI nS), .ref a10, .int (nI nM), .ref a11]] hz0)) (va_Qi (fun _ _ => True) (AT D (va_A [oO mo 6 [.int th, .ref a1, .int (nI nC), .ref a2, .ref a3, .ref a4, .ref a5, .ref a6, .ref a7, .ref a8, .ref a9, .int (nI nS), .ref a10, .int (nI nM), .ref a11]] hz0) (fun _ : Unit => [oO mo 6 [.int 2, .ref a1, .int (nI nC), .ref a2, .ref a3, .ref a4, .ref a5, .ref a6, .ref a7, .ref a8, .ref a9, .int (nI nS), .ref a10, .int (nI nM), .ref a11]])) (va_A [oO mo 6 [.int th, .ref a1, .int (nI nC), .ref a2, .ref a3, .ref a4, .ref a5, .ref a6, .ref a7, .ref a8, .ref a9, .int (nI nS), .ref a10, .int (nI nM), .ref a11]] hz0)) 0 0 (va_A [oO mo 6 [.int th, .ref a1, .int (nI nC), .ref a2, .ref a3, .ref a4, .ref a5, .ref a6, .ref a7, .ref a8, .ref a9, .int (nI nS), .ref a10, .int (nI nM), .ref a11]] hz0) := by
  refine Met.ofW (cc := cX6_reaches) (maxL := 6) (ret := (some .int)) (by decide) rfl ?_
  intro p e s m args below meth c s₁ B hml hv
  obtain ⟨rfl, hsz, hG, hP, hD0⟩ := hv
  have hx := B.exec
  have hb := B.bytes
  have hr := B.returns
  have hts : ∀ w ∈ wsL_law, w.before _ s = true := fun w h => atoms_spec (ws := (ws_ yX6_reaches cX6_reaches 6 (some .int))) B.pre w (List.mem_cons_of_mem _ h)
  have hown : s.vm.findClass RX6 = some m.cls := findClass_of_methodNamed B.named
  have hlk := B.notSynchronized
  have hC : CallFix p m c cX6_reaches 6 s _ wsL_law RX6 := ⟨hx, hb, hml, hown, hts⟩
  subst hsz
  have hD := hD0.self (sz := s.heap.size)
  generalize hAe : va_A [oO mo 6 [.int th, .ref a1, .int (nI nC), .ref a2, .ref a3, .ref a4, .ref a5, .ref a6, .ref a7, .ref a8, .ref a9, .int (nI nS), .ref a10, .int (nI nM), .ref a11]] s.heap.size = A at hD ⊢
  have hA : ∀ q : Nat, s.heap.size ≤ q → A q := fun q h => by rw [← hAe]; exact Or.inr h
  have hS : va_S A s.heap s.heap [] := va_S.rf
  obtain ⟨H, hHe⟩ : ∃ H, H = s.heap := ⟨_, rfl⟩
  rw [← hHe] at hP
  have hS : va_S A s.heap H [] := by rw [hHe]; exact hS
  have hl := lv_entry ([.ref mo, .int p1, .int x, .int y, .int w]) (n := 6) (Nat.le_of_ble_eq_true rfl)
  rw [lg_entry_eq]
  generalize (lg_sl ([.ref mo, .int p1, .int x, .int y, .int w]) ++ List.replicate (6 - (lg_sl ([.ref mo, .int p1, .int x, .int y, .int w])).length) Slot.unset).toArray = ls at hl ⊢
  have hl : lv_has ls 6 [(0, .ref mo), (1, .int p1), (2, .int x), (3, .int y), (4, .int w)] := hl
  rw [← hHe]
  refine lv_aload_n hx hb dX6_reaches_0 rfl (lv_at hl 0 rfl) ?_
  refine lv_iload_n hx hb dX6_reaches_1 rfl (lv_at hl 1 rfl) ?_
  refine lv_iload_n hx hb dX6_reaches_2 rfl (lv_at hl 2 rfl) ?_
  refine lv_iload_n hx hb dX6_reaches_3 rfl (lv_at hl 3 rfl) ?_
  have hP9 : va_P D cls [] H := fun k q h => by simp at h
  refine vp_callSi (pS (rest := [.ref mo]) [.int p1, .int x, .int y] 3 hC (m_span_2 l D (p1 := p1) (x := x) (y := y) (h) (hh)) (gS mM_X6_164 mT_X6_spanError mN_X6 mC_X6_spanError) (by decide +kernel) rfl rfl ⟨Nat.le_of_ble_eq_true rfl, Nat.le_of_ble_eq_true rfl⟩ hG hP9 rfl hl.1 rfl (Nat.le_of_ble_eq_true rfl) dX6_reaches_4 ⟨Nat.le_of_ble_eq_true rfl, Nat.le_of_ble_eq_true rfl⟩) (fun r4 h4 => ?_)
  obtain rfl : r4 = 2 := h4
  refine va_put (D := D) (ci := 6) (v := .int 2) (ty := .int) (C := RX6) (T := TX6) (N := 15) hx hb hts inlX6 tyX6 tyX6_ok nmX6 hown hG.K hP hD hS 0 rfl rfl 0 (by decide) (hts _ mF_X6_43) (fun _ h9 => h9) rfl (by decide +kernel) rfl rfl (Nat.le_of_ble_eq_true rfl) dX6_reaches_7 (fun H locs hP hD hS => ?_)
  have hP : va_P D cls [oO mo 6 [.int 2, .ref a1, .int (nI nC), .ref a2, .ref a3, .ref a4, .ref a5, .ref a6, .ref a7, .ref a8, .ref a9, .int (nI nS), .ref a10, .int (nI nM), .ref a11]] H := hP
  have hD : va_D A [oO mo 6 [.int 2, .ref a1, .int (nI nC), .ref a2, .ref a3, .ref a4, .ref a5, .ref a6, .ref a7, .ref a8, .ref a9, .int (nI nS), .ref a10, .int (nI nM), .ref a11]] := hD
  refine lv_aload_n hx hb dX6_reaches_10 rfl (lv_at hl 0 rfl) ?_
  refine va_get (D := D) (ci := 6) (v := .int 2) (C := RX6) (T := TX6) (N := 15) hx hb hts inlX6 hown hG.K hP 0 rfl rfl 0 (by decide) (hts _ mF_X6_43) (fun _ h9 => h9) rfl dX6_reaches_11 ?_
  refine lv_if_eq (tgt := 19) hx hb dX6_reaches_14 (by decide) (fun h9 => absurd h9 (by decide)) (fun _ => ?_)
  refine lv_iconst (v := 0) hx hb dX6_reaches_17 (by decide) ?_
  refine Wi () hx hb hr hlk ?_ hP hD hS (Nat.le_of_ble_eq_true rfl) (by first | exact Nat.le_of_ble_eq_true rfl | exact Nat.le_of_eq (Nat.zero_add _)) dX6_reaches_18
  exact trivial
set_option maxHeartbeats 400000 in
set_option maxRecDepth 100000 in
theorem m_mean_1 (l : Launch) (D : va_G) {mo a1 a2 a3 a4 a5 a6 a7 a8 a9 a10 a11 nC nS nM : Nat} {th : Int32} {p1 x y : Int32} (hz0 : Nat) (h : ¬ ((0 : Int32) ≤ p1 ∧ p1 ≤ 3)) : Met l yX6_mean (ws_ yX6_mean cX6_mean 7 (some .double)) ({ frames := 6, cells := 0, slots := 0, locals := 141 } : Room) (va_Pc [.ref mo, .int p1, .int x, .int y] (SW D [oO mo 6 [.int th, .ref a1, .int (nI nC), .ref a2, .ref a3, .ref a4, .ref a5, .ref a6, .ref a7, .ref a8, .ref a9, .int (nI nS), .ref a10, .int (nI nM), .ref a11]] hz0)) (va_Qd (fun _ _ => True) (AT D (va_A [oO mo 6 [.int th, .ref a1, .int (nI nC), .ref a2, .ref a3, .ref a4, .ref a5, .ref a6, .ref a7, .ref a8, .ref a9, .int (nI nS), .ref a10, .int (nI nM), .ref a11]] hz0) (fun _ : Unit => [oO mo 6 [.int 1, .ref a1, .int (nI nC), .ref a2, .ref a3, .ref a4, .ref a5, .ref a6, .ref a7, .ref a8, .ref a9, .int (nI nS), .ref a10, .int (nI nM), .ref a11]])) (va_A [oO mo 6 [.int th, .ref a1, .int (nI nC), .ref a2, .ref a3, .ref a4, .ref a5, .ref a6, .ref a7, .ref a8, .ref a9, .int (nI nS), .ref a10, .int (nI nM), .ref a11]] hz0)) 0 0 (va_A [oO mo 6 [.int th, .ref a1, .int (nI nC), .ref a2, .ref a3, .ref a4, .ref a5, .ref a6, .ref a7, .ref a8, .ref a9, .int (nI nS), .ref a10, .int (nI nM), .ref a11]] hz0) := by
  refine Met.ofW (cc := cX6_mean) (maxL := 7) (ret := (some .double)) (by decide) rfl ?_
  intro p e s m args below meth c s₁ B hml hv
  obtain ⟨rfl, hsz, hG, hP, hD0⟩ := hv
  have hx := B.exec
  have hb := B.bytes
  have hr := B.returns
  have hts : ∀ w ∈ wsL_law, w.before _ s = true := fun w h => atoms_spec (ws := (ws_ yX6_mean cX6_mean 7 (some .double))) B.pre w (List.mem_cons_of_mem _ h)
  have hown : s.vm.findClass RX6 = some m.cls := findClass_of_methodNamed B.named
  have hlk := B.notSynchronized
  have hC : CallFix p m c cX6_mean 7 s _ wsL_law RX6 := ⟨hx, hb, hml, hown, hts⟩
  subst hsz
  have hD := hD0.self (sz := s.heap.size)
  generalize hAe : va_A [oO mo 6 [.int th, .ref a1, .int (nI nC), .ref a2, .ref a3, .ref a4, .ref a5, .ref a6, .ref a7, .ref a8, .ref a9, .int (nI nS), .ref a10, .int (nI nM), .ref a11]] s.heap.size = A at hD ⊢
  have hA : ∀ q : Nat, s.heap.size ≤ q → A q := fun q h => by rw [← hAe]; exact Or.inr h
  have hS : va_S A s.heap s.heap [] := va_S.rf
  obtain ⟨H, hHe⟩ : ∃ H, H = s.heap := ⟨_, rfl⟩
  rw [← hHe] at hP
  have hS : va_S A s.heap H [] := by rw [hHe]; exact hS
  have hl := lv_entry ([.ref mo, .int p1, .int x, .int y]) (n := 7) (Nat.le_of_ble_eq_true rfl)
  rw [lg_entry_eq]
  generalize (lg_sl ([.ref mo, .int p1, .int x, .int y]) ++ List.replicate (7 - (lg_sl ([.ref mo, .int p1, .int x, .int y])).length) Slot.unset).toArray = ls at hl ⊢
  have hl : lv_has ls 7 [(0, .ref mo), (1, .int p1), (2, .int x), (3, .int y)] := hl
  rw [← hHe]
  refine lv_aload_n hx hb dX6_mean_0 rfl (lv_at hl 0 rfl) ?_
  refine lv_iload_n hx hb dX6_mean_1 rfl (lv_at hl 1 rfl) ?_
  refine lv_iload_n hx hb dX6_mean_2 rfl (lv_at hl 2 rfl) ?_
  refine lv_iload_n hx hb dX6_mean_3 rfl (lv_at hl 3 rfl) ?_
  have hP9 : va_P D cls [] H := fun k q h => by simp at h
  refine vp_callSi (pS (rest := [.ref mo]) [.int p1, .int x, .int y] 3 hC (m_span_1 l D (p1 := p1) (x := x) (y := y) (h)) (gS mM_X6_164 mT_X6_spanError mN_X6 mC_X6_spanError) (by decide +kernel) rfl rfl ⟨Nat.le_of_ble_eq_true rfl, Nat.le_of_ble_eq_true rfl⟩ hG hP9 rfl hl.1 rfl (Nat.le_of_ble_eq_true rfl) dX6_mean_4 ⟨Nat.le_of_ble_eq_true rfl, Nat.le_of_ble_eq_true rfl⟩) (fun r4 h4 => ?_)
  obtain rfl : r4 = 1 := h4
  refine va_put (D := D) (ci := 6) (v := .int 1) (ty := .int) (C := RX6) (T := TX6) (N := 15) hx hb hts inlX6 tyX6 tyX6_ok nmX6 hown hG.K hP hD hS 0 rfl rfl 0 (by decide) (hts _ mF_X6_43) (fun _ h9 => h9) rfl (by decide +kernel) rfl rfl (Nat.le_of_ble_eq_true rfl) dX6_mean_7 (fun H locs hP hD hS => ?_)
  have hP : va_P D cls [oO mo 6 [.int 1, .ref a1, .int (nI nC), .ref a2, .ref a3, .ref a4, .ref a5, .ref a6, .ref a7, .ref a8, .ref a9, .int (nI nS), .ref a10, .int (nI nM), .ref a11]] H := hP
  have hD : va_D A [oO mo 6 [.int 1, .ref a1, .int (nI nC), .ref a2, .ref a3, .ref a4, .ref a5, .ref a6, .ref a7, .ref a8, .ref a9, .int (nI nS), .ref a10, .int (nI nM), .ref a11]] := hD
  refine lv_aload_n hx hb dX6_mean_10 rfl (lv_at hl 0 rfl) ?_
  refine va_get (D := D) (ci := 6) (v := .int 1) (C := RX6) (T := TX6) (N := 15) hx hb hts inlX6 hown hG.K hP 0 rfl rfl 0 (by decide) (hts _ mF_X6_43) (fun _ h9 => h9) rfl dX6_mean_11 ?_
  refine lv_if_eq (tgt := 19) hx hb dX6_mean_14 (by decide) (fun h9 => absurd h9 (by decide)) (fun _ => ?_)
  refine lv_dconst0 hx hb dX6_mean_17 ?_
  refine Wd () hx hb hr hlk ?_ hP hD hS (Nat.le_of_ble_eq_true rfl) (by first | exact Nat.le_of_ble_eq_true rfl | exact Nat.le_of_eq (Nat.zero_add _)) dX6_mean_18
  exact trivial
set_option maxHeartbeats 400000 in
set_option maxRecDepth 100000 in
theorem m_mean_2 (l : Launch) (D : va_G) {mo a1 a2 a3 a4 a5 a6 a7 a8 a9 a10 a11 nC nS nM : Nat} {th : Int32} {p1 x y : Int32} (hz0 : Nat) (h : (0 : Int32) ≤ p1 ∧ p1 ≤ 3) (hh : ¬ (((0 : Int32) ≤ x ∧ x ≤ 100000) ∧ (x ≤ y ∧ y ≤ x + 300))) : Met l yX6_mean (ws_ yX6_mean cX6_mean 7 (some .double)) ({ frames := 6, cells := 0, slots := 0, locals := 141 } : Room) (va_Pc [.ref mo, .int p1, .int x, .int y] (SW D [oO mo 6 [.int th, .ref a1, .int (nI nC), .ref a2, .ref a3, .ref a4, .ref a5, .ref a6, .ref a7, .ref a8, .ref a9, .int (nI nS), .ref a10, .int (nI nM), .ref a11]] hz0)) (va_Qd (fun _ _ => True) (AT D (va_A [oO mo 6 [.int th, .ref a1, .int (nI nC), .ref a2, .ref a3, .ref a4, .ref a5, .ref a6, .ref a7, .ref a8, .ref a9, .int (nI nS), .ref a10, .int (nI nM), .ref a11]] hz0) (fun _ : Unit => [oO mo 6 [.int 2, .ref a1, .int (nI nC), .ref a2, .ref a3, .ref a4, .ref a5, .ref a6, .ref a7, .ref a8, .ref a9, .int (nI nS), .ref a10, .int (nI nM), .ref a11]])) (va_A [oO mo 6 [.int th, .ref a1, .int (nI nC), .ref a2, .ref a3, .ref a4, .ref a5, .ref a6, .ref a7, .ref a8, .ref a9, .int (nI nS), .ref a10, .int (nI nM), .ref a11]] hz0)) 0 0 (va_A [oO mo 6 [.int th, .ref a1, .int (nI nC), .ref a2, .ref a3, .ref a4, .ref a5, .ref a6, .ref a7, .ref a8, .ref a9, .int (nI nS), .ref a10, .int (nI nM), .ref a11]] hz0) := by
  refine Met.ofW (cc := cX6_mean) (maxL := 7) (ret := (some .double)) (by decide) rfl ?_
  intro p e s m args below meth c s₁ B hml hv
  obtain ⟨rfl, hsz, hG, hP, hD0⟩ := hv
  have hx := B.exec
  have hb := B.bytes
  have hr := B.returns
  have hts : ∀ w ∈ wsL_law, w.before _ s = true := fun w h => atoms_spec (ws := (ws_ yX6_mean cX6_mean 7 (some .double))) B.pre w (List.mem_cons_of_mem _ h)
  have hown : s.vm.findClass RX6 = some m.cls := findClass_of_methodNamed B.named
  have hlk := B.notSynchronized
  have hC : CallFix p m c cX6_mean 7 s _ wsL_law RX6 := ⟨hx, hb, hml, hown, hts⟩
  subst hsz
  have hD := hD0.self (sz := s.heap.size)
  generalize hAe : va_A [oO mo 6 [.int th, .ref a1, .int (nI nC), .ref a2, .ref a3, .ref a4, .ref a5, .ref a6, .ref a7, .ref a8, .ref a9, .int (nI nS), .ref a10, .int (nI nM), .ref a11]] s.heap.size = A at hD ⊢
  have hA : ∀ q : Nat, s.heap.size ≤ q → A q := fun q h => by rw [← hAe]; exact Or.inr h
  have hS : va_S A s.heap s.heap [] := va_S.rf
  obtain ⟨H, hHe⟩ : ∃ H, H = s.heap := ⟨_, rfl⟩
  rw [← hHe] at hP
  have hS : va_S A s.heap H [] := by rw [hHe]; exact hS
  have hl := lv_entry ([.ref mo, .int p1, .int x, .int y]) (n := 7) (Nat.le_of_ble_eq_true rfl)
  rw [lg_entry_eq]
  generalize (lg_sl ([.ref mo, .int p1, .int x, .int y]) ++ List.replicate (7 - (lg_sl ([.ref mo, .int p1, .int x, .int y])).length) Slot.unset).toArray = ls at hl ⊢
  have hl : lv_has ls 7 [(0, .ref mo), (1, .int p1), (2, .int x), (3, .int y)] := hl
  rw [← hHe]
  refine lv_aload_n hx hb dX6_mean_0 rfl (lv_at hl 0 rfl) ?_
  refine lv_iload_n hx hb dX6_mean_1 rfl (lv_at hl 1 rfl) ?_
  refine lv_iload_n hx hb dX6_mean_2 rfl (lv_at hl 2 rfl) ?_
  refine lv_iload_n hx hb dX6_mean_3 rfl (lv_at hl 3 rfl) ?_
  have hP9 : va_P D cls [] H := fun k q h => by simp at h
  refine vp_callSi (pS (rest := [.ref mo]) [.int p1, .int x, .int y] 3 hC (m_span_2 l D (p1 := p1) (x := x) (y := y) (h) (hh)) (gS mM_X6_164 mT_X6_spanError mN_X6 mC_X6_spanError) (by decide +kernel) rfl rfl ⟨Nat.le_of_ble_eq_true rfl, Nat.le_of_ble_eq_true rfl⟩ hG hP9 rfl hl.1 rfl (Nat.le_of_ble_eq_true rfl) dX6_mean_4 ⟨Nat.le_of_ble_eq_true rfl, Nat.le_of_ble_eq_true rfl⟩) (fun r4 h4 => ?_)
  obtain rfl : r4 = 2 := h4
  refine va_put (D := D) (ci := 6) (v := .int 2) (ty := .int) (C := RX6) (T := TX6) (N := 15) hx hb hts inlX6 tyX6 tyX6_ok nmX6 hown hG.K hP hD hS 0 rfl rfl 0 (by decide) (hts _ mF_X6_43) (fun _ h9 => h9) rfl (by decide +kernel) rfl rfl (Nat.le_of_ble_eq_true rfl) dX6_mean_7 (fun H locs hP hD hS => ?_)
  have hP : va_P D cls [oO mo 6 [.int 2, .ref a1, .int (nI nC), .ref a2, .ref a3, .ref a4, .ref a5, .ref a6, .ref a7, .ref a8, .ref a9, .int (nI nS), .ref a10, .int (nI nM), .ref a11]] H := hP
  have hD : va_D A [oO mo 6 [.int 2, .ref a1, .int (nI nC), .ref a2, .ref a3, .ref a4, .ref a5, .ref a6, .ref a7, .ref a8, .ref a9, .int (nI nS), .ref a10, .int (nI nM), .ref a11]] := hD
  refine lv_aload_n hx hb dX6_mean_10 rfl (lv_at hl 0 rfl) ?_
  refine va_get (D := D) (ci := 6) (v := .int 2) (C := RX6) (T := TX6) (N := 15) hx hb hts inlX6 hown hG.K hP 0 rfl rfl 0 (by decide) (hts _ mF_X6_43) (fun _ h9 => h9) rfl dX6_mean_11 ?_
  refine lv_if_eq (tgt := 19) hx hb dX6_mean_14 (by decide) (fun h9 => absurd h9 (by decide)) (fun _ => ?_)
  refine lv_dconst0 hx hb dX6_mean_17 ?_
  refine Wd () hx hb hr hlk ?_ hP hD hS (Nat.le_of_ble_eq_true rfl) (by first | exact Nat.le_of_ble_eq_true rfl | exact Nat.le_of_eq (Nat.zero_add _)) dX6_mean_18
  exact trivial
set_option maxHeartbeats 400000 in
set_option maxRecDepth 100000 in
theorem m_reaches (l : Launch) (D : va_G) {mo a1 a2 a3 a4 a5 a6 a7 a8 a9 a10 a11 nC nS nM : Nat} {th : Int32} {bs ln ks tm wo ea pa : Nat → Int32} {ck : Nat → Nat} {pt : Nat → Nat → Int32} {len : Nat → Int32} {sz : Nat → Nat → Nat} {f : Nat → Nat → Nat → Int32} {j : Nat} {a0 b0 : Nat} {y : Int32} {vf : Nat → Int32} (hz0 : Nat) (hn10 : nS ≤ 10) (hj : j < 4) (hpa : ∀ i, i < nS → ∀ w, w < 13 → ¬ w = 2 → pa (13 * i + w) = pt i w) (hc0 : ∀ i, i < nS → pa (13 * i) = nI (ck i)) (hc6 : ∀ i, i < nS → ck i < 6) (hlq : ∀ i, i < nS → ln (ck i) = len (ck i)) (hO : ∀ i, i < nS → sOK (len (ck i)) (pt i)) (hks : ∀ i, i < nS → ks (4 * ck i + j) = nI (sz (ck i) j)) (h16 : ∀ i, i < nS → sz (ck i) j ≤ 16) (htm : ∀ i, i < nS → ∀ k, k < sz (ck i) j → tm (16 * (4 * ck i + j) + k) = f (ck i) (3 * j) k) (hwo : ∀ i, i < nS → ∀ k, k < sz (ck i) j → wo (16 * (4 * ck i + j) + k) = f (ck i) (3 * j + 1) k) (hea : ∀ i, i < nS → ∀ k, k < sz (ck i) j → ea (16 * (4 * ck i + j) + k) = f (ck i) (3 * j + 2) k) (hT : ∀ i, i < nS → tOK (f (ck i) (3 * j)) (sz (ck i) j)) (hV : ∀ i, i < nS → ∀ k, k < sz (ck i) j → -10000 ≤ (f (ck i) (3 * j + 1) k).toInt ∧ (f (ck i) (3 * j + 1) k).toInt ≤ 10000) (ha0 : a0 ≤ 100000) (hab : a0 ≤ b0) (hb3 : b0 ≤ a0 + 300) (hB : ∀ x, a0 ≤ x → x ≤ b0 → ∀ ll : List Nat, ll.length ≤ 10 → (∀ z, z ∈ ll → z < nS) → -1073741824 ≤ (valL (fun z v => blendS (len (ck z)) (pt z) (sz (ck z) j) (f (ck z) (3 * j)) (f (ck z) (3 * j + 1)) (f (ck z) (3 * j + 2)) v (nI x)) ll (bs j) ll.length).toInt ∧ (valL (fun z v => blendS (len (ck z)) (pt z) (sz (ck z) j) (f (ck z) (3 * j)) (f (ck z) (3 * j + 1)) (f (ck z) (3 * j + 2)) v (nI x)) ll (bs j) ll.length).toInt ≤ 1073741824) (hE : ∀ i, i < nS → ∀ y : Int32, -1073741824 ≤ (evT (sz (ck i) j) (f (ck i) (3 * j)) (f (ck i) (3 * j + 1)) (f (ck i) (3 * j + 2)) y).toInt ∧ (evT (sz (ck i) j) (f (ck i) (3 * j)) (f (ck i) (3 * j + 1)) (f (ck i) (3 * j + 2)) y).toInt ≤ 1073741823) (hvf : ∀ x, vf x = valL (fun z v => blendS (len (ck z)) (pt z) (sz (ck z) j) (f (ck z) (3 * j)) (f (ck z) (3 * j + 1)) (f (ck z) (3 * j + 2)) v (nI x)) (lyT (fun z => pt z 7) nS 10) (bs j) (lyT (fun z => pt z 7) nS 10).length) : Met l yX6_reaches (ws_ yX6_reaches cX6_reaches 6 (some .int)) ({ frames := 6, cells := 0, slots := 0, locals := 141 } : Room) (va_Pc [.ref mo, .int (nI j), .int (nI a0), .int (nI b0), .int y] (SW D [oO mo 6 [.int th, .ref a1, .int (nI nC), .ref a2, .ref a3, .ref a4, .ref a5, .ref a6, .ref a7, .ref a8, .ref a9, .int (nI nS), .ref a10, .int (nI nM), .ref a11], aI D a1 4 bs, aI D a2 6 ln, aI D a3 24 ks, aI D a4 384 tm, aI D a5 384 wo, aI D a6 384 ea, aI D a10 130 pa] hz0)) (va_Qi (fun v _ => (∃ x, a0 ≤ x ∧ x ≤ b0 ∧ v = nI x ∧ y ≤ vf x ∧ ∀ z, a0 ≤ z → z < x → ¬ y ≤ vf z) ∨ (v = -1 ∧ ∀ z, a0 ≤ z → z ≤ b0 → ¬ y ≤ vf z)) (AT D (va_A [oO mo 6 [.int th, .ref a1, .int (nI nC), .ref a2, .ref a3, .ref a4, .ref a5, .ref a6, .ref a7, .ref a8, .ref a9, .int (nI nS), .ref a10, .int (nI nM), .ref a11], aI D a1 4 bs, aI D a2 6 ln, aI D a3 24 ks, aI D a4 384 tm, aI D a5 384 wo, aI D a6 384 ea, aI D a10 130 pa] hz0) (fun _ : Unit => [oO mo 6 [.int 0, .ref a1, .int (nI nC), .ref a2, .ref a3, .ref a4, .ref a5, .ref a6, .ref a7, .ref a8, .ref a9, .int (nI nS), .ref a10, .int (nI nM), .ref a11], aI D a1 4 bs, aI D a2 6 ln, aI D a3 24 ks, aI D a4 384 tm, aI D a5 384 wo, aI D a6 384 ea, aI D a10 130 pa])) (va_A [oO mo 6 [.int th, .ref a1, .int (nI nC), .ref a2, .ref a3, .ref a4, .ref a5, .ref a6, .ref a7, .ref a8, .ref a9, .int (nI nS), .ref a10, .int (nI nM), .ref a11], aI D a1 4 bs, aI D a2 6 ln, aI D a3 24 ks, aI D a4 384 tm, aI D a5 384 wo, aI D a6 384 ea, aI D a10 130 pa] hz0)) 0 0 (va_A [oO mo 6 [.int th, .ref a1, .int (nI nC), .ref a2, .ref a3, .ref a4, .ref a5, .ref a6, .ref a7, .ref a8, .ref a9, .int (nI nS), .ref a10, .int (nI nM), .ref a11], aI D a1 4 bs, aI D a2 6 ln, aI D a3 24 ks, aI D a4 384 tm, aI D a5 384 wo, aI D a6 384 ea, aI D a10 130 pa] hz0) := by
  refine Met.ofW (cc := cX6_reaches) (maxL := 6) (ret := (some .int)) (by decide) rfl ?_
  intro p e s m args below meth c s₁ B hml hv
  obtain ⟨rfl, hsz, hG, hP, hD0⟩ := hv
  have hx := B.exec
  have hb := B.bytes
  have hr := B.returns
  have hts : ∀ w ∈ wsL_law, w.before _ s = true := fun w h => atoms_spec (ws := (ws_ yX6_reaches cX6_reaches 6 (some .int))) B.pre w (List.mem_cons_of_mem _ h)
  have hown : s.vm.findClass RX6 = some m.cls := findClass_of_methodNamed B.named
  have hlk := B.notSynchronized
  have hC : CallFix p m c cX6_reaches 6 s _ wsL_law RX6 := ⟨hx, hb, hml, hown, hts⟩
  subst hsz
  have hD := hD0.self (sz := s.heap.size)
  generalize hAe : va_A [oO mo 6 [.int th, .ref a1, .int (nI nC), .ref a2, .ref a3, .ref a4, .ref a5, .ref a6, .ref a7, .ref a8, .ref a9, .int (nI nS), .ref a10, .int (nI nM), .ref a11], aI D a1 4 bs, aI D a2 6 ln, aI D a3 24 ks, aI D a4 384 tm, aI D a5 384 wo, aI D a6 384 ea, aI D a10 130 pa] s.heap.size = A at hD ⊢
  have hA : ∀ q : Nat, s.heap.size ≤ q → A q := fun q h => by rw [← hAe]; exact Or.inr h
  have hS : va_S A s.heap s.heap [] := va_S.rf
  obtain ⟨H, hHe⟩ : ∃ H, H = s.heap := ⟨_, rfl⟩
  rw [← hHe] at hP
  have hS : va_S A s.heap H [] := by rw [hHe]; exact hS
  have hl := lv_entry ([.ref mo, .int (nI j), .int (nI a0), .int (nI b0), .int y]) (n := 6) (Nat.le_of_ble_eq_true rfl)
  rw [lg_entry_eq]
  generalize (lg_sl ([.ref mo, .int (nI j), .int (nI a0), .int (nI b0), .int y]) ++ List.replicate (6 - (lg_sl ([.ref mo, .int (nI j), .int (nI a0), .int (nI b0), .int y])).length) Slot.unset).toArray = ls at hl ⊢
  have hl : lv_has ls 6 [(0, .ref mo), (1, .int (nI j)), (2, .int (nI a0)), (3, .int (nI b0)), (4, .int y)] := hl
  rw [← hHe]
  refine lv_aload_n hx hb dX6_reaches_0 rfl (lv_at hl 0 rfl) ?_
  refine lv_iload_n hx hb dX6_reaches_1 rfl (lv_at hl 1 rfl) ?_
  refine lv_iload_n hx hb dX6_reaches_2 rfl (lv_at hl 2 rfl) ?_
  refine lv_iload_n hx hb dX6_reaches_3 rfl (lv_at hl 3 rfl) ?_
  have hP9 : va_P D cls [] H := fun k q h => by simp at h
  refine vp_callSi (pS (rest := [.ref mo]) [.int (nI j), .int (nI a0), .int (nI b0)] 3 hC (m_span_0 l D (p1 := nI j) (x := nI a0) (y := nI b0) (in3 hj) (⟨⟨nI_pos' (by omega), (nI_leI (a := a0) (b := 100000) (by omega) (by omega)).mpr (by omega)⟩, (nI_leI (a := a0) (b := b0) (by omega) (by omega)).mpr hab, by rw [show nI a0 + 300 = nI (a0 + 300) from nI_add a0 300]; exact (nI_leI (a := b0) (b := a0 + 300) (by omega) (by omega)).mpr hb3⟩)) (gS mM_X6_164 mT_X6_spanError mN_X6 mC_X6_spanError) (by decide +kernel) rfl rfl ⟨Nat.le_of_ble_eq_true rfl, Nat.le_of_ble_eq_true rfl⟩ hG hP9 rfl hl.1 rfl (Nat.le_of_ble_eq_true rfl) dX6_reaches_4 ⟨Nat.le_of_ble_eq_true rfl, Nat.le_of_ble_eq_true rfl⟩) (fun r4 h4 => ?_)
  obtain rfl : r4 = 0 := h4
  refine va_put (D := D) (ci := 6) (v := .int 0) (ty := .int) (C := RX6) (T := TX6) (N := 15) hx hb hts inlX6 tyX6 tyX6_ok nmX6 hown hG.K hP hD hS 0 rfl rfl 0 (by decide) (hts _ mF_X6_43) (fun _ h9 => h9) rfl (by decide +kernel) rfl rfl (Nat.le_of_ble_eq_true rfl) dX6_reaches_7 (fun H locs hP hD hS => ?_)
  have hP : va_P D cls [oO mo 6 [.int 0, .ref a1, .int (nI nC), .ref a2, .ref a3, .ref a4, .ref a5, .ref a6, .ref a7, .ref a8, .ref a9, .int (nI nS), .ref a10, .int (nI nM), .ref a11], aI D a1 4 bs, aI D a2 6 ln, aI D a3 24 ks, aI D a4 384 tm, aI D a5 384 wo, aI D a6 384 ea, aI D a10 130 pa] H := hP
  have hD : va_D A [oO mo 6 [.int 0, .ref a1, .int (nI nC), .ref a2, .ref a3, .ref a4, .ref a5, .ref a6, .ref a7, .ref a8, .ref a9, .int (nI nS), .ref a10, .int (nI nM), .ref a11], aI D a1 4 bs, aI D a2 6 ln, aI D a3 24 ks, aI D a4 384 tm, aI D a5 384 wo, aI D a6 384 ea, aI D a10 130 pa] := hD
  refine lv_aload_n hx hb dX6_reaches_10 rfl (lv_at hl 0 rfl) ?_
  refine va_get (D := D) (ci := 6) (v := .int 0) (C := RX6) (T := TX6) (N := 15) hx hb hts inlX6 hown hG.K hP 0 rfl rfl 0 (by decide) (hts _ mF_X6_43) (fun _ h9 => h9) rfl dX6_reaches_11 ?_
  refine lv_if_eq (tgt := 19) hx hb dX6_reaches_14 (by decide) (fun _ => ?_) (fun h9 => (h9 (by decide)).elim)
  refine lv_iload_n hx hb dX6_reaches_19 rfl (lv_at hl 2 rfl) ?_
  refine lv_istore (lv' := [(5, .int (nI a0)), (0, .ref mo), (1, .int (nI j)), (2, .int (nI a0)), (3, .int (nI b0)), (4, .int y)]) hx hb dX6_reaches_20 hl (by decide) rfl (fun ls hl => ?_)
  have loop22 : ∀ (d9 : Nat) (t0 : Nat), (b0 + 1 - t0) < d9 → (a0 ≤ t0) → (t0 ≤ b0 + 1) → (∀ z, a0 ≤ z → z < t0 → ¬ y ≤ vf z) → ∀ (ls : Array Slot), lv_has ls 6 [(0, .ref mo), (1, .int (nI j)), (3, .int (nI b0)), (4, .int y), (5, .int (nI t0))] → W p l e ({ frames := 6, cells := 0, slots := 0, locals := 141 } : Room) s m ([.ref mo, .int (nI j), .int (nI a0), .int (nI b0), .int y] : List Value).toArray below meth c H locs 0 0 (MQ below (va_Qi (fun v _ => (∃ x, a0 ≤ x ∧ x ≤ b0 ∧ v = nI x ∧ y ≤ vf x ∧ ∀ z, a0 ≤ z → z < x → ¬ y ≤ vf z) ∨ (v = -1 ∧ ∀ z, a0 ≤ z → z ≤ b0 → ¬ y ≤ vf z)) (AT D A (fun _ : Unit => [oO mo 6 [.int 0, .ref a1, .int (nI nC), .ref a2, .ref a3, .ref a4, .ref a5, .ref a6, .ref a7, .ref a8, .ref a9, .int (nI nS), .ref a10, .int (nI nM), .ref a11], aI D a1 4 bs, aI D a2 6 ln, aI D a3 24 ks, aI D a4 384 tm, aI D a5 384 wo, aI D a6 384 ea, aI D a10 130 pa])) A) ([.ref mo, .int (nI j), .int (nI a0), .int (nI b0), .int y] : List Value).toArray s 0 0 A) (F0 m 22 ls []) := by
    intro d9
    induction d9 with
    | zero => intro t0 hd; exact absurd hd (Nat.not_lt_zero _)
    | succ d9 ih22 =>
      intro t0 hd22 ht0 ht1 hno ls hl
      refine lv_iload hx hb dX6_reaches_22 (lv_at hl 4 rfl) ?_
      refine lv_iload_n hx hb dX6_reaches_24 rfl (lv_at hl 2 rfl) ?_
      refine lv_icmp_gt (tgt := 49) hx hb dX6_reaches_25 (by decide) (fun c25 => ?_) (fun c25 => ?_)
      · skip
        have n25 := (nI_ltI (a := b0) (b := t0) (by omega) (by omega)).mp c25
        refine lv_iconst (v := -1) hx hb dX6_reaches_49 (by decide) ?_
        refine Wi () hx hb hr hlk ?_ hP hD hS (Nat.le_of_ble_eq_true rfl) (by first | exact Nat.le_of_ble_eq_true rfl | exact Nat.le_of_eq (Nat.zero_add _)) dX6_reaches_50
        exact Or.inr ⟨rfl, fun z h1 h2 => hno z h1 (by omega)⟩
      · skip
        have n25 := mt (nI_ltI (a := b0) (b := t0) (by omega) (by omega)).mpr c25
        refine lv_aload_n hx hb dX6_reaches_28 rfl (lv_at hl 0 rfl) ?_
        refine lv_iload_n hx hb dX6_reaches_29 rfl (lv_at hl 1 rfl) ?_
        refine lv_iload hx hb dX6_reaches_30 (lv_at hl 4 rfl) ?_
        have hP9 := hP
        refine vp_callSi (pV (rest := []) (qc := (RX6, TX6, 15)) [.int (nI j), .int (nI t0)] 2 hC (m_played l D (ck := ck) (pt := pt) (len := len) (sz := sz) (f := f) (mo := mo) (j := j) (x := nI t0) (th := 0) (a1 := a1) (nC := nC) (a2 := a2) (a3 := a3) (a4 := a4) (a5 := a5) (a6 := a6) (a7 := a7) (a8 := a8) (a9 := a9) (nS := nS) (a10 := a10) (nM := nM) (a11 := a11) (bs := bs) (ln := ln) (ks := ks) (tm := tm) (wo := wo) (ea := ea) (pa := pa) (by omega) (by omega) (hpa) (hc0) (hc6) (hlq) (hO) (hks) (h16) (htm) (hwo) (hea) (hT) (hV) (hB t0 (by omega) (by omega)) (hE) (by rw [nI_toInt (by omega)]; omega) (by rw [nI_toInt (by omega)]; omega)) rfl (hP 0 _ rfl) (gV mM_X6_161 mI_X6_played mS_X6_played mN_X6 mC_X6_played) (by decide +kernel) rfl rfl ⟨Nat.le_of_ble_eq_true rfl, Nat.le_of_ble_eq_true rfl⟩ hG hP9 rfl hl.1 rfl (Nat.le_of_ble_eq_true rfl) dX6_reaches_32 ⟨Nat.le_of_ble_eq_true rfl, Nat.le_of_ble_eq_true rfl⟩) (fun r32 h32 => ?_)
        obtain rfl : r32 = (valL (fun z v => blendS (len (ck z)) (pt z) (sz (ck z) j) (f (ck z) (3 * j)) (f (ck z) (3 * j + 1)) (f (ck z) (3 * j + 2)) v (nI t0)) (lyT (fun z => pt z 7) nS 10) (bs j) (lyT (fun z => pt z 7) nS 10).length) := h32
        refine tpi (y := vf t0) ((hvf t0).symm) ?_
        refine lv_iload hx hb dX6_reaches_35 (lv_at hl 3 rfl) ?_
        refine lv_icmp_lt (tgt := 43) hx hb dX6_reaches_37 (by decide) (fun c37 => ?_) (fun c37 => ?_)
        · skip
          refine lv_iinc (v := nI (t0 + 1)) (lv' := [(5, .int (nI (t0 + 1))), (0, .ref mo), (1, .int (nI j)), (3, .int (nI b0)), (4, .int y)]) hx hb dX6_reaches_43 hl (k := 4) rfl (nI_1 _) (by decide) rfl (fun ls hl => ?_)
          refine lv_goto (tgt := 22) hx hb dX6_reaches_46 (by decide) ?_
          exact ih22 (t0 + 1) (by omega) (by omega) (by omega) (fun z h1 h2 => by
                            rcases Nat.lt_or_ge z t0 with q | q
                            · exact hno z h1 q
                            · have e9 : z = t0 := by omega
                              subst e9
                              exact Int32.not_le.mpr c37) _ (lv_sub hl [1, 2, 3, 4, 0] rfl)
        · skip
          refine lv_iload hx hb dX6_reaches_40 (lv_at hl 4 rfl) ?_
          refine Wi () hx hb hr hlk ?_ hP hD hS (Nat.le_of_ble_eq_true rfl) (by first | exact Nat.le_of_ble_eq_true rfl | exact Nat.le_of_eq (Nat.zero_add _)) dX6_reaches_42
          exact Or.inl ⟨t0, by omega, by omega, rfl, Int32.not_lt.mp c37, hno⟩
  exact loop22 _ a0 (Nat.lt_succ_self _) (by omega) (by omega) (fun z h1 h2 => absurd h2 (Nat.not_lt.mpr h1)) _ (lv_sub hl [1, 2, 4, 5, 0] rfl)
set_option maxHeartbeats 400000 in
set_option maxRecDepth 100000 in
theorem m_mean (l : Launch) (D : va_G) {mo a1 a2 a3 a4 a5 a6 a7 a8 a9 a10 a11 nC nS nM : Nat} {th : Int32} {bs ln ks tm wo ea pa : Nat → Int32} {ck : Nat → Nat} {pt : Nat → Nat → Int32} {len : Nat → Int32} {sz : Nat → Nat → Nat} {f : Nat → Nat → Nat → Int32} {j : Nat} {a0 b0 : Nat} {vf : Nat → Int32} (hz0 : Nat) (hn10 : nS ≤ 10) (hj : j < 4) (hpa : ∀ i, i < nS → ∀ w, w < 13 → ¬ w = 2 → pa (13 * i + w) = pt i w) (hc0 : ∀ i, i < nS → pa (13 * i) = nI (ck i)) (hc6 : ∀ i, i < nS → ck i < 6) (hlq : ∀ i, i < nS → ln (ck i) = len (ck i)) (hO : ∀ i, i < nS → sOK (len (ck i)) (pt i)) (hks : ∀ i, i < nS → ks (4 * ck i + j) = nI (sz (ck i) j)) (h16 : ∀ i, i < nS → sz (ck i) j ≤ 16) (htm : ∀ i, i < nS → ∀ k, k < sz (ck i) j → tm (16 * (4 * ck i + j) + k) = f (ck i) (3 * j) k) (hwo : ∀ i, i < nS → ∀ k, k < sz (ck i) j → wo (16 * (4 * ck i + j) + k) = f (ck i) (3 * j + 1) k) (hea : ∀ i, i < nS → ∀ k, k < sz (ck i) j → ea (16 * (4 * ck i + j) + k) = f (ck i) (3 * j + 2) k) (hT : ∀ i, i < nS → tOK (f (ck i) (3 * j)) (sz (ck i) j)) (hV : ∀ i, i < nS → ∀ k, k < sz (ck i) j → -10000 ≤ (f (ck i) (3 * j + 1) k).toInt ∧ (f (ck i) (3 * j + 1) k).toInt ≤ 10000) (ha0 : a0 ≤ 100000) (hab : a0 ≤ b0) (hb3 : b0 ≤ a0 + 300) (hB : ∀ x, a0 ≤ x → x ≤ b0 → ∀ ll : List Nat, ll.length ≤ 10 → (∀ z, z ∈ ll → z < nS) → -1073741824 ≤ (valL (fun z v => blendS (len (ck z)) (pt z) (sz (ck z) j) (f (ck z) (3 * j)) (f (ck z) (3 * j + 1)) (f (ck z) (3 * j + 2)) v (nI x)) ll (bs j) ll.length).toInt ∧ (valL (fun z v => blendS (len (ck z)) (pt z) (sz (ck z) j) (f (ck z) (3 * j)) (f (ck z) (3 * j + 1)) (f (ck z) (3 * j + 2)) v (nI x)) ll (bs j) ll.length).toInt ≤ 1073741824) (hE : ∀ i, i < nS → ∀ y : Int32, -1073741824 ≤ (evT (sz (ck i) j) (f (ck i) (3 * j)) (f (ck i) (3 * j + 1)) (f (ck i) (3 * j + 2)) y).toInt ∧ (evT (sz (ck i) j) (f (ck i) (3 * j)) (f (ck i) (3 * j + 1)) (f (ck i) (3 * j + 2)) y).toInt ≤ 1073741823) (hvf : ∀ x, vf x = valL (fun z v => blendS (len (ck z)) (pt z) (sz (ck z) j) (f (ck z) (3 * j)) (f (ck z) (3 * j + 1)) (f (ck z) (3 * j + 2)) v (nI x)) (lyT (fun z => pt z 7) nS 10) (bs j) (lyT (fun z => pt z 7) nS 10).length) (hnan : vf_n64 (FP.ddiv (FP.l2d (sumF vf a0 (b0 + 1 - a0))) (FP.i2d (nI (b0 - a0 + 1))))) : Met l yX6_mean (ws_ yX6_mean cX6_mean 7 (some .double)) ({ frames := 6, cells := 0, slots := 0, locals := 141 } : Room) (va_Pc [.ref mo, .int (nI j), .int (nI a0), .int (nI b0)] (SW D [oO mo 6 [.int th, .ref a1, .int (nI nC), .ref a2, .ref a3, .ref a4, .ref a5, .ref a6, .ref a7, .ref a8, .ref a9, .int (nI nS), .ref a10, .int (nI nM), .ref a11], aI D a1 4 bs, aI D a2 6 ln, aI D a3 24 ks, aI D a4 384 tm, aI D a5 384 wo, aI D a6 384 ea, aI D a10 130 pa] hz0)) (va_Qd (fun v _ => v = FP.ddiv (FP.l2d (sumF vf a0 (b0 + 1 - a0))) (FP.i2d (nI (b0 - a0 + 1)))) (AT D (va_A [oO mo 6 [.int th, .ref a1, .int (nI nC), .ref a2, .ref a3, .ref a4, .ref a5, .ref a6, .ref a7, .ref a8, .ref a9, .int (nI nS), .ref a10, .int (nI nM), .ref a11], aI D a1 4 bs, aI D a2 6 ln, aI D a3 24 ks, aI D a4 384 tm, aI D a5 384 wo, aI D a6 384 ea, aI D a10 130 pa] hz0) (fun _ : Unit => [oO mo 6 [.int 0, .ref a1, .int (nI nC), .ref a2, .ref a3, .ref a4, .ref a5, .ref a6, .ref a7, .ref a8, .ref a9, .int (nI nS), .ref a10, .int (nI nM), .ref a11], aI D a1 4 bs, aI D a2 6 ln, aI D a3 24 ks, aI D a4 384 tm, aI D a5 384 wo, aI D a6 384 ea, aI D a10 130 pa])) (va_A [oO mo 6 [.int th, .ref a1, .int (nI nC), .ref a2, .ref a3, .ref a4, .ref a5, .ref a6, .ref a7, .ref a8, .ref a9, .int (nI nS), .ref a10, .int (nI nM), .ref a11], aI D a1 4 bs, aI D a2 6 ln, aI D a3 24 ks, aI D a4 384 tm, aI D a5 384 wo, aI D a6 384 ea, aI D a10 130 pa] hz0)) 0 0 (va_A [oO mo 6 [.int th, .ref a1, .int (nI nC), .ref a2, .ref a3, .ref a4, .ref a5, .ref a6, .ref a7, .ref a8, .ref a9, .int (nI nS), .ref a10, .int (nI nM), .ref a11], aI D a1 4 bs, aI D a2 6 ln, aI D a3 24 ks, aI D a4 384 tm, aI D a5 384 wo, aI D a6 384 ea, aI D a10 130 pa] hz0) := by
  refine Met.ofW (cc := cX6_mean) (maxL := 7) (ret := (some .double)) (by decide) rfl ?_
  intro p e s m args below meth c s₁ B hml hv
  obtain ⟨rfl, hsz, hG, hP, hD0⟩ := hv
  have hx := B.exec
  have hb := B.bytes
  have hr := B.returns
  have hts : ∀ w ∈ wsL_law, w.before _ s = true := fun w h => atoms_spec (ws := (ws_ yX6_mean cX6_mean 7 (some .double))) B.pre w (List.mem_cons_of_mem _ h)
  have hown : s.vm.findClass RX6 = some m.cls := findClass_of_methodNamed B.named
  have hlk := B.notSynchronized
  have hC : CallFix p m c cX6_mean 7 s _ wsL_law RX6 := ⟨hx, hb, hml, hown, hts⟩
  subst hsz
  have hD := hD0.self (sz := s.heap.size)
  generalize hAe : va_A [oO mo 6 [.int th, .ref a1, .int (nI nC), .ref a2, .ref a3, .ref a4, .ref a5, .ref a6, .ref a7, .ref a8, .ref a9, .int (nI nS), .ref a10, .int (nI nM), .ref a11], aI D a1 4 bs, aI D a2 6 ln, aI D a3 24 ks, aI D a4 384 tm, aI D a5 384 wo, aI D a6 384 ea, aI D a10 130 pa] s.heap.size = A at hD ⊢
  have hA : ∀ q : Nat, s.heap.size ≤ q → A q := fun q h => by rw [← hAe]; exact Or.inr h
  have hS : va_S A s.heap s.heap [] := va_S.rf
  obtain ⟨H, hHe⟩ : ∃ H, H = s.heap := ⟨_, rfl⟩
  rw [← hHe] at hP
  have hS : va_S A s.heap H [] := by rw [hHe]; exact hS
  have hl := lv_entry ([.ref mo, .int (nI j), .int (nI a0), .int (nI b0)]) (n := 7) (Nat.le_of_ble_eq_true rfl)
  rw [lg_entry_eq]
  generalize (lg_sl ([.ref mo, .int (nI j), .int (nI a0), .int (nI b0)]) ++ List.replicate (7 - (lg_sl ([.ref mo, .int (nI j), .int (nI a0), .int (nI b0)])).length) Slot.unset).toArray = ls at hl ⊢
  have hl : lv_has ls 7 [(0, .ref mo), (1, .int (nI j)), (2, .int (nI a0)), (3, .int (nI b0))] := hl
  rw [← hHe]
  refine lv_aload_n hx hb dX6_mean_0 rfl (lv_at hl 0 rfl) ?_
  refine lv_iload_n hx hb dX6_mean_1 rfl (lv_at hl 1 rfl) ?_
  refine lv_iload_n hx hb dX6_mean_2 rfl (lv_at hl 2 rfl) ?_
  refine lv_iload_n hx hb dX6_mean_3 rfl (lv_at hl 3 rfl) ?_
  have hP9 : va_P D cls [] H := fun k q h => by simp at h
  refine vp_callSi (pS (rest := [.ref mo]) [.int (nI j), .int (nI a0), .int (nI b0)] 3 hC (m_span_0 l D (p1 := nI j) (x := nI a0) (y := nI b0) (in3 hj) (⟨⟨nI_pos' (by omega), (nI_leI (a := a0) (b := 100000) (by omega) (by omega)).mpr (by omega)⟩, (nI_leI (a := a0) (b := b0) (by omega) (by omega)).mpr hab, by rw [show nI a0 + 300 = nI (a0 + 300) from nI_add a0 300]; exact (nI_leI (a := b0) (b := a0 + 300) (by omega) (by omega)).mpr hb3⟩)) (gS mM_X6_164 mT_X6_spanError mN_X6 mC_X6_spanError) (by decide +kernel) rfl rfl ⟨Nat.le_of_ble_eq_true rfl, Nat.le_of_ble_eq_true rfl⟩ hG hP9 rfl hl.1 rfl (Nat.le_of_ble_eq_true rfl) dX6_mean_4 ⟨Nat.le_of_ble_eq_true rfl, Nat.le_of_ble_eq_true rfl⟩) (fun r4 h4 => ?_)
  obtain rfl : r4 = 0 := h4
  refine va_put (D := D) (ci := 6) (v := .int 0) (ty := .int) (C := RX6) (T := TX6) (N := 15) hx hb hts inlX6 tyX6 tyX6_ok nmX6 hown hG.K hP hD hS 0 rfl rfl 0 (by decide) (hts _ mF_X6_43) (fun _ h9 => h9) rfl (by decide +kernel) rfl rfl (Nat.le_of_ble_eq_true rfl) dX6_mean_7 (fun H locs hP hD hS => ?_)
  have hP : va_P D cls [oO mo 6 [.int 0, .ref a1, .int (nI nC), .ref a2, .ref a3, .ref a4, .ref a5, .ref a6, .ref a7, .ref a8, .ref a9, .int (nI nS), .ref a10, .int (nI nM), .ref a11], aI D a1 4 bs, aI D a2 6 ln, aI D a3 24 ks, aI D a4 384 tm, aI D a5 384 wo, aI D a6 384 ea, aI D a10 130 pa] H := hP
  have hD : va_D A [oO mo 6 [.int 0, .ref a1, .int (nI nC), .ref a2, .ref a3, .ref a4, .ref a5, .ref a6, .ref a7, .ref a8, .ref a9, .int (nI nS), .ref a10, .int (nI nM), .ref a11], aI D a1 4 bs, aI D a2 6 ln, aI D a3 24 ks, aI D a4 384 tm, aI D a5 384 wo, aI D a6 384 ea, aI D a10 130 pa] := hD
  refine lv_aload_n hx hb dX6_mean_10 rfl (lv_at hl 0 rfl) ?_
  refine va_get (D := D) (ci := 6) (v := .int 0) (C := RX6) (T := TX6) (N := 15) hx hb hts inlX6 hown hG.K hP 0 rfl rfl 0 (by decide) (hts _ mF_X6_43) (fun _ h9 => h9) rfl dX6_mean_11 ?_
  refine lv_if_eq (tgt := 19) hx hb dX6_mean_14 (by decide) (fun _ => ?_) (fun h9 => (h9 (by decide)).elim)
  refine lv_lconst (v := 0) hx hb dX6_mean_19 (by decide) ?_
  refine lv_lstore (lv' := [(4, .long 0), (0, .ref mo), (1, .int (nI j)), (2, .int (nI a0)), (3, .int (nI b0))]) hx hb dX6_mean_20 hl (by decide) rfl (fun ls hl => ?_)
  refine lv_iload_n hx hb dX6_mean_22 rfl (lv_at hl 3 rfl) ?_
  refine lv_istore (lv' := [(6, .int (nI a0)), (4, .long 0), (0, .ref mo), (1, .int (nI j)), (2, .int (nI a0)), (3, .int (nI b0))]) hx hb dX6_mean_23 hl (by decide) rfl (fun ls hl => ?_)
  have loop25 : ∀ (d9 : Nat) (k : Nat), (b0 + 1 - (a0 + k)) < d9 → (a0 + k ≤ b0 + 1) → ∀ (ls : Array Slot), lv_has ls 7 [(0, .ref mo), (1, .int (nI j)), (2, .int (nI a0)), (3, .int (nI b0)), (4, .long (sumF vf a0 k)), (6, .int (nI (a0 + k)))] → W p l e ({ frames := 6, cells := 0, slots := 0, locals := 141 } : Room) s m ([.ref mo, .int (nI j), .int (nI a0), .int (nI b0)] : List Value).toArray below meth c H locs 0 0 (MQ below (va_Qd (fun v _ => v = FP.ddiv (FP.l2d (sumF vf a0 (b0 + 1 - a0))) (FP.i2d (nI (b0 - a0 + 1)))) (AT D A (fun _ : Unit => [oO mo 6 [.int 0, .ref a1, .int (nI nC), .ref a2, .ref a3, .ref a4, .ref a5, .ref a6, .ref a7, .ref a8, .ref a9, .int (nI nS), .ref a10, .int (nI nM), .ref a11], aI D a1 4 bs, aI D a2 6 ln, aI D a3 24 ks, aI D a4 384 tm, aI D a5 384 wo, aI D a6 384 ea, aI D a10 130 pa])) A) ([.ref mo, .int (nI j), .int (nI a0), .int (nI b0)] : List Value).toArray s 0 0 A) (F0 m 25 ls []) := by
    intro d9
    induction d9 with
    | zero => intro k hd; exact absurd hd (Nat.not_lt_zero _)
    | succ d9 ih25 =>
      intro k hd25 hk ls hl
      refine lv_iload hx hb dX6_mean_25 (lv_at hl 5 rfl) ?_
      refine lv_iload_n hx hb dX6_mean_27 rfl (lv_at hl 3 rfl) ?_
      refine lv_icmp_gt (tgt := 50) hx hb dX6_mean_28 (by decide) (fun c28 => ?_) (fun c28 => ?_)
      · skip
        have n28 := (nI_ltI (a := b0) (b := a0 + k) (by omega) (by omega)).mp c28
        have hk8 : k = b0 + 1 - a0 := by omega
        subst k
        refine lv_lload hx hb dX6_mean_50 (lv_at hl 4 rfl) ?_
        refine lv_l2d hx hb dX6_mean_52 ?_
        refine lv_iload_n hx hb dX6_mean_53 rfl (lv_at hl 3 rfl) ?_
        refine lv_iload_n hx hb dX6_mean_54 rfl (lv_at hl 2 rfl) ?_
        refine lv_isub hx hb dX6_mean_55 ?_
        refine tpi (y := nI (b0 - a0)) (pk_sub (a := b0) (b := a0) (by omega)) ?_
        refine lv_iconst (v := 1) hx hb dX6_mean_56 (by decide) ?_
        refine lv_iadd hx hb dX6_mean_57 ?_
        refine tpi (y := nI ((b0 - a0) + 1)) (nI_add (b0 - a0) 1) ?_
        refine lv_i2d hx hb dX6_mean_58 ?_
        refine lv_ddiv hx hb dX6_mean_59 (hnan) ?_
        refine Wd () hx hb hr hlk ?_ hP hD hS (Nat.le_of_ble_eq_true rfl) (by first | exact Nat.le_of_ble_eq_true rfl | exact Nat.le_of_eq (Nat.zero_add _)) dX6_mean_60
        exact rfl
      · skip
        have n28 := mt (nI_ltI (a := b0) (b := a0 + k) (by omega) (by omega)).mpr c28
        refine lv_lload hx hb dX6_mean_31 (lv_at hl 4 rfl) ?_
        refine lv_aload_n hx hb dX6_mean_33 rfl (lv_at hl 0 rfl) ?_
        refine lv_iload_n hx hb dX6_mean_34 rfl (lv_at hl 1 rfl) ?_
        refine lv_iload hx hb dX6_mean_35 (lv_at hl 5 rfl) ?_
        have hP9 := hP
        refine vp_callSi (pV (rest := [.long (sumF vf a0 k)]) (qc := (RX6, TX6, 15)) [.int (nI j), .int (nI (a0 + k))] 2 hC (m_played l D (ck := ck) (pt := pt) (len := len) (sz := sz) (f := f) (mo := mo) (j := j) (x := nI (a0 + k)) (th := 0) (a1 := a1) (nC := nC) (a2 := a2) (a3 := a3) (a4 := a4) (a5 := a5) (a6 := a6) (a7 := a7) (a8 := a8) (a9 := a9) (nS := nS) (a10 := a10) (nM := nM) (a11 := a11) (bs := bs) (ln := ln) (ks := ks) (tm := tm) (wo := wo) (ea := ea) (pa := pa) (by omega) (by omega) (hpa) (hc0) (hc6) (hlq) (hO) (hks) (h16) (htm) (hwo) (hea) (hT) (hV) (hB (a0 + k) (by omega) (by omega)) (hE) (by rw [nI_toInt (by omega)]; omega) (by rw [nI_toInt (by omega)]; omega)) rfl (hP 0 _ rfl) (gV mM_X6_161 mI_X6_played mS_X6_played mN_X6 mC_X6_played) (by decide +kernel) rfl rfl ⟨Nat.le_of_ble_eq_true rfl, Nat.le_of_ble_eq_true rfl⟩ hG hP9 rfl hl.1 rfl (Nat.le_of_ble_eq_true rfl) dX6_mean_37 ⟨Nat.le_of_ble_eq_true rfl, Nat.le_of_ble_eq_true rfl⟩) (fun r37 h37 => ?_)
        obtain rfl : r37 = (valL (fun z v => blendS (len (ck z)) (pt z) (sz (ck z) j) (f (ck z) (3 * j)) (f (ck z) (3 * j + 1)) (f (ck z) (3 * j + 2)) v (nI (a0 + k))) (lyT (fun z => pt z 7) nS 10) (bs j) (lyT (fun z => pt z 7) nS 10).length) := h37
        refine tpi (y := vf (a0 + k)) ((hvf (a0 + k)).symm) ?_
        refine lv_i2l hx hb dX6_mean_40 rfl ?_
        refine lv_ladd hx hb dX6_mean_41 ?_
        refine tpl (y := sumF vf a0 (k + 1)) (rfl) ?_
        refine lv_lstore (lv' := [(4, .long (sumF vf a0 (k + 1))), (0, .ref mo), (1, .int (nI j)), (2, .int (nI a0)), (3, .int (nI b0)), (6, .int (nI (a0 + k)))]) hx hb dX6_mean_42 hl (by decide) rfl (fun ls hl => ?_)
        refine lv_iinc (v := nI (a0 + k + 1)) (lv' := [(6, .int (nI (a0 + k + 1))), (4, .long (sumF vf a0 (k + 1))), (0, .ref mo), (1, .int (nI j)), (2, .int (nI a0)), (3, .int (nI b0))]) hx hb dX6_mean_44 hl (k := 5) rfl (nI_1 _) (by decide) rfl (fun ls hl => ?_)
        refine lv_goto (tgt := 25) hx hb dX6_mean_47 (by decide) ?_
        exact ih25 (k + 1) (by omega) (by omega) _ (lv_sub hl [2, 3, 4, 5, 1, 0] rfl)
  exact loop25 _ 0 (Nat.lt_succ_self _) (by omega) _ (lv_sub hl [2, 3, 4, 5, 1, 0] rfl)
set_option maxHeartbeats 400000 in
set_option maxRecDepth 100000 in
theorem m_end (l : Launch) (D : va_G) {mo a1 a2 a3 a4 a5 a6 a7 a8 a9 a10 a11 nC nS nM : Nat} {th : Int32} {ln pa : Nat → Int32} {ck : Nat → Nat} {pt : Nat → Nat → Int32} {len : Nat → Int32} (hz0 : Nat) (hn10 : nS ≤ 10) (hpa : ∀ i, i < nS → ∀ w, w < 13 → ¬ w = 2 → pa (13 * i + w) = pt i w) (hc0 : ∀ i, i < nS → pa (13 * i) = nI (ck i)) (hc6 : ∀ i, i < nS → ck i < 6) (hlq : ∀ i, i < nS → ln (ck i) = len (ck i)) (hO : ∀ i, i < nS → sOK (len (ck i)) (pt i)) : Met l yX6_end (ws_ yX6_end cX6_end 3 (some .int)) ({ frames := 4, cells := 0, slots := 0, locals := 85 } : Room) (va_Pc [.ref mo] (SW D [oO mo 6 [.int th, .ref a1, .int (nI nC), .ref a2, .ref a3, .ref a4, .ref a5, .ref a6, .ref a7, .ref a8, .ref a9, .int (nI nS), .ref a10, .int (nI nM), .ref a11], aI D a2 6 ln, aI D a10 130 pa] hz0)) (va_Qi (fun v _ => v = endAll (fun i => endS (len (ck i)) (pt i)) nS) (AT D (va_A [oO mo 6 [.int th, .ref a1, .int (nI nC), .ref a2, .ref a3, .ref a4, .ref a5, .ref a6, .ref a7, .ref a8, .ref a9, .int (nI nS), .ref a10, .int (nI nM), .ref a11], aI D a2 6 ln, aI D a10 130 pa] hz0) (fun _ : Unit => [oO mo 6 [.int 0, .ref a1, .int (nI nC), .ref a2, .ref a3, .ref a4, .ref a5, .ref a6, .ref a7, .ref a8, .ref a9, .int (nI nS), .ref a10, .int (nI nM), .ref a11], aI D a2 6 ln, aI D a10 130 pa])) (va_A [oO mo 6 [.int th, .ref a1, .int (nI nC), .ref a2, .ref a3, .ref a4, .ref a5, .ref a6, .ref a7, .ref a8, .ref a9, .int (nI nS), .ref a10, .int (nI nM), .ref a11], aI D a2 6 ln, aI D a10 130 pa] hz0)) 0 0 (va_A [oO mo 6 [.int th, .ref a1, .int (nI nC), .ref a2, .ref a3, .ref a4, .ref a5, .ref a6, .ref a7, .ref a8, .ref a9, .int (nI nS), .ref a10, .int (nI nM), .ref a11], aI D a2 6 ln, aI D a10 130 pa] hz0) := by
  refine Met.ofW (cc := cX6_end) (maxL := 3) (ret := (some .int)) (by decide) rfl ?_
  intro p e s m args below meth c s₁ B hml hv
  obtain ⟨rfl, hsz, hG, hP, hD0⟩ := hv
  have hx := B.exec
  have hb := B.bytes
  have hr := B.returns
  have hts : ∀ w ∈ wsL_law, w.before _ s = true := fun w h => atoms_spec (ws := (ws_ yX6_end cX6_end 3 (some .int))) B.pre w (List.mem_cons_of_mem _ h)
  have hown : s.vm.findClass RX6 = some m.cls := findClass_of_methodNamed B.named
  have hlk := B.notSynchronized
  have hC : CallFix p m c cX6_end 3 s _ wsL_law RX6 := ⟨hx, hb, hml, hown, hts⟩
  subst hsz
  have hD := hD0.self (sz := s.heap.size)
  generalize hAe : va_A [oO mo 6 [.int th, .ref a1, .int (nI nC), .ref a2, .ref a3, .ref a4, .ref a5, .ref a6, .ref a7, .ref a8, .ref a9, .int (nI nS), .ref a10, .int (nI nM), .ref a11], aI D a2 6 ln, aI D a10 130 pa] s.heap.size = A at hD ⊢
  have hA : ∀ q : Nat, s.heap.size ≤ q → A q := fun q h => by rw [← hAe]; exact Or.inr h
  have hS : va_S A s.heap s.heap [] := va_S.rf
  obtain ⟨H, hHe⟩ : ∃ H, H = s.heap := ⟨_, rfl⟩
  rw [← hHe] at hP
  have hS : va_S A s.heap H [] := by rw [hHe]; exact hS
  have hl := lv_entry ([.ref mo]) (n := 3) (Nat.le_of_ble_eq_true rfl)
  rw [lg_entry_eq]
  generalize (lg_sl ([.ref mo]) ++ List.replicate (3 - (lg_sl ([.ref mo])).length) Slot.unset).toArray = ls at hl ⊢
  have hl : lv_has ls 3 [(0, .ref mo)] := hl
  rw [← hHe]
  refine lv_aload_n hx hb dX6_end_0 rfl (lv_at hl 0 rfl) ?_
  refine lv_iconst (v := 0) hx hb dX6_end_1 (by decide) ?_
  refine va_put (D := D) (ci := 6) (v := .int 0) (ty := .int) (C := RX6) (T := TX6) (N := 15) hx hb hts inlX6 tyX6 tyX6_ok nmX6 hown hG.K hP hD hS 0 rfl rfl 0 (by decide) (hts _ mF_X6_43) (fun _ h9 => h9) rfl (by decide +kernel) rfl rfl (Nat.le_of_ble_eq_true rfl) dX6_end_2 (fun H locs hP hD hS => ?_)
  have hP : va_P D cls [oO mo 6 [.int 0, .ref a1, .int (nI nC), .ref a2, .ref a3, .ref a4, .ref a5, .ref a6, .ref a7, .ref a8, .ref a9, .int (nI nS), .ref a10, .int (nI nM), .ref a11], aI D a2 6 ln, aI D a10 130 pa] H := hP
  have hD : va_D A [oO mo 6 [.int 0, .ref a1, .int (nI nC), .ref a2, .ref a3, .ref a4, .ref a5, .ref a6, .ref a7, .ref a8, .ref a9, .int (nI nS), .ref a10, .int (nI nM), .ref a11], aI D a2 6 ln, aI D a10 130 pa] := hD
  refine lv_iconst (v := 0) hx hb dX6_end_5 (by decide) ?_
  refine lv_istore_n (lv' := [(1, .int 0), (0, .ref mo)]) hx hb dX6_end_6 rfl hl (by decide) rfl (fun ls hl => ?_)
  refine lv_iconst (v := 0) hx hb dX6_end_7 (by decide) ?_
  refine lv_istore_n (lv' := [(2, .int 0), (1, .int 0), (0, .ref mo)]) hx hb dX6_end_8 rfl hl (by decide) rfl (fun ls hl => ?_)
  have loop9 : ∀ (d9 : Nat) (k1 : Nat), (nS - k1) < d9 → (k1 ≤ nS) → ∀ (ls : Array Slot), lv_has ls 3 [(0, .ref mo), (1, .int (endAll (fun i => endS (len (ck i)) (pt i)) k1)), (2, .int (nI k1))] → W p l e ({ frames := 4, cells := 0, slots := 0, locals := 85 } : Room) s m ([.ref mo] : List Value).toArray below meth c H locs 0 0 (MQ below (va_Qi (fun v _ => v = endAll (fun i => endS (len (ck i)) (pt i)) nS) (AT D A (fun _ : Unit => [oO mo 6 [.int 0, .ref a1, .int (nI nC), .ref a2, .ref a3, .ref a4, .ref a5, .ref a6, .ref a7, .ref a8, .ref a9, .int (nI nS), .ref a10, .int (nI nM), .ref a11], aI D a2 6 ln, aI D a10 130 pa])) A) ([.ref mo] : List Value).toArray s 0 0 A) (F0 m 9 ls []) := by
    intro d9
    induction d9 with
    | zero => intro k1 hd; exact absurd hd (Nat.not_lt_zero _)
    | succ d9 ih9 =>
      intro k1 hd9 hk1 ls hl
      refine lv_iload_n hx hb dX6_end_9 rfl (lv_at hl 2 rfl) ?_
      refine lv_aload_n hx hb dX6_end_10 rfl (lv_at hl 0 rfl) ?_
      refine va_get (D := D) (ci := 6) (v := .int (nI nS)) (C := RX6) (T := TX6) (N := 15) hx hb hts inlX6 hown hG.K hP 0 rfl rfl 11 (by decide) (hts _ mF_X6_108) (fun _ h9 => h9) rfl dX6_end_11 ?_
      refine lv_icmp_ge (tgt := 33) hx hb dX6_end_14 (by decide) (fun c14 => ?_) (fun c14 => ?_)
      · skip
        have n14 := (nI_leI (a := nS) (b := k1) (by omega) (by omega)).mp c14
        have hk9 : k1 = nS := by omega
        subst k1
        refine lv_iload_n hx hb dX6_end_33 rfl (lv_at hl 1 rfl) ?_
        refine Wi () hx hb hr hlk ?_ hP hD hS (Nat.le_of_ble_eq_true rfl) (by first | exact Nat.le_of_ble_eq_true rfl | exact Nat.le_of_eq (Nat.zero_add _)) dX6_end_34
        exact rfl
      · skip
        have n14 := mt (nI_leI (a := nS) (b := k1) (by omega) (by omega)).mpr c14
        refine lv_iload_n hx hb dX6_end_17 rfl (lv_at hl 1 rfl) ?_
        refine lv_aload_n hx hb dX6_end_18 rfl (lv_at hl 0 rfl) ?_
        refine lv_iload_n hx hb dX6_end_19 rfl (lv_at hl 2 rfl) ?_
        have hP9 := hP
        refine vp_callSi (pV (rest := [.int (endAll (fun i => endS (len (ck i)) (pt i)) k1)]) (qc := (RX6, TX6, 15)) [.int (nI k1)] 1 hC (m_endOf l D (pt := pt k1) (c0 := ck k1) (len := len (ck k1)) (mo := mo) (i := k1) (th := 0) (a1 := a1) (nC := nC) (a2 := a2) (a3 := a3) (a4 := a4) (a5 := a5) (a6 := a6) (a7 := a7) (a8 := a8) (a9 := a9) (nS := nS) (a10 := a10) (nM := nM) (a11 := a11) (ln := ln) (pa := pa) (by omega) (hpa k1 (by omega)) (hc0 k1 (by omega)) (hc6 k1 (by omega)) (hlq k1 (by omega)) (pos1 ((fa_le _ _).mpr (hO k1 (by omega)).b5.1))) rfl (hP 0 _ rfl) (gV mM_X6_132 mI_X6_endOf mS_X6_endOf mN_X6 mC_X6_endOf) (by decide +kernel) rfl rfl ⟨Nat.le_of_ble_eq_true rfl, Nat.le_of_ble_eq_true rfl⟩ hG hP9 rfl hl.1 rfl (Nat.le_of_ble_eq_true rfl) dX6_end_20 ⟨Nat.le_of_ble_eq_true rfl, Nat.le_of_ble_eq_true rfl⟩) (fun r20 h20 => ?_)
        obtain rfl : r20 = (endS (len (ck k1)) (pt k1)) := h20
        refine va_mmax hx hb (by rw [hml]; exact hl.1.symm) hown (hts _ mM_X6_156) (hts _ mT_Lib_Math_max_name) (hts _ mN__java_lang_Math_) (hts _ mC_Lib_Math_max_name) (Nat.le_of_ble_eq_true rfl) (Nat.le_of_ble_eq_true rfl) (Nat.le_of_ble_eq_true rfl) (Nat.le_of_ble_eq_true rfl) dX6_end_23 ?_
        refine lv_istore_n (lv' := [(1, .int (if (endAll (fun i => endS (len (ck i)) (pt i)) k1) < (endS (len (ck k1)) (pt k1)) then (endS (len (ck k1)) (pt k1)) else (endAll (fun i => endS (len (ck i)) (pt i)) k1))), (0, .ref mo), (2, .int (nI k1))]) hx hb dX6_end_26 rfl hl (by decide) rfl (fun ls hl => ?_)
        refine lv_iinc (v := nI (k1 + 1)) (lv' := [(2, .int (nI (k1 + 1))), (1, .int (if (endAll (fun i => endS (len (ck i)) (pt i)) k1) < (endS (len (ck k1)) (pt k1)) then (endS (len (ck k1)) (pt k1)) else (endAll (fun i => endS (len (ck i)) (pt i)) k1))), (0, .ref mo)]) hx hb dX6_end_27 hl (k := 2) rfl (nI_1 _) (by decide) rfl (fun ls hl => ?_)
        refine lv_goto (tgt := 9) hx hb dX6_end_30 (by decide) ?_
        exact ih9 (k1 + 1) (by omega) (by omega) _ (lv_sub hl [2, 1, 0] rfl)
  exact loop9 _ 0 (Nat.lt_succ_self _) (by omega) _ (lv_sub hl [2, 1, 0] rfl)
