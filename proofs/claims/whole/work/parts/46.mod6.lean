theorem upd_lk {pa pt : Nat → Int32} {i k : Nat} {x : Int32} (h : ∀ w, w < 13 → ¬ w = 2 → pa (13 * i + w) = pt w) : ∀ w, w < 13 → ¬ w = 2 → upd pa (13 * i + k) x (13 * i + w) = upd pt k x w := by
  intro w h1 h2
  simp only [upd]
  by_cases e : w = k
  · rw [if_pos (by omega), if_pos e]
  · rw [if_neg (by omega), if_neg e]
    exact h w h1 h2
set_option maxHeartbeats 400000 in
set_option maxRecDepth 100000 in
theorem m_setSpeed_1 (l : Launch) (D : va_G) {mo a1 a2 a3 a4 a5 a6 a7 a8 a9 a10 a11 nC nS nM : Nat} {th : Int32} {x p1 q1 : Int32} (hz0 : Nat) (hn : nS ≤ 10) (hxx : x < 0 ∨ nI nS ≤ x) : Met l yX6_setSpeed (ws_ yX6_setSpeed cX6_setSpeed 4 (some .int)) ({ frames := 4, cells := 0, slots := 0, locals := 85 } : Room) (va_Pc [.ref mo, .int x, .int p1, .int q1] (SW D [oO mo 6 [.int th, .ref a1, .int (nI nC), .ref a2, .ref a3, .ref a4, .ref a5, .ref a6, .ref a7, .ref a8, .ref a9, .int (nI nS), .ref a10, .int (nI nM), .ref a11]] hz0)) (va_Qi (fun v _ => v = 0) (AT D (va_A [oO mo 6 [.int th, .ref a1, .int (nI nC), .ref a2, .ref a3, .ref a4, .ref a5, .ref a6, .ref a7, .ref a8, .ref a9, .int (nI nS), .ref a10, .int (nI nM), .ref a11]] hz0) (fun _ : Unit => [oO mo 6 [.int 1, .ref a1, .int (nI nC), .ref a2, .ref a3, .ref a4, .ref a5, .ref a6, .ref a7, .ref a8, .ref a9, .int (nI nS), .ref a10, .int (nI nM), .ref a11]])) (va_A [oO mo 6 [.int th, .ref a1, .int (nI nC), .ref a2, .ref a3, .ref a4, .ref a5, .ref a6, .ref a7, .ref a8, .ref a9, .int (nI nS), .ref a10, .int (nI nM), .ref a11]] hz0)) 0 0 (va_A [oO mo 6 [.int th, .ref a1, .int (nI nC), .ref a2, .ref a3, .ref a4, .ref a5, .ref a6, .ref a7, .ref a8, .ref a9, .int (nI nS), .ref a10, .int (nI nM), .ref a11]] hz0) := by
  refine Met.ofW (cc := cX6_setSpeed) (maxL := 4) (ret := (some .int)) (by decide) rfl ?_
  intro p e s m args below meth c s₁ B hml hv
  obtain ⟨rfl, hsz, hG, hP, hD0⟩ := hv
  have hx := B.exec
  have hb := B.bytes
  have hr := B.returns
  have hts : ∀ w ∈ wsL_law, w.before _ s = true := fun w h => atoms_spec (ws := (ws_ yX6_setSpeed cX6_setSpeed 4 (some .int))) B.pre w (List.mem_cons_of_mem _ h)
  have hown : s.vm.findClass RX6 = some m.cls := findClass_of_methodNamed B.named
  have hlk := B.notSynchronized
  have hC : CallFix p m c cX6_setSpeed 4 s _ wsL_law RX6 := ⟨hx, hb, hml, hown, hts⟩
  subst hsz
  have hD := hD0.self (sz := s.heap.size)
  generalize hAe : va_A [oO mo 6 [.int th, .ref a1, .int (nI nC), .ref a2, .ref a3, .ref a4, .ref a5, .ref a6, .ref a7, .ref a8, .ref a9, .int (nI nS), .ref a10, .int (nI nM), .ref a11]] s.heap.size = A at hD ⊢
  have hA : ∀ q : Nat, s.heap.size ≤ q → A q := fun q h => by rw [← hAe]; exact Or.inr h
  have hS : va_S A s.heap s.heap [] := va_S.rf
  obtain ⟨H, hHe⟩ : ∃ H, H = s.heap := ⟨_, rfl⟩
  rw [← hHe] at hP
  have hS : va_S A s.heap H [] := by rw [hHe]; exact hS
  have hl := lv_entry ([.ref mo, .int x, .int p1, .int q1]) (n := 4) (Nat.le_of_ble_eq_true rfl)
  rw [lg_entry_eq]
  generalize (lg_sl ([.ref mo, .int x, .int p1, .int q1]) ++ List.replicate (4 - (lg_sl ([.ref mo, .int x, .int p1, .int q1])).length) Slot.unset).toArray = ls at hl ⊢
  have hl : lv_has ls 4 [(0, .ref mo), (1, .int x), (2, .int p1), (3, .int q1)] := hl
  rw [← hHe]
  refine lv_aload_n hx hb dX6_setSpeed_0 rfl (lv_at hl 0 rfl) ?_
  refine lv_iconst (v := 0) hx hb dX6_setSpeed_1 (by decide) ?_
  refine va_put (D := D) (ci := 6) (v := .int 0) (ty := .int) (C := RX6) (T := TX6) (N := 15) hx hb hts inlX6 tyX6 tyX6_ok nmX6 hown hG.K hP hD hS 0 rfl rfl 0 (by decide) (hts _ mF_X6_43) (fun _ h9 => h9) rfl (by decide +kernel) rfl rfl (Nat.le_of_ble_eq_true rfl) dX6_setSpeed_2 (fun H locs hP hD hS => ?_)
  have hP : va_P D cls [oO mo 6 [.int 0, .ref a1, .int (nI nC), .ref a2, .ref a3, .ref a4, .ref a5, .ref a6, .ref a7, .ref a8, .ref a9, .int (nI nS), .ref a10, .int (nI nM), .ref a11]] H := hP
  have hD : va_D A [oO mo 6 [.int 0, .ref a1, .int (nI nC), .ref a2, .ref a3, .ref a4, .ref a5, .ref a6, .ref a7, .ref a8, .ref a9, .int (nI nS), .ref a10, .int (nI nM), .ref a11]] := hD
  refine lv_aload_n hx hb dX6_setSpeed_5 rfl (lv_at hl 0 rfl) ?_
  refine lv_iload_n hx hb dX6_setSpeed_6 rfl (lv_at hl 1 rfl) ?_
  have hP9 := hP
  refine vp_callSi (pV (rest := []) (qc := (RX6, TX6, 15)) [.int x] 1 hC (m_isStrip_no l D (mo := mo) (x := x) (th := 0) (a1 := a1) (nC := nC) (a2 := a2) (a3 := a3) (a4 := a4) (a5 := a5) (a6 := a6) (a7 := a7) (a8 := a8) (a9 := a9) (nS := nS) (a10 := a10) (nM := nM) (a11 := a11) (by omega) (hxx)) rfl (hP 0 _ rfl) (gV mM_X6_117 mI_X6_isStrip mS_X6_isStrip mN_X6 mC_X6_isStrip) (by decide +kernel) rfl rfl ⟨Nat.le_of_ble_eq_true rfl, Nat.le_of_ble_eq_true rfl⟩ hG hP9 rfl hl.1 rfl (Nat.le_of_ble_eq_true rfl) dX6_setSpeed_7 ⟨Nat.le_of_ble_eq_true rfl, Nat.le_of_ble_eq_true rfl⟩) (fun r7 h7 => ?_)
  obtain rfl : r7 = 0 := h7
  refine lv_if_ne (tgt := 19) hx hb dX6_setSpeed_10 (by decide) (fun h9 => (h9 (by decide)).elim) (fun _ => ?_)
  refine lv_aload_n hx hb dX6_setSpeed_13 rfl (lv_at hl 0 rfl) ?_
  refine lv_iconst (v := 1) hx hb dX6_setSpeed_14 (by decide) ?_
  have hP9 := hP.sub (ws' := [oO mo 6 [.int 0, .ref a1, .int (nI nC), .ref a2, .ref a3, .ref a4, .ref a5, .ref a6, .ref a7, .ref a8, .ref a9, .int (nI nS), .ref a10, .int (nI nM), .ref a11]]) [0] rfl
  have hD9 := (hD.sub (ws' := [oO mo 6 [.int 0, .ref a1, .int (nI nC), .ref a2, .ref a3, .ref a4, .ref a5, .ref a6, .ref a7, .ref a8, .ref a9, .int (nI nS), .ref a10, .int (nI nM), .ref a11]]) [0] (by decide) rfl).weaken (B := fun _ => True) (fun _ _ _ _ => trivial)
  refine ki (wr := []) (rV (rest := []) (qc := (RX6, TX6, 15)) [.int 1] 1 0 0 hC (m_no l D (mo := mo) (x := 1) (th := 0) (a1 := a1) (nC := nC) (a2 := a2) (a3 := a3) (a4 := a4) (a5 := a5) (a6 := a6) (a7 := a7) (a8 := a8) (a9 := a9) (nS := nS) (a10 := a10) (nM := nM) (a11 := a11) (hz0 := H.size) ) rfl (hP 0 _ rfl) (gV mM_X6_66 mI_X6_no mS_X6_no mN_X6 mC_X6_no) (by decide +kernel) rfl rfl ⟨Nat.le_of_ble_eq_true rfl, Nat.le_of_ble_eq_true rfl⟩ hG hP9 hD9 rfl hl.1 rfl (Nat.le_of_ble_eq_true rfl) dX6_setSpeed_15 ⟨Nat.le_of_ble_eq_true rfl, Nat.le_of_ble_eq_true rfl⟩) hP hD hS hA [0] [] rfl rfl (by decide) (by decide) (fun r15 u15 H locs h15 hP hD hS hz hfr => ?_)
  have hP : va_P D cls [oO mo 6 [.int 1, .ref a1, .int (nI nC), .ref a2, .ref a3, .ref a4, .ref a5, .ref a6, .ref a7, .ref a8, .ref a9, .int (nI nS), .ref a10, .int (nI nM), .ref a11]] H := hP
  have hD : va_D A [oO mo 6 [.int 1, .ref a1, .int (nI nC), .ref a2, .ref a3, .ref a4, .ref a5, .ref a6, .ref a7, .ref a8, .ref a9, .int (nI nS), .ref a10, .int (nI nM), .ref a11]] := hD
  obtain rfl : r15 = 0 := h15
  refine Wi () hx hb hr hlk ?_ hP hD hS (Nat.le_of_ble_eq_true rfl) (by first | exact Nat.le_of_ble_eq_true rfl | exact Nat.le_of_eq (Nat.zero_add _)) dX6_setSpeed_18
  exact rfl
set_option maxHeartbeats 400000 in
set_option maxRecDepth 100000 in
theorem m_setSpeed_2 (l : Launch) (D : va_G) {mo a1 a2 a3 a4 a5 a6 a7 a8 a9 a10 a11 nC nS nM : Nat} {th : Int32} {i : Nat} {p1 q1 : Int32} (hz0 : Nat) (hn : nS ≤ 10) (hi : i < nS) (h : ¬ (((1 : Int32) ≤ p1 ∧ p1 ≤ 9) ∧ ((1 : Int32) ≤ q1 ∧ q1 ≤ 9))) : Met l yX6_setSpeed (ws_ yX6_setSpeed cX6_setSpeed 4 (some .int)) ({ frames := 4, cells := 0, slots := 0, locals := 85 } : Room) (va_Pc [.ref mo, .int (nI i), .int p1, .int q1] (SW D [oO mo 6 [.int th, .ref a1, .int (nI nC), .ref a2, .ref a3, .ref a4, .ref a5, .ref a6, .ref a7, .ref a8, .ref a9, .int (nI nS), .ref a10, .int (nI nM), .ref a11]] hz0)) (va_Qi (fun v _ => v = 0) (AT D (va_A [oO mo 6 [.int th, .ref a1, .int (nI nC), .ref a2, .ref a3, .ref a4, .ref a5, .ref a6, .ref a7, .ref a8, .ref a9, .int (nI nS), .ref a10, .int (nI nM), .ref a11]] hz0) (fun _ : Unit => [oO mo 6 [.int 2, .ref a1, .int (nI nC), .ref a2, .ref a3, .ref a4, .ref a5, .ref a6, .ref a7, .ref a8, .ref a9, .int (nI nS), .ref a10, .int (nI nM), .ref a11]])) (va_A [oO mo 6 [.int th, .ref a1, .int (nI nC), .ref a2, .ref a3, .ref a4, .ref a5, .ref a6, .ref a7, .ref a8, .ref a9, .int (nI nS), .ref a10, .int (nI nM), .ref a11]] hz0)) 0 0 (va_A [oO mo 6 [.int th, .ref a1, .int (nI nC), .ref a2, .ref a3, .ref a4, .ref a5, .ref a6, .ref a7, .ref a8, .ref a9, .int (nI nS), .ref a10, .int (nI nM), .ref a11]] hz0) := by
  refine Met.ofW (cc := cX6_setSpeed) (maxL := 4) (ret := (some .int)) (by decide) rfl ?_
  intro p e s m args below meth c s₁ B hml hv
  obtain ⟨rfl, hsz, hG, hP, hD0⟩ := hv
  have hx := B.exec
  have hb := B.bytes
  have hr := B.returns
  have hts : ∀ w ∈ wsL_law, w.before _ s = true := fun w h => atoms_spec (ws := (ws_ yX6_setSpeed cX6_setSpeed 4 (some .int))) B.pre w (List.mem_cons_of_mem _ h)
  have hown : s.vm.findClass RX6 = some m.cls := findClass_of_methodNamed B.named
  have hlk := B.notSynchronized
  have hC : CallFix p m c cX6_setSpeed 4 s _ wsL_law RX6 := ⟨hx, hb, hml, hown, hts⟩
  subst hsz
  have hD := hD0.self (sz := s.heap.size)
  generalize hAe : va_A [oO mo 6 [.int th, .ref a1, .int (nI nC), .ref a2, .ref a3, .ref a4, .ref a5, .ref a6, .ref a7, .ref a8, .ref a9, .int (nI nS), .ref a10, .int (nI nM), .ref a11]] s.heap.size = A at hD ⊢
  have hA : ∀ q : Nat, s.heap.size ≤ q → A q := fun q h => by rw [← hAe]; exact Or.inr h
  have hS : va_S A s.heap s.heap [] := va_S.rf
  obtain ⟨H, hHe⟩ : ∃ H, H = s.heap := ⟨_, rfl⟩
  rw [← hHe] at hP
  have hS : va_S A s.heap H [] := by rw [hHe]; exact hS
  have hl := lv_entry ([.ref mo, .int (nI i), .int p1, .int q1]) (n := 4) (Nat.le_of_ble_eq_true rfl)
  rw [lg_entry_eq]
  generalize (lg_sl ([.ref mo, .int (nI i), .int p1, .int q1]) ++ List.replicate (4 - (lg_sl ([.ref mo, .int (nI i), .int p1, .int q1])).length) Slot.unset).toArray = ls at hl ⊢
  have hl : lv_has ls 4 [(0, .ref mo), (1, .int (nI i)), (2, .int p1), (3, .int q1)] := hl
  rw [← hHe]
  refine lv_aload_n hx hb dX6_setSpeed_0 rfl (lv_at hl 0 rfl) ?_
  refine lv_iconst (v := 0) hx hb dX6_setSpeed_1 (by decide) ?_
  refine va_put (D := D) (ci := 6) (v := .int 0) (ty := .int) (C := RX6) (T := TX6) (N := 15) hx hb hts inlX6 tyX6 tyX6_ok nmX6 hown hG.K hP hD hS 0 rfl rfl 0 (by decide) (hts _ mF_X6_43) (fun _ h9 => h9) rfl (by decide +kernel) rfl rfl (Nat.le_of_ble_eq_true rfl) dX6_setSpeed_2 (fun H locs hP hD hS => ?_)
  have hP : va_P D cls [oO mo 6 [.int 0, .ref a1, .int (nI nC), .ref a2, .ref a3, .ref a4, .ref a5, .ref a6, .ref a7, .ref a8, .ref a9, .int (nI nS), .ref a10, .int (nI nM), .ref a11]] H := hP
  have hD : va_D A [oO mo 6 [.int 0, .ref a1, .int (nI nC), .ref a2, .ref a3, .ref a4, .ref a5, .ref a6, .ref a7, .ref a8, .ref a9, .int (nI nS), .ref a10, .int (nI nM), .ref a11]] := hD
  refine lv_aload_n hx hb dX6_setSpeed_5 rfl (lv_at hl 0 rfl) ?_
  refine lv_iload_n hx hb dX6_setSpeed_6 rfl (lv_at hl 1 rfl) ?_
  have hP9 := hP
  refine vp_callSi (pV (rest := []) (qc := (RX6, TX6, 15)) [.int (nI i)] 1 hC (m_isStrip l D (mo := mo) (i := i) (th := 0) (a1 := a1) (nC := nC) (a2 := a2) (a3 := a3) (a4 := a4) (a5 := a5) (a6 := a6) (a7 := a7) (a8 := a8) (a9 := a9) (nS := nS) (a10 := a10) (nM := nM) (a11 := a11) (by omega) (by omega)) rfl (hP 0 _ rfl) (gV mM_X6_117 mI_X6_isStrip mS_X6_isStrip mN_X6 mC_X6_isStrip) (by decide +kernel) rfl rfl ⟨Nat.le_of_ble_eq_true rfl, Nat.le_of_ble_eq_true rfl⟩ hG hP9 rfl hl.1 rfl (Nat.le_of_ble_eq_true rfl) dX6_setSpeed_7 ⟨Nat.le_of_ble_eq_true rfl, Nat.le_of_ble_eq_true rfl⟩) (fun r7 h7 => ?_)
  obtain rfl : r7 = 1 := h7
  refine lv_if_ne (tgt := 19) hx hb dX6_setSpeed_10 (by decide) (fun _ => ?_) (fun h9 => absurd h9 (by decide))
  refine lv_iload_n hx hb dX6_setSpeed_19 rfl (lv_at hl 2 rfl) ?_
  refine lv_iconst (v := 1) hx hb dX6_setSpeed_20 (by decide) ?_
  refine lv_bipush (v := 9) hx hb dX6_setSpeed_21 (by decide) ?_
  have hP9 : va_P D cls [] H := fun k q h => by simp at h
  refine vp_callSi (pS (rest := []) [.int p1, .int 1, .int 9] 3 hC (m_isIn l D (x := p1) (a := 1) (b := 9) ) (gS mM_X6_50 mT_X6_isIn mN_X6 mC_X6_isIn) (by decide +kernel) rfl rfl ⟨Nat.le_of_ble_eq_true rfl, Nat.le_of_ble_eq_true rfl⟩ hG hP9 rfl hl.1 rfl (Nat.le_of_ble_eq_true rfl) dX6_setSpeed_23 ⟨Nat.le_of_ble_eq_true rfl, Nat.le_of_ble_eq_true rfl⟩) (fun r23 h23 => ?_)
  rcases h23 with ⟨rfl, hb23⟩ | ⟨rfl, hb23⟩
  · skip
    refine lv_if_eq (tgt := 39) hx hb dX6_setSpeed_26 (by decide) (fun h9 => absurd h9 (by decide)) (fun _ => ?_)
    refine lv_iload_n hx hb dX6_setSpeed_29 rfl (lv_at hl 3 rfl) ?_
    refine lv_iconst (v := 1) hx hb dX6_setSpeed_30 (by decide) ?_
    refine lv_bipush (v := 9) hx hb dX6_setSpeed_31 (by decide) ?_
    have hP9 : va_P D cls [] H := fun k q h => by simp at h
    refine vp_callSi (pS (rest := []) [.int q1, .int 1, .int 9] 3 hC (m_isIn l D (x := q1) (a := 1) (b := 9) ) (gS mM_X6_50 mT_X6_isIn mN_X6 mC_X6_isIn) (by decide +kernel) rfl rfl ⟨Nat.le_of_ble_eq_true rfl, Nat.le_of_ble_eq_true rfl⟩ hG hP9 rfl hl.1 rfl (Nat.le_of_ble_eq_true rfl) dX6_setSpeed_33 ⟨Nat.le_of_ble_eq_true rfl, Nat.le_of_ble_eq_true rfl⟩) (fun r33 h33 => ?_)
    rcases h33 with ⟨rfl, hb33⟩ | ⟨rfl, hb33⟩
    · exact absurd hb33 (fun h9 => h ⟨hb23, h9⟩)
    refine lv_if_ne (tgt := 45) hx hb dX6_setSpeed_36 (by decide) (fun h9 => (h9 (by decide)).elim) (fun _ => ?_)
    refine lv_aload_n hx hb dX6_setSpeed_39 rfl (lv_at hl 0 rfl) ?_
    refine lv_iconst (v := 2) hx hb dX6_setSpeed_40 (by decide) ?_
    have hP9 := hP.sub (ws' := [oO mo 6 [.int 0, .ref a1, .int (nI nC), .ref a2, .ref a3, .ref a4, .ref a5, .ref a6, .ref a7, .ref a8, .ref a9, .int (nI nS), .ref a10, .int (nI nM), .ref a11]]) [0] rfl
    have hD9 := (hD.sub (ws' := [oO mo 6 [.int 0, .ref a1, .int (nI nC), .ref a2, .ref a3, .ref a4, .ref a5, .ref a6, .ref a7, .ref a8, .ref a9, .int (nI nS), .ref a10, .int (nI nM), .ref a11]]) [0] (by decide) rfl).weaken (B := fun _ => True) (fun _ _ _ _ => trivial)
    refine ki (wr := []) (rV (rest := []) (qc := (RX6, TX6, 15)) [.int 2] 1 0 0 hC (m_no l D (mo := mo) (x := 2) (th := 0) (a1 := a1) (nC := nC) (a2 := a2) (a3 := a3) (a4 := a4) (a5 := a5) (a6 := a6) (a7 := a7) (a8 := a8) (a9 := a9) (nS := nS) (a10 := a10) (nM := nM) (a11 := a11) (hz0 := H.size) ) rfl (hP 0 _ rfl) (gV mM_X6_66 mI_X6_no mS_X6_no mN_X6 mC_X6_no) (by decide +kernel) rfl rfl ⟨Nat.le_of_ble_eq_true rfl, Nat.le_of_ble_eq_true rfl⟩ hG hP9 hD9 rfl hl.1 rfl (Nat.le_of_ble_eq_true rfl) dX6_setSpeed_41 ⟨Nat.le_of_ble_eq_true rfl, Nat.le_of_ble_eq_true rfl⟩) hP hD hS hA [0] [] rfl rfl (by decide) (by decide) (fun r41 u41 H locs h41 hP hD hS hz hfr => ?_)
    have hP : va_P D cls [oO mo 6 [.int 2, .ref a1, .int (nI nC), .ref a2, .ref a3, .ref a4, .ref a5, .ref a6, .ref a7, .ref a8, .ref a9, .int (nI nS), .ref a10, .int (nI nM), .ref a11]] H := hP
    have hD : va_D A [oO mo 6 [.int 2, .ref a1, .int (nI nC), .ref a2, .ref a3, .ref a4, .ref a5, .ref a6, .ref a7, .ref a8, .ref a9, .int (nI nS), .ref a10, .int (nI nM), .ref a11]] := hD
    obtain rfl : r41 = 0 := h41
    refine Wi () hx hb hr hlk ?_ hP hD hS (Nat.le_of_ble_eq_true rfl) (by first | exact Nat.le_of_ble_eq_true rfl | exact Nat.le_of_eq (Nat.zero_add _)) dX6_setSpeed_44
    exact rfl
  · skip
    refine lv_if_eq (tgt := 39) hx hb dX6_setSpeed_26 (by decide) (fun _ => ?_) (fun h9 => (h9 (by decide)).elim)
    refine lv_aload_n hx hb dX6_setSpeed_39 rfl (lv_at hl 0 rfl) ?_
    refine lv_iconst (v := 2) hx hb dX6_setSpeed_40 (by decide) ?_
    have hP9 := hP.sub (ws' := [oO mo 6 [.int 0, .ref a1, .int (nI nC), .ref a2, .ref a3, .ref a4, .ref a5, .ref a6, .ref a7, .ref a8, .ref a9, .int (nI nS), .ref a10, .int (nI nM), .ref a11]]) [0] rfl
    have hD9 := (hD.sub (ws' := [oO mo 6 [.int 0, .ref a1, .int (nI nC), .ref a2, .ref a3, .ref a4, .ref a5, .ref a6, .ref a7, .ref a8, .ref a9, .int (nI nS), .ref a10, .int (nI nM), .ref a11]]) [0] (by decide) rfl).weaken (B := fun _ => True) (fun _ _ _ _ => trivial)
    refine ki (wr := []) (rV (rest := []) (qc := (RX6, TX6, 15)) [.int 2] 1 0 0 hC (m_no l D (mo := mo) (x := 2) (th := 0) (a1 := a1) (nC := nC) (a2 := a2) (a3 := a3) (a4 := a4) (a5 := a5) (a6 := a6) (a7 := a7) (a8 := a8) (a9 := a9) (nS := nS) (a10 := a10) (nM := nM) (a11 := a11) (hz0 := H.size) ) rfl (hP 0 _ rfl) (gV mM_X6_66 mI_X6_no mS_X6_no mN_X6 mC_X6_no) (by decide +kernel) rfl rfl ⟨Nat.le_of_ble_eq_true rfl, Nat.le_of_ble_eq_true rfl⟩ hG hP9 hD9 rfl hl.1 rfl (Nat.le_of_ble_eq_true rfl) dX6_setSpeed_41 ⟨Nat.le_of_ble_eq_true rfl, Nat.le_of_ble_eq_true rfl⟩) hP hD hS hA [0] [] rfl rfl (by decide) (by decide) (fun r41 u41 H locs h41 hP hD hS hz hfr => ?_)
    have hP : va_P D cls [oO mo 6 [.int 2, .ref a1, .int (nI nC), .ref a2, .ref a3, .ref a4, .ref a5, .ref a6, .ref a7, .ref a8, .ref a9, .int (nI nS), .ref a10, .int (nI nM), .ref a11]] H := hP
    have hD : va_D A [oO mo 6 [.int 2, .ref a1, .int (nI nC), .ref a2, .ref a3, .ref a4, .ref a5, .ref a6, .ref a7, .ref a8, .ref a9, .int (nI nS), .ref a10, .int (nI nM), .ref a11]] := hD
    obtain rfl : r41 = 0 := h41
    refine Wi () hx hb hr hlk ?_ hP hD hS (Nat.le_of_ble_eq_true rfl) (by first | exact Nat.le_of_ble_eq_true rfl | exact Nat.le_of_eq (Nat.zero_add _)) dX6_setSpeed_44
    exact rfl
set_option maxHeartbeats 400000 in
set_option maxRecDepth 100000 in
theorem m_setSpeed (l : Launch) (D : va_G) {mo a1 a2 a3 a4 a5 a6 a7 a8 a9 a10 a11 nC nS nM : Nat} {th : Int32} {ln pa pt : Nat → Int32} {i c0 : Nat} {len p1 q1 : Int32} (hz0 : Nat) (hn : nS ≤ 10) (hi : i < nS) (hpa : ∀ w, w < 13 → ¬ w = 2 → pa (13 * i + w) = pt w) (hc0 : pa (13 * i) = nI c0) (hc6 : c0 < 6) (hlq : ln c0 = len) (h : ((1 : Int32) ≤ p1 ∧ p1 ≤ 9) ∧ ((1 : Int32) ≤ q1 ∧ q1 ≤ 9)) : Met l yX6_setSpeed (ws_ yX6_setSpeed cX6_setSpeed 4 (some .int)) ({ frames := 4, cells := 0, slots := 0, locals := 85 } : Room) (va_Pc [.ref mo, .int (nI i), .int p1, .int q1] (SW D [oO mo 6 [.int th, .ref a1, .int (nI nC), .ref a2, .ref a3, .ref a4, .ref a5, .ref a6, .ref a7, .ref a8, .ref a9, .int (nI nS), .ref a10, .int (nI nM), .ref a11], aI D a2 6 ln, aI D a10 130 pa] hz0)) (va_Qi (fun v _ => v = endS len (upd (upd pt 5 p1) 6 q1)) (AT D (va_A [oO mo 6 [.int th, .ref a1, .int (nI nC), .ref a2, .ref a3, .ref a4, .ref a5, .ref a6, .ref a7, .ref a8, .ref a9, .int (nI nS), .ref a10, .int (nI nM), .ref a11], aI D a2 6 ln, aI D a10 130 pa] hz0) (fun _ : Unit => [oO mo 6 [.int 0, .ref a1, .int (nI nC), .ref a2, .ref a3, .ref a4, .ref a5, .ref a6, .ref a7, .ref a8, .ref a9, .int (nI nS), .ref a10, .int (nI nM), .ref a11], aI D a2 6 ln, aI D a10 130 (upd (upd pa (13 * i + 5) p1) (13 * i + 6) q1)])) (va_A [oO mo 6 [.int th, .ref a1, .int (nI nC), .ref a2, .ref a3, .ref a4, .ref a5, .ref a6, .ref a7, .ref a8, .ref a9, .int (nI nS), .ref a10, .int (nI nM), .ref a11], aI D a2 6 ln, aI D a10 130 pa] hz0)) 0 0 (va_A [oO mo 6 [.int th, .ref a1, .int (nI nC), .ref a2, .ref a3, .ref a4, .ref a5, .ref a6, .ref a7, .ref a8, .ref a9, .int (nI nS), .ref a10, .int (nI nM), .ref a11], aI D a2 6 ln, aI D a10 130 pa] hz0) := by
  refine Met.ofW (cc := cX6_setSpeed) (maxL := 4) (ret := (some .int)) (by decide) rfl ?_
  intro p e s m args below meth c s₁ B hml hv
  obtain ⟨rfl, hsz, hG, hP, hD0⟩ := hv
  have hx := B.exec
  have hb := B.bytes
  have hr := B.returns
  have hts : ∀ w ∈ wsL_law, w.before _ s = true := fun w h => atoms_spec (ws := (ws_ yX6_setSpeed cX6_setSpeed 4 (some .int))) B.pre w (List.mem_cons_of_mem _ h)
  have hown : s.vm.findClass RX6 = some m.cls := findClass_of_methodNamed B.named
  have hlk := B.notSynchronized
  have hC : CallFix p m c cX6_setSpeed 4 s _ wsL_law RX6 := ⟨hx, hb, hml, hown, hts⟩
  subst hsz
  have hD := hD0.self (sz := s.heap.size)
  generalize hAe : va_A [oO mo 6 [.int th, .ref a1, .int (nI nC), .ref a2, .ref a3, .ref a4, .ref a5, .ref a6, .ref a7, .ref a8, .ref a9, .int (nI nS), .ref a10, .int (nI nM), .ref a11], aI D a2 6 ln, aI D a10 130 pa] s.heap.size = A at hD ⊢
  have hA : ∀ q : Nat, s.heap.size ≤ q → A q := fun q h => by rw [← hAe]; exact Or.inr h
  have hS : va_S A s.heap s.heap [] := va_S.rf
  obtain ⟨H, hHe⟩ : ∃ H, H = s.heap := ⟨_, rfl⟩
  rw [← hHe] at hP
  have hS : va_S A s.heap H [] := by rw [hHe]; exact hS
  have hl := lv_entry ([.ref mo, .int (nI i), .int p1, .int q1]) (n := 4) (Nat.le_of_ble_eq_true rfl)
  rw [lg_entry_eq]
  generalize (lg_sl ([.ref mo, .int (nI i), .int p1, .int q1]) ++ List.replicate (4 - (lg_sl ([.ref mo, .int (nI i), .int p1, .int q1])).length) Slot.unset).toArray = ls at hl ⊢
  have hl : lv_has ls 4 [(0, .ref mo), (1, .int (nI i)), (2, .int p1), (3, .int q1)] := hl
  rw [← hHe]
  refine lv_aload_n hx hb dX6_setSpeed_0 rfl (lv_at hl 0 rfl) ?_
  refine lv_iconst (v := 0) hx hb dX6_setSpeed_1 (by decide) ?_
  refine va_put (D := D) (ci := 6) (v := .int 0) (ty := .int) (C := RX6) (T := TX6) (N := 15) hx hb hts inlX6 tyX6 tyX6_ok nmX6 hown hG.K hP hD hS 0 rfl rfl 0 (by decide) (hts _ mF_X6_43) (fun _ h9 => h9) rfl (by decide +kernel) rfl rfl (Nat.le_of_ble_eq_true rfl) dX6_setSpeed_2 (fun H locs hP hD hS => ?_)
  have hP : va_P D cls [oO mo 6 [.int 0, .ref a1, .int (nI nC), .ref a2, .ref a3, .ref a4, .ref a5, .ref a6, .ref a7, .ref a8, .ref a9, .int (nI nS), .ref a10, .int (nI nM), .ref a11], aI D a2 6 ln, aI D a10 130 pa] H := hP
  have hD : va_D A [oO mo 6 [.int 0, .ref a1, .int (nI nC), .ref a2, .ref a3, .ref a4, .ref a5, .ref a6, .ref a7, .ref a8, .ref a9, .int (nI nS), .ref a10, .int (nI nM), .ref a11], aI D a2 6 ln, aI D a10 130 pa] := hD
  refine lv_aload_n hx hb dX6_setSpeed_5 rfl (lv_at hl 0 rfl) ?_
  refine lv_iload_n hx hb dX6_setSpeed_6 rfl (lv_at hl 1 rfl) ?_
  have hP9 := hP.sub (ws' := [oO mo 6 [.int 0, .ref a1, .int (nI nC), .ref a2, .ref a3, .ref a4, .ref a5, .ref a6, .ref a7, .ref a8, .ref a9, .int (nI nS), .ref a10, .int (nI nM), .ref a11]]) [0] rfl
  refine vp_callSi (pV (rest := []) (qc := (RX6, TX6, 15)) [.int (nI i)] 1 hC (m_isStrip l D (mo := mo) (i := i) (th := 0) (a1 := a1) (nC := nC) (a2 := a2) (a3 := a3) (a4 := a4) (a5 := a5) (a6 := a6) (a7 := a7) (a8 := a8) (a9 := a9) (nS := nS) (a10 := a10) (nM := nM) (a11 := a11) (by omega) (by omega)) rfl (hP 0 _ rfl) (gV mM_X6_117 mI_X6_isStrip mS_X6_isStrip mN_X6 mC_X6_isStrip) (by decide +kernel) rfl rfl ⟨Nat.le_of_ble_eq_true rfl, Nat.le_of_ble_eq_true rfl⟩ hG hP9 rfl hl.1 rfl (Nat.le_of_ble_eq_true rfl) dX6_setSpeed_7 ⟨Nat.le_of_ble_eq_true rfl, Nat.le_of_ble_eq_true rfl⟩) (fun r7 h7 => ?_)
  obtain rfl : r7 = 1 := h7
  refine lv_if_ne (tgt := 19) hx hb dX6_setSpeed_10 (by decide) (fun _ => ?_) (fun h9 => absurd h9 (by decide))
  refine lv_iload_n hx hb dX6_setSpeed_19 rfl (lv_at hl 2 rfl) ?_
  refine lv_iconst (v := 1) hx hb dX6_setSpeed_20 (by decide) ?_
  refine lv_bipush (v := 9) hx hb dX6_setSpeed_21 (by decide) ?_
  have hP9 : va_P D cls [] H := fun k q h => by simp at h
  refine vp_callSi (pS (rest := []) [.int p1, .int 1, .int 9] 3 hC (m_isIn l D (x := p1) (a := 1) (b := 9) ) (gS mM_X6_50 mT_X6_isIn mN_X6 mC_X6_isIn) (by decide +kernel) rfl rfl ⟨Nat.le_of_ble_eq_true rfl, Nat.le_of_ble_eq_true rfl⟩ hG hP9 rfl hl.1 rfl (Nat.le_of_ble_eq_true rfl) dX6_setSpeed_23 ⟨Nat.le_of_ble_eq_true rfl, Nat.le_of_ble_eq_true rfl⟩) (fun r23 h23 => ?_)
  rcases h23 with ⟨rfl, hb23⟩ | ⟨rfl, hb23⟩
  rotate_left
  · exact absurd (h.1) hb23
  refine lv_if_eq (tgt := 39) hx hb dX6_setSpeed_26 (by decide) (fun h9 => absurd h9 (by decide)) (fun _ => ?_)
  refine lv_iload_n hx hb dX6_setSpeed_29 rfl (lv_at hl 3 rfl) ?_
  refine lv_iconst (v := 1) hx hb dX6_setSpeed_30 (by decide) ?_
  refine lv_bipush (v := 9) hx hb dX6_setSpeed_31 (by decide) ?_
  have hP9 : va_P D cls [] H := fun k q h => by simp at h
  refine vp_callSi (pS (rest := []) [.int q1, .int 1, .int 9] 3 hC (m_isIn l D (x := q1) (a := 1) (b := 9) ) (gS mM_X6_50 mT_X6_isIn mN_X6 mC_X6_isIn) (by decide +kernel) rfl rfl ⟨Nat.le_of_ble_eq_true rfl, Nat.le_of_ble_eq_true rfl⟩ hG hP9 rfl hl.1 rfl (Nat.le_of_ble_eq_true rfl) dX6_setSpeed_33 ⟨Nat.le_of_ble_eq_true rfl, Nat.le_of_ble_eq_true rfl⟩) (fun r33 h33 => ?_)
  rcases h33 with ⟨rfl, hb33⟩ | ⟨rfl, hb33⟩
  rotate_left
  · exact absurd (h.2) hb33
  refine lv_if_ne (tgt := 45) hx hb dX6_setSpeed_36 (by decide) (fun _ => ?_) (fun h9 => absurd h9 (by decide))
  refine lv_aload_n hx hb dX6_setSpeed_45 rfl (lv_at hl 0 rfl) ?_
  refine va_get (D := D) (ci := 6) (v := .ref a10) (C := RX6) (T := TX6) (N := 15) hx hb hts inlX6 hown hG.K hP 0 rfl rfl 12 (by decide) (hts _ mF_X6_37) (fun _ h9 => h9) rfl dX6_setSpeed_46 ?_
  refine lv_bipush (v := 13) hx hb dX6_setSpeed_49 (by decide) ?_
  refine lv_iload_n hx hb dX6_setSpeed_51 rfl (lv_at hl 1 rfl) ?_
  refine lv_imul hx hb dX6_setSpeed_52 ?_
  refine tpi (y := nI (13 * i)) (pk_mul 13 i) ?_
  refine lv_iconst (v := 5) hx hb dX6_setSpeed_53 (by decide) ?_
  refine lv_iadd hx hb dX6_setSpeed_54 ?_
  refine tpi (y := nI ((13 * i) + 5)) (nI_add (13 * i) 5) ?_
  refine lv_iload_n hx hb dX6_setSpeed_55 rfl (lv_at hl 2 rfl) ?_
  refine ist (n := 130) (j := (13 * i) + 5) hx hb hG hP hD hS 2 rfl (by omega) (by omega) dX6_setSpeed_56 (fun H locs hP hD hS => ?_)
  have hP : va_P D cls [oO mo 6 [.int 0, .ref a1, .int (nI nC), .ref a2, .ref a3, .ref a4, .ref a5, .ref a6, .ref a7, .ref a8, .ref a9, .int (nI nS), .ref a10, .int (nI nM), .ref a11], aI D a2 6 ln, aI D a10 130 (upd pa ((13 * i) + 5) p1)] H := hP
  have hD : va_D A [oO mo 6 [.int 0, .ref a1, .int (nI nC), .ref a2, .ref a3, .ref a4, .ref a5, .ref a6, .ref a7, .ref a8, .ref a9, .int (nI nS), .ref a10, .int (nI nM), .ref a11], aI D a2 6 ln, aI D a10 130 (upd pa ((13 * i) + 5) p1)] := hD
  refine lv_aload_n hx hb dX6_setSpeed_57 rfl (lv_at hl 0 rfl) ?_
  refine va_get (D := D) (ci := 6) (v := .ref a10) (C := RX6) (T := TX6) (N := 15) hx hb hts inlX6 hown hG.K hP 0 rfl rfl 12 (by decide) (hts _ mF_X6_37) (fun _ h9 => h9) rfl dX6_setSpeed_58 ?_
  refine lv_bipush (v := 13) hx hb dX6_setSpeed_61 (by decide) ?_
  refine lv_iload_n hx hb dX6_setSpeed_63 rfl (lv_at hl 1 rfl) ?_
  refine lv_imul hx hb dX6_setSpeed_64 ?_
  refine tpi (y := nI (13 * i)) (pk_mul 13 i) ?_
  refine lv_bipush (v := 6) hx hb dX6_setSpeed_65 (by decide) ?_
  refine lv_iadd hx hb dX6_setSpeed_67 ?_
  refine tpi (y := nI ((13 * i) + 6)) (nI_add (13 * i) 6) ?_
  refine lv_iload_n hx hb dX6_setSpeed_68 rfl (lv_at hl 3 rfl) ?_
  refine ist (n := 130) (j := (13 * i) + 6) hx hb hG hP hD hS 2 rfl (by omega) (by omega) dX6_setSpeed_69 (fun H locs hP hD hS => ?_)
  have hP : va_P D cls [oO mo 6 [.int 0, .ref a1, .int (nI nC), .ref a2, .ref a3, .ref a4, .ref a5, .ref a6, .ref a7, .ref a8, .ref a9, .int (nI nS), .ref a10, .int (nI nM), .ref a11], aI D a2 6 ln, aI D a10 130 (upd (upd pa ((13 * i) + 5) p1) ((13 * i) + 6) q1)] H := hP
  have hD : va_D A [oO mo 6 [.int 0, .ref a1, .int (nI nC), .ref a2, .ref a3, .ref a4, .ref a5, .ref a6, .ref a7, .ref a8, .ref a9, .int (nI nS), .ref a10, .int (nI nM), .ref a11], aI D a2 6 ln, aI D a10 130 (upd (upd pa ((13 * i) + 5) p1) ((13 * i) + 6) q1)] := hD
  refine lv_aload_n hx hb dX6_setSpeed_70 rfl (lv_at hl 0 rfl) ?_
  refine lv_iload_n hx hb dX6_setSpeed_71 rfl (lv_at hl 1 rfl) ?_
  have hP9 := hP
  refine vp_callSi (pV (rest := []) (qc := (RX6, TX6, 15)) [.int (nI i)] 1 hC (m_endOf l D (pt := upd (upd pt 5 p1) 6 q1) (c0 := c0) (len := len) (mo := mo) (i := i) (th := 0) (a1 := a1) (nC := nC) (a2 := a2) (a3 := a3) (a4 := a4) (a5 := a5) (a6 := a6) (a7 := a7) (a8 := a8) (a9 := a9) (nS := nS) (a10 := a10) (nM := nM) (a11 := a11) (ln := ln) (pa := upd (upd pa ((13 * i) + 5) p1) ((13 * i) + 6) q1) (by omega) (upd_lk (upd_lk hpa)) (by simp only [upd]; rw [if_neg (by omega), if_neg (by omega)]; exact hc0) (by omega) (hlq) (pos1 h.1.1)) rfl (hP 0 _ rfl) (gV mM_X6_132 mI_X6_endOf mS_X6_endOf mN_X6 mC_X6_endOf) (by decide +kernel) rfl rfl ⟨Nat.le_of_ble_eq_true rfl, Nat.le_of_ble_eq_true rfl⟩ hG hP9 rfl hl.1 rfl (Nat.le_of_ble_eq_true rfl) dX6_setSpeed_72 ⟨Nat.le_of_ble_eq_true rfl, Nat.le_of_ble_eq_true rfl⟩) (fun r72 h72 => ?_)
  obtain rfl : r72 = (endS len (upd (upd pt 5 p1) 6 q1)) := h72
  refine Wi () hx hb hr hlk ?_ hP hD hS (Nat.le_of_ble_eq_true rfl) (by first | exact Nat.le_of_ble_eq_true rfl | exact Nat.le_of_eq (Nat.zero_add _)) dX6_setSpeed_75
  exact rfl
set_option maxHeartbeats 400000 in
set_option maxRecDepth 100000 in
theorem m_setBlend_1 (l : Launch) (D : va_G) {mo a1 a2 a3 a4 a5 a6 a7 a8 a9 a10 a11 nC nS nM : Nat} {th : Int32} {x p1 q1 ad hd : Int32} (hz0 : Nat) (hn : nS ≤ 10) (hxx : x < 0 ∨ nI nS ≤ x) : Met l yX6_setBlend (ws_ yX6_setBlend cX6_setBlend 7 (some .int)) ({ frames := 2, cells := 0, slots := 0, locals := 43 } : Room) (va_Pc [.ref mo, .int x, .int p1, .int q1, .int ad, .int hd] (SW D [oO mo 6 [.int th, .ref a1, .int (nI nC), .ref a2, .ref a3, .ref a4, .ref a5, .ref a6, .ref a7, .ref a8, .ref a9, .int (nI nS), .ref a10, .int (nI nM), .ref a11]] hz0)) (va_Qi (fun v _ => v = 0) (AT D (va_A [oO mo 6 [.int th, .ref a1, .int (nI nC), .ref a2, .ref a3, .ref a4, .ref a5, .ref a6, .ref a7, .ref a8, .ref a9, .int (nI nS), .ref a10, .int (nI nM), .ref a11]] hz0) (fun _ : Unit => [oO mo 6 [.int 1, .ref a1, .int (nI nC), .ref a2, .ref a3, .ref a4, .ref a5, .ref a6, .ref a7, .ref a8, .ref a9, .int (nI nS), .ref a10, .int (nI nM), .ref a11]])) (va_A [oO mo 6 [.int th, .ref a1, .int (nI nC), .ref a2, .ref a3, .ref a4, .ref a5, .ref a6, .ref a7, .ref a8, .ref a9, .int (nI nS), .ref a10, .int (nI nM), .ref a11]] hz0)) 0 0 (va_A [oO mo 6 [.int th, .ref a1, .int (nI nC), .ref a2, .ref a3, .ref a4, .ref a5, .ref a6, .ref a7, .ref a8, .ref a9, .int (nI nS), .ref a10, .int (nI nM), .ref a11]] hz0) := by
  refine Met.ofW (cc := cX6_setBlend) (maxL := 7) (ret := (some .int)) (by decide) rfl ?_
  intro p e s m args below meth c s₁ B hml hv
  obtain ⟨rfl, hsz, hG, hP, hD0⟩ := hv
  have hx := B.exec
  have hb := B.bytes
  have hr := B.returns
  have hts : ∀ w ∈ wsL_law, w.before _ s = true := fun w h => atoms_spec (ws := (ws_ yX6_setBlend cX6_setBlend 7 (some .int))) B.pre w (List.mem_cons_of_mem _ h)
  have hown : s.vm.findClass RX6 = some m.cls := findClass_of_methodNamed B.named
  have hlk := B.notSynchronized
  have hC : CallFix p m c cX6_setBlend 7 s _ wsL_law RX6 := ⟨hx, hb, hml, hown, hts⟩
  subst hsz
  have hD := hD0.self (sz := s.heap.size)
  generalize hAe : va_A [oO mo 6 [.int th, .ref a1, .int (nI nC), .ref a2, .ref a3, .ref a4, .ref a5, .ref a6, .ref a7, .ref a8, .ref a9, .int (nI nS), .ref a10, .int (nI nM), .ref a11]] s.heap.size = A at hD ⊢
  have hA : ∀ q : Nat, s.heap.size ≤ q → A q := fun q h => by rw [← hAe]; exact Or.inr h
  have hS : va_S A s.heap s.heap [] := va_S.rf
  obtain ⟨H, hHe⟩ : ∃ H, H = s.heap := ⟨_, rfl⟩
  rw [← hHe] at hP
  have hS : va_S A s.heap H [] := by rw [hHe]; exact hS
  have hl := lv_entry ([.ref mo, .int x, .int p1, .int q1, .int ad, .int hd]) (n := 7) (Nat.le_of_ble_eq_true rfl)
  rw [lg_entry_eq]
  generalize (lg_sl ([.ref mo, .int x, .int p1, .int q1, .int ad, .int hd]) ++ List.replicate (7 - (lg_sl ([.ref mo, .int x, .int p1, .int q1, .int ad, .int hd])).length) Slot.unset).toArray = ls at hl ⊢
  have hl : lv_has ls 7 [(0, .ref mo), (1, .int x), (2, .int p1), (3, .int q1), (4, .int ad), (5, .int hd)] := hl
  rw [← hHe]
  refine lv_aload_n hx hb dX6_setBlend_0 rfl (lv_at hl 0 rfl) ?_
  refine lv_iconst (v := 0) hx hb dX6_setBlend_1 (by decide) ?_
  refine va_put (D := D) (ci := 6) (v := .int 0) (ty := .int) (C := RX6) (T := TX6) (N := 15) hx hb hts inlX6 tyX6 tyX6_ok nmX6 hown hG.K hP hD hS 0 rfl rfl 0 (by decide) (hts _ mF_X6_43) (fun _ h9 => h9) rfl (by decide +kernel) rfl rfl (Nat.le_of_ble_eq_true rfl) dX6_setBlend_2 (fun H locs hP hD hS => ?_)
  have hP : va_P D cls [oO mo 6 [.int 0, .ref a1, .int (nI nC), .ref a2, .ref a3, .ref a4, .ref a5, .ref a6, .ref a7, .ref a8, .ref a9, .int (nI nS), .ref a10, .int (nI nM), .ref a11]] H := hP
  have hD : va_D A [oO mo 6 [.int 0, .ref a1, .int (nI nC), .ref a2, .ref a3, .ref a4, .ref a5, .ref a6, .ref a7, .ref a8, .ref a9, .int (nI nS), .ref a10, .int (nI nM), .ref a11]] := hD
  refine lv_aload_n hx hb dX6_setBlend_5 rfl (lv_at hl 0 rfl) ?_
  refine lv_iload_n hx hb dX6_setBlend_6 rfl (lv_at hl 1 rfl) ?_
  have hP9 := hP
  refine vp_callSi (pV (rest := []) (qc := (RX6, TX6, 15)) [.int x] 1 hC (m_isStrip_no l D (mo := mo) (x := x) (th := 0) (a1 := a1) (nC := nC) (a2 := a2) (a3 := a3) (a4 := a4) (a5 := a5) (a6 := a6) (a7 := a7) (a8 := a8) (a9 := a9) (nS := nS) (a10 := a10) (nM := nM) (a11 := a11) (by omega) (hxx)) rfl (hP 0 _ rfl) (gV mM_X6_117 mI_X6_isStrip mS_X6_isStrip mN_X6 mC_X6_isStrip) (by decide +kernel) rfl rfl ⟨Nat.le_of_ble_eq_true rfl, Nat.le_of_ble_eq_true rfl⟩ hG hP9 rfl hl.1 rfl (Nat.le_of_ble_eq_true rfl) dX6_setBlend_7 ⟨Nat.le_of_ble_eq_true rfl, Nat.le_of_ble_eq_true rfl⟩) (fun r7 h7 => ?_)
  obtain rfl : r7 = 0 := h7
  refine lv_if_ne (tgt := 19) hx hb dX6_setBlend_10 (by decide) (fun h9 => (h9 (by decide)).elim) (fun _ => ?_)
  refine lv_aload_n hx hb dX6_setBlend_13 rfl (lv_at hl 0 rfl) ?_
  refine lv_iconst (v := 1) hx hb dX6_setBlend_14 (by decide) ?_
  have hP9 := hP.sub (ws' := [oO mo 6 [.int 0, .ref a1, .int (nI nC), .ref a2, .ref a3, .ref a4, .ref a5, .ref a6, .ref a7, .ref a8, .ref a9, .int (nI nS), .ref a10, .int (nI nM), .ref a11]]) [0] rfl
  have hD9 := (hD.sub (ws' := [oO mo 6 [.int 0, .ref a1, .int (nI nC), .ref a2, .ref a3, .ref a4, .ref a5, .ref a6, .ref a7, .ref a8, .ref a9, .int (nI nS), .ref a10, .int (nI nM), .ref a11]]) [0] (by decide) rfl).weaken (B := fun _ => True) (fun _ _ _ _ => trivial)
  refine ki (wr := []) (rV (rest := []) (qc := (RX6, TX6, 15)) [.int 1] 1 0 0 hC (m_no l D (mo := mo) (x := 1) (th := 0) (a1 := a1) (nC := nC) (a2 := a2) (a3 := a3) (a4 := a4) (a5 := a5) (a6 := a6) (a7 := a7) (a8 := a8) (a9 := a9) (nS := nS) (a10 := a10) (nM := nM) (a11 := a11) (hz0 := H.size) ) rfl (hP 0 _ rfl) (gV mM_X6_66 mI_X6_no mS_X6_no mN_X6 mC_X6_no) (by decide +kernel) rfl rfl ⟨Nat.le_of_ble_eq_true rfl, Nat.le_of_ble_eq_true rfl⟩ hG hP9 hD9 rfl hl.1 rfl (Nat.le_of_ble_eq_true rfl) dX6_setBlend_15 ⟨Nat.le_of_ble_eq_true rfl, Nat.le_of_ble_eq_true rfl⟩) hP hD hS hA [0] [] rfl rfl (by decide) (by decide) (fun r15 u15 H locs h15 hP hD hS hz hfr => ?_)
  have hP : va_P D cls [oO mo 6 [.int 1, .ref a1, .int (nI nC), .ref a2, .ref a3, .ref a4, .ref a5, .ref a6, .ref a7, .ref a8, .ref a9, .int (nI nS), .ref a10, .int (nI nM), .ref a11]] H := hP
  have hD : va_D A [oO mo 6 [.int 1, .ref a1, .int (nI nC), .ref a2, .ref a3, .ref a4, .ref a5, .ref a6, .ref a7, .ref a8, .ref a9, .int (nI nS), .ref a10, .int (nI nM), .ref a11]] := hD
  obtain rfl : r15 = 0 := h15
  refine Wi () hx hb hr hlk ?_ hP hD hS (Nat.le_of_ble_eq_true rfl) (by first | exact Nat.le_of_ble_eq_true rfl | exact Nat.le_of_eq (Nat.zero_add _)) dX6_setBlend_18
  exact rfl
set_option maxHeartbeats 400000 in
set_option maxRecDepth 100000 in
theorem m_setBlend_2 (l : Launch) (D : va_G) {mo a1 a2 a3 a4 a5 a6 a7 a8 a9 a10 a11 nC nS nM : Nat} {th : Int32} {i : Nat} {p1 q1 ad hd : Int32} (hz0 : Nat) (hn : nS ≤ 10) (hi : i < nS) (h : ¬ (((0 : Int32) ≤ p1 ∧ p1 ≤ 9) ∧ ((0 : Int32) ≤ q1 ∧ q1 ≤ 100))) : Met l yX6_setBlend (ws_ yX6_setBlend cX6_setBlend 7 (some .int)) ({ frames := 2, cells := 0, slots := 0, locals := 43 } : Room) (va_Pc [.ref mo, .int (nI i), .int p1, .int q1, .int ad, .int hd] (SW D [oO mo 6 [.int th, .ref a1, .int (nI nC), .ref a2, .ref a3, .ref a4, .ref a5, .ref a6, .ref a7, .ref a8, .ref a9, .int (nI nS), .ref a10, .int (nI nM), .ref a11]] hz0)) (va_Qi (fun v _ => v = 0) (AT D (va_A [oO mo 6 [.int th, .ref a1, .int (nI nC), .ref a2, .ref a3, .ref a4, .ref a5, .ref a6, .ref a7, .ref a8, .ref a9, .int (nI nS), .ref a10, .int (nI nM), .ref a11]] hz0) (fun _ : Unit => [oO mo 6 [.int 2, .ref a1, .int (nI nC), .ref a2, .ref a3, .ref a4, .ref a5, .ref a6, .ref a7, .ref a8, .ref a9, .int (nI nS), .ref a10, .int (nI nM), .ref a11]])) (va_A [oO mo 6 [.int th, .ref a1, .int (nI nC), .ref a2, .ref a3, .ref a4, .ref a5, .ref a6, .ref a7, .ref a8, .ref a9, .int (nI nS), .ref a10, .int (nI nM), .ref a11]] hz0)) 0 0 (va_A [oO mo 6 [.int th, .ref a1, .int (nI nC), .ref a2, .ref a3, .ref a4, .ref a5, .ref a6, .ref a7, .ref a8, .ref a9, .int (nI nS), .ref a10, .int (nI nM), .ref a11]] hz0) := by
  refine Met.ofW (cc := cX6_setBlend) (maxL := 7) (ret := (some .int)) (by decide) rfl ?_
  intro p e s m args below meth c s₁ B hml hv
  obtain ⟨rfl, hsz, hG, hP, hD0⟩ := hv
  have hx := B.exec
  have hb := B.bytes
  have hr := B.returns
  have hts : ∀ w ∈ wsL_law, w.before _ s = true := fun w h => atoms_spec (ws := (ws_ yX6_setBlend cX6_setBlend 7 (some .int))) B.pre w (List.mem_cons_of_mem _ h)
  have hown : s.vm.findClass RX6 = some m.cls := findClass_of_methodNamed B.named
  have hlk := B.notSynchronized
  have hC : CallFix p m c cX6_setBlend 7 s _ wsL_law RX6 := ⟨hx, hb, hml, hown, hts⟩
  subst hsz
  have hD := hD0.self (sz := s.heap.size)
  generalize hAe : va_A [oO mo 6 [.int th, .ref a1, .int (nI nC), .ref a2, .ref a3, .ref a4, .ref a5, .ref a6, .ref a7, .ref a8, .ref a9, .int (nI nS), .ref a10, .int (nI nM), .ref a11]] s.heap.size = A at hD ⊢
  have hA : ∀ q : Nat, s.heap.size ≤ q → A q := fun q h => by rw [← hAe]; exact Or.inr h
  have hS : va_S A s.heap s.heap [] := va_S.rf
  obtain ⟨H, hHe⟩ : ∃ H, H = s.heap := ⟨_, rfl⟩
  rw [← hHe] at hP
  have hS : va_S A s.heap H [] := by rw [hHe]; exact hS
  have hl := lv_entry ([.ref mo, .int (nI i), .int p1, .int q1, .int ad, .int hd]) (n := 7) (Nat.le_of_ble_eq_true rfl)
  rw [lg_entry_eq]
  generalize (lg_sl ([.ref mo, .int (nI i), .int p1, .int q1, .int ad, .int hd]) ++ List.replicate (7 - (lg_sl ([.ref mo, .int (nI i), .int p1, .int q1, .int ad, .int hd])).length) Slot.unset).toArray = ls at hl ⊢
  have hl : lv_has ls 7 [(0, .ref mo), (1, .int (nI i)), (2, .int p1), (3, .int q1), (4, .int ad), (5, .int hd)] := hl
  rw [← hHe]
  refine lv_aload_n hx hb dX6_setBlend_0 rfl (lv_at hl 0 rfl) ?_
  refine lv_iconst (v := 0) hx hb dX6_setBlend_1 (by decide) ?_
  refine va_put (D := D) (ci := 6) (v := .int 0) (ty := .int) (C := RX6) (T := TX6) (N := 15) hx hb hts inlX6 tyX6 tyX6_ok nmX6 hown hG.K hP hD hS 0 rfl rfl 0 (by decide) (hts _ mF_X6_43) (fun _ h9 => h9) rfl (by decide +kernel) rfl rfl (Nat.le_of_ble_eq_true rfl) dX6_setBlend_2 (fun H locs hP hD hS => ?_)
  have hP : va_P D cls [oO mo 6 [.int 0, .ref a1, .int (nI nC), .ref a2, .ref a3, .ref a4, .ref a5, .ref a6, .ref a7, .ref a8, .ref a9, .int (nI nS), .ref a10, .int (nI nM), .ref a11]] H := hP
  have hD : va_D A [oO mo 6 [.int 0, .ref a1, .int (nI nC), .ref a2, .ref a3, .ref a4, .ref a5, .ref a6, .ref a7, .ref a8, .ref a9, .int (nI nS), .ref a10, .int (nI nM), .ref a11]] := hD
  refine lv_aload_n hx hb dX6_setBlend_5 rfl (lv_at hl 0 rfl) ?_
  refine lv_iload_n hx hb dX6_setBlend_6 rfl (lv_at hl 1 rfl) ?_
  have hP9 := hP
  refine vp_callSi (pV (rest := []) (qc := (RX6, TX6, 15)) [.int (nI i)] 1 hC (m_isStrip l D (mo := mo) (i := i) (th := 0) (a1 := a1) (nC := nC) (a2 := a2) (a3 := a3) (a4 := a4) (a5 := a5) (a6 := a6) (a7 := a7) (a8 := a8) (a9 := a9) (nS := nS) (a10 := a10) (nM := nM) (a11 := a11) (by omega) (by omega)) rfl (hP 0 _ rfl) (gV mM_X6_117 mI_X6_isStrip mS_X6_isStrip mN_X6 mC_X6_isStrip) (by decide +kernel) rfl rfl ⟨Nat.le_of_ble_eq_true rfl, Nat.le_of_ble_eq_true rfl⟩ hG hP9 rfl hl.1 rfl (Nat.le_of_ble_eq_true rfl) dX6_setBlend_7 ⟨Nat.le_of_ble_eq_true rfl, Nat.le_of_ble_eq_true rfl⟩) (fun r7 h7 => ?_)
  obtain rfl : r7 = 1 := h7
  refine lv_if_ne (tgt := 19) hx hb dX6_setBlend_10 (by decide) (fun _ => ?_) (fun h9 => absurd h9 (by decide))
  refine lv_iload_n hx hb dX6_setBlend_19 rfl (lv_at hl 2 rfl) ?_
  refine lv_iconst (v := 0) hx hb dX6_setBlend_20 (by decide) ?_
  refine lv_bipush (v := 9) hx hb dX6_setBlend_21 (by decide) ?_
  have hP9 : va_P D cls [] H := fun k q h => by simp at h
  refine vp_callSi (pS (rest := []) [.int p1, .int 0, .int 9] 3 hC (m_isIn l D (x := p1) (a := 0) (b := 9) ) (gS mM_X6_50 mT_X6_isIn mN_X6 mC_X6_isIn) (by decide +kernel) rfl rfl ⟨Nat.le_of_ble_eq_true rfl, Nat.le_of_ble_eq_true rfl⟩ hG hP9 rfl hl.1 rfl (Nat.le_of_ble_eq_true rfl) dX6_setBlend_23 ⟨Nat.le_of_ble_eq_true rfl, Nat.le_of_ble_eq_true rfl⟩) (fun r23 h23 => ?_)
  rcases h23 with ⟨rfl, hb23⟩ | ⟨rfl, hb23⟩
  · skip
    refine lv_if_eq (tgt := 39) hx hb dX6_setBlend_26 (by decide) (fun h9 => absurd h9 (by decide)) (fun _ => ?_)
    refine lv_iload_n hx hb dX6_setBlend_29 rfl (lv_at hl 3 rfl) ?_
    refine lv_iconst (v := 0) hx hb dX6_setBlend_30 (by decide) ?_
    refine lv_bipush (v := 100) hx hb dX6_setBlend_31 (by decide) ?_
    have hP9 : va_P D cls [] H := fun k q h => by simp at h
    refine vp_callSi (pS (rest := []) [.int q1, .int 0, .int 100] 3 hC (m_isIn l D (x := q1) (a := 0) (b := 100) ) (gS mM_X6_50 mT_X6_isIn mN_X6 mC_X6_isIn) (by decide +kernel) rfl rfl ⟨Nat.le_of_ble_eq_true rfl, Nat.le_of_ble_eq_true rfl⟩ hG hP9 rfl hl.1 rfl (Nat.le_of_ble_eq_true rfl) dX6_setBlend_33 ⟨Nat.le_of_ble_eq_true rfl, Nat.le_of_ble_eq_true rfl⟩) (fun r33 h33 => ?_)
    rcases h33 with ⟨rfl, hb33⟩ | ⟨rfl, hb33⟩
    · exact absurd hb33 (fun h9 => h ⟨hb23, h9⟩)
    refine lv_if_ne (tgt := 45) hx hb dX6_setBlend_36 (by decide) (fun h9 => (h9 (by decide)).elim) (fun _ => ?_)
    refine lv_aload_n hx hb dX6_setBlend_39 rfl (lv_at hl 0 rfl) ?_
    refine lv_iconst (v := 2) hx hb dX6_setBlend_40 (by decide) ?_
    have hP9 := hP.sub (ws' := [oO mo 6 [.int 0, .ref a1, .int (nI nC), .ref a2, .ref a3, .ref a4, .ref a5, .ref a6, .ref a7, .ref a8, .ref a9, .int (nI nS), .ref a10, .int (nI nM), .ref a11]]) [0] rfl
    have hD9 := (hD.sub (ws' := [oO mo 6 [.int 0, .ref a1, .int (nI nC), .ref a2, .ref a3, .ref a4, .ref a5, .ref a6, .ref a7, .ref a8, .ref a9, .int (nI nS), .ref a10, .int (nI nM), .ref a11]]) [0] (by decide) rfl).weaken (B := fun _ => True) (fun _ _ _ _ => trivial)
    refine ki (wr := []) (rV (rest := []) (qc := (RX6, TX6, 15)) [.int 2] 1 0 0 hC (m_no l D (mo := mo) (x := 2) (th := 0) (a1 := a1) (nC := nC) (a2 := a2) (a3 := a3) (a4 := a4) (a5 := a5) (a6 := a6) (a7 := a7) (a8 := a8) (a9 := a9) (nS := nS) (a10 := a10) (nM := nM) (a11 := a11) (hz0 := H.size) ) rfl (hP 0 _ rfl) (gV mM_X6_66 mI_X6_no mS_X6_no mN_X6 mC_X6_no) (by decide +kernel) rfl rfl ⟨Nat.le_of_ble_eq_true rfl, Nat.le_of_ble_eq_true rfl⟩ hG hP9 hD9 rfl hl.1 rfl (Nat.le_of_ble_eq_true rfl) dX6_setBlend_41 ⟨Nat.le_of_ble_eq_true rfl, Nat.le_of_ble_eq_true rfl⟩) hP hD hS hA [0] [] rfl rfl (by decide) (by decide) (fun r41 u41 H locs h41 hP hD hS hz hfr => ?_)
    have hP : va_P D cls [oO mo 6 [.int 2, .ref a1, .int (nI nC), .ref a2, .ref a3, .ref a4, .ref a5, .ref a6, .ref a7, .ref a8, .ref a9, .int (nI nS), .ref a10, .int (nI nM), .ref a11]] H := hP
    have hD : va_D A [oO mo 6 [.int 2, .ref a1, .int (nI nC), .ref a2, .ref a3, .ref a4, .ref a5, .ref a6, .ref a7, .ref a8, .ref a9, .int (nI nS), .ref a10, .int (nI nM), .ref a11]] := hD
    obtain rfl : r41 = 0 := h41
    refine Wi () hx hb hr hlk ?_ hP hD hS (Nat.le_of_ble_eq_true rfl) (by first | exact Nat.le_of_ble_eq_true rfl | exact Nat.le_of_eq (Nat.zero_add _)) dX6_setBlend_44
    exact rfl
  · skip
    refine lv_if_eq (tgt := 39) hx hb dX6_setBlend_26 (by decide) (fun _ => ?_) (fun h9 => (h9 (by decide)).elim)
    refine lv_aload_n hx hb dX6_setBlend_39 rfl (lv_at hl 0 rfl) ?_
    refine lv_iconst (v := 2) hx hb dX6_setBlend_40 (by decide) ?_
    have hP9 := hP.sub (ws' := [oO mo 6 [.int 0, .ref a1, .int (nI nC), .ref a2, .ref a3, .ref a4, .ref a5, .ref a6, .ref a7, .ref a8, .ref a9, .int (nI nS), .ref a10, .int (nI nM), .ref a11]]) [0] rfl
    have hD9 := (hD.sub (ws' := [oO mo 6 [.int 0, .ref a1, .int (nI nC), .ref a2, .ref a3, .ref a4, .ref a5, .ref a6, .ref a7, .ref a8, .ref a9, .int (nI nS), .ref a10, .int (nI nM), .ref a11]]) [0] (by decide) rfl).weaken (B := fun _ => True) (fun _ _ _ _ => trivial)
    refine ki (wr := []) (rV (rest := []) (qc := (RX6, TX6, 15)) [.int 2] 1 0 0 hC (m_no l D (mo := mo) (x := 2) (th := 0) (a1 := a1) (nC := nC) (a2 := a2) (a3 := a3) (a4 := a4) (a5 := a5) (a6 := a6) (a7 := a7) (a8 := a8) (a9 := a9) (nS := nS) (a10 := a10) (nM := nM) (a11 := a11) (hz0 := H.size) ) rfl (hP 0 _ rfl) (gV mM_X6_66 mI_X6_no mS_X6_no mN_X6 mC_X6_no) (by decide +kernel) rfl rfl ⟨Nat.le_of_ble_eq_true rfl, Nat.le_of_ble_eq_true rfl⟩ hG hP9 hD9 rfl hl.1 rfl (Nat.le_of_ble_eq_true rfl) dX6_setBlend_41 ⟨Nat.le_of_ble_eq_true rfl, Nat.le_of_ble_eq_true rfl⟩) hP hD hS hA [0] [] rfl rfl (by decide) (by decide) (fun r41 u41 H locs h41 hP hD hS hz hfr => ?_)
    have hP : va_P D cls [oO mo 6 [.int 2, .ref a1, .int (nI nC), .ref a2, .ref a3, .ref a4, .ref a5, .ref a6, .ref a7, .ref a8, .ref a9, .int (nI nS), .ref a10, .int (nI nM), .ref a11]] H := hP
    have hD : va_D A [oO mo 6 [.int 2, .ref a1, .int (nI nC), .ref a2, .ref a3, .ref a4, .ref a5, .ref a6, .ref a7, .ref a8, .ref a9, .int (nI nS), .ref a10, .int (nI nM), .ref a11]] := hD
    obtain rfl : r41 = 0 := h41
    refine Wi () hx hb hr hlk ?_ hP hD hS (Nat.le_of_ble_eq_true rfl) (by first | exact Nat.le_of_ble_eq_true rfl | exact Nat.le_of_eq (Nat.zero_add _)) dX6_setBlend_44
    exact rfl
set_option maxHeartbeats 400000 in
set_option maxRecDepth 100000 in
theorem m_setBlend (l : Launch) (D : va_G) {mo a1 a2 a3 a4 a5 a6 a7 a8 a9 a10 a11 nC nS nM : Nat} {th : Int32} {pa : Nat → Int32} {i : Nat} {p1 q1 ad hd : Int32} (hz0 : Nat) (hn : nS ≤ 10) (hi : i < nS) (h : ((0 : Int32) ≤ p1 ∧ p1 ≤ 9) ∧ ((0 : Int32) ≤ q1 ∧ q1 ≤ 100)) (had : ad = 0 ∨ ad = 1) (hhd : hd = 0 ∨ hd = 1) : Met l yX6_setBlend (ws_ yX6_setBlend cX6_setBlend 7 (some .int)) ({ frames := 2, cells := 0, slots := 0, locals := 43 } : Room) (va_Pc [.ref mo, .int (nI i), .int p1, .int q1, .int ad, .int hd] (SW D [oO mo 6 [.int th, .ref a1, .int (nI nC), .ref a2, .ref a3, .ref a4, .ref a5, .ref a6, .ref a7, .ref a8, .ref a9, .int (nI nS), .ref a10, .int (nI nM), .ref a11], aI D a10 130 pa] hz0)) (va_Qi (fun v _ => v = pa (13 * i + 7)) (AT D (va_A [oO mo 6 [.int th, .ref a1, .int (nI nC), .ref a2, .ref a3, .ref a4, .ref a5, .ref a6, .ref a7, .ref a8, .ref a9, .int (nI nS), .ref a10, .int (nI nM), .ref a11], aI D a10 130 pa] hz0) (fun _ : Unit => [oO mo 6 [.int 0, .ref a1, .int (nI nC), .ref a2, .ref a3, .ref a4, .ref a5, .ref a6, .ref a7, .ref a8, .ref a9, .int (nI nS), .ref a10, .int (nI nM), .ref a11], aI D a10 130 (upd (upd (upd (upd pa (13 * i + 7) p1) (13 * i + 8) q1) (13 * i + 9) ad) (13 * i + 10) hd)])) (va_A [oO mo 6 [.int th, .ref a1, .int (nI nC), .ref a2, .ref a3, .ref a4, .ref a5, .ref a6, .ref a7, .ref a8, .ref a9, .int (nI nS), .ref a10, .int (nI nM), .ref a11], aI D a10 130 pa] hz0)) 0 0 (va_A [oO mo 6 [.int th, .ref a1, .int (nI nC), .ref a2, .ref a3, .ref a4, .ref a5, .ref a6, .ref a7, .ref a8, .ref a9, .int (nI nS), .ref a10, .int (nI nM), .ref a11], aI D a10 130 pa] hz0) := by
  refine Met.ofW (cc := cX6_setBlend) (maxL := 7) (ret := (some .int)) (by decide) rfl ?_
  intro p e s m args below meth c s₁ B hml hv
  obtain ⟨rfl, hsz, hG, hP, hD0⟩ := hv
  have hx := B.exec
  have hb := B.bytes
  have hr := B.returns
  have hts : ∀ w ∈ wsL_law, w.before _ s = true := fun w h => atoms_spec (ws := (ws_ yX6_setBlend cX6_setBlend 7 (some .int))) B.pre w (List.mem_cons_of_mem _ h)
  have hown : s.vm.findClass RX6 = some m.cls := findClass_of_methodNamed B.named
  have hlk := B.notSynchronized
  have hC : CallFix p m c cX6_setBlend 7 s _ wsL_law RX6 := ⟨hx, hb, hml, hown, hts⟩
  subst hsz
  have hD := hD0.self (sz := s.heap.size)
  generalize hAe : va_A [oO mo 6 [.int th, .ref a1, .int (nI nC), .ref a2, .ref a3, .ref a4, .ref a5, .ref a6, .ref a7, .ref a8, .ref a9, .int (nI nS), .ref a10, .int (nI nM), .ref a11], aI D a10 130 pa] s.heap.size = A at hD ⊢
  have hA : ∀ q : Nat, s.heap.size ≤ q → A q := fun q h => by rw [← hAe]; exact Or.inr h
  have hS : va_S A s.heap s.heap [] := va_S.rf
  obtain ⟨H, hHe⟩ : ∃ H, H = s.heap := ⟨_, rfl⟩
  rw [← hHe] at hP
  have hS : va_S A s.heap H [] := by rw [hHe]; exact hS
  have hl := lv_entry ([.ref mo, .int (nI i), .int p1, .int q1, .int ad, .int hd]) (n := 7) (Nat.le_of_ble_eq_true rfl)
  rw [lg_entry_eq]
  generalize (lg_sl ([.ref mo, .int (nI i), .int p1, .int q1, .int ad, .int hd]) ++ List.replicate (7 - (lg_sl ([.ref mo, .int (nI i), .int p1, .int q1, .int ad, .int hd])).length) Slot.unset).toArray = ls at hl ⊢
  have hl : lv_has ls 7 [(0, .ref mo), (1, .int (nI i)), (2, .int p1), (3, .int q1), (4, .int ad), (5, .int hd)] := hl
  rw [← hHe]
  refine lv_aload_n hx hb dX6_setBlend_0 rfl (lv_at hl 0 rfl) ?_
  refine lv_iconst (v := 0) hx hb dX6_setBlend_1 (by decide) ?_
  refine va_put (D := D) (ci := 6) (v := .int 0) (ty := .int) (C := RX6) (T := TX6) (N := 15) hx hb hts inlX6 tyX6 tyX6_ok nmX6 hown hG.K hP hD hS 0 rfl rfl 0 (by decide) (hts _ mF_X6_43) (fun _ h9 => h9) rfl (by decide +kernel) rfl rfl (Nat.le_of_ble_eq_true rfl) dX6_setBlend_2 (fun H locs hP hD hS => ?_)
  have hP : va_P D cls [oO mo 6 [.int 0, .ref a1, .int (nI nC), .ref a2, .ref a3, .ref a4, .ref a5, .ref a6, .ref a7, .ref a8, .ref a9, .int (nI nS), .ref a10, .int (nI nM), .ref a11], aI D a10 130 pa] H := hP
  have hD : va_D A [oO mo 6 [.int 0, .ref a1, .int (nI nC), .ref a2, .ref a3, .ref a4, .ref a5, .ref a6, .ref a7, .ref a8, .ref a9, .int (nI nS), .ref a10, .int (nI nM), .ref a11], aI D a10 130 pa] := hD
  refine lv_aload_n hx hb dX6_setBlend_5 rfl (lv_at hl 0 rfl) ?_
  refine lv_iload_n hx hb dX6_setBlend_6 rfl (lv_at hl 1 rfl) ?_
  have hP9 := hP.sub (ws' := [oO mo 6 [.int 0, .ref a1, .int (nI nC), .ref a2, .ref a3, .ref a4, .ref a5, .ref a6, .ref a7, .ref a8, .ref a9, .int (nI nS), .ref a10, .int (nI nM), .ref a11]]) [0] rfl
  refine vp_callSi (pV (rest := []) (qc := (RX6, TX6, 15)) [.int (nI i)] 1 hC (m_isStrip l D (mo := mo) (i := i) (th := 0) (a1 := a1) (nC := nC) (a2 := a2) (a3 := a3) (a4 := a4) (a5 := a5) (a6 := a6) (a7 := a7) (a8 := a8) (a9 := a9) (nS := nS) (a10 := a10) (nM := nM) (a11 := a11) (by omega) (by omega)) rfl (hP 0 _ rfl) (gV mM_X6_117 mI_X6_isStrip mS_X6_isStrip mN_X6 mC_X6_isStrip) (by decide +kernel) rfl rfl ⟨Nat.le_of_ble_eq_true rfl, Nat.le_of_ble_eq_true rfl⟩ hG hP9 rfl hl.1 rfl (Nat.le_of_ble_eq_true rfl) dX6_setBlend_7 ⟨Nat.le_of_ble_eq_true rfl, Nat.le_of_ble_eq_true rfl⟩) (fun r7 h7 => ?_)
  obtain rfl : r7 = 1 := h7
  refine lv_if_ne (tgt := 19) hx hb dX6_setBlend_10 (by decide) (fun _ => ?_) (fun h9 => absurd h9 (by decide))
  refine lv_iload_n hx hb dX6_setBlend_19 rfl (lv_at hl 2 rfl) ?_
  refine lv_iconst (v := 0) hx hb dX6_setBlend_20 (by decide) ?_
  refine lv_bipush (v := 9) hx hb dX6_setBlend_21 (by decide) ?_
  have hP9 : va_P D cls [] H := fun k q h => by simp at h
  refine vp_callSi (pS (rest := []) [.int p1, .int 0, .int 9] 3 hC (m_isIn l D (x := p1) (a := 0) (b := 9) ) (gS mM_X6_50 mT_X6_isIn mN_X6 mC_X6_isIn) (by decide +kernel) rfl rfl ⟨Nat.le_of_ble_eq_true rfl, Nat.le_of_ble_eq_true rfl⟩ hG hP9 rfl hl.1 rfl (Nat.le_of_ble_eq_true rfl) dX6_setBlend_23 ⟨Nat.le_of_ble_eq_true rfl, Nat.le_of_ble_eq_true rfl⟩) (fun r23 h23 => ?_)
  rcases h23 with ⟨rfl, hb23⟩ | ⟨rfl, hb23⟩
  rotate_left
  · exact absurd (h.1) hb23
  refine lv_if_eq (tgt := 39) hx hb dX6_setBlend_26 (by decide) (fun h9 => absurd h9 (by decide)) (fun _ => ?_)
  refine lv_iload_n hx hb dX6_setBlend_29 rfl (lv_at hl 3 rfl) ?_
  refine lv_iconst (v := 0) hx hb dX6_setBlend_30 (by decide) ?_
  refine lv_bipush (v := 100) hx hb dX6_setBlend_31 (by decide) ?_
  have hP9 : va_P D cls [] H := fun k q h => by simp at h
  refine vp_callSi (pS (rest := []) [.int q1, .int 0, .int 100] 3 hC (m_isIn l D (x := q1) (a := 0) (b := 100) ) (gS mM_X6_50 mT_X6_isIn mN_X6 mC_X6_isIn) (by decide +kernel) rfl rfl ⟨Nat.le_of_ble_eq_true rfl, Nat.le_of_ble_eq_true rfl⟩ hG hP9 rfl hl.1 rfl (Nat.le_of_ble_eq_true rfl) dX6_setBlend_33 ⟨Nat.le_of_ble_eq_true rfl, Nat.le_of_ble_eq_true rfl⟩) (fun r33 h33 => ?_)
  rcases h33 with ⟨rfl, hb33⟩ | ⟨rfl, hb33⟩
  rotate_left
  · exact absurd (h.2) hb33
  refine lv_if_ne (tgt := 45) hx hb dX6_setBlend_36 (by decide) (fun _ => ?_) (fun h9 => absurd h9 (by decide))
  refine lv_aload_n hx hb dX6_setBlend_45 rfl (lv_at hl 0 rfl) ?_
  refine lv_iload_n hx hb dX6_setBlend_46 rfl (lv_at hl 1 rfl) ?_
  refine lv_bipush (v := 7) hx hb dX6_setBlend_47 (by decide) ?_
  have hP9 := hP
  refine vp_callSi (pV (rest := []) (qc := (RX6, TX6, 15)) [.int (nI i), .int 7] 2 hC (m_part l D (mo := mo) (i := i) (w := 7) (th := 0) (a1 := a1) (nC := nC) (a2 := a2) (a3 := a3) (a4 := a4) (a5 := a5) (a6 := a6) (a7 := a7) (a8 := a8) (a9 := a9) (nS := nS) (a10 := a10) (nM := nM) (a11 := a11) (pa := pa) (by omega) (by omega)) rfl (hP 0 _ rfl) (gV mM_X6_120 mI_X6_part mS_X6_part mN_X6 mC_X6_part) (by decide +kernel) rfl rfl ⟨Nat.le_of_ble_eq_true rfl, Nat.le_of_ble_eq_true rfl⟩ hG hP9 rfl hl.1 rfl (Nat.le_of_ble_eq_true rfl) dX6_setBlend_49 ⟨Nat.le_of_ble_eq_true rfl, Nat.le_of_ble_eq_true rfl⟩) (fun r49 h49 => ?_)
  obtain rfl : r49 = (pa (13 * i + 7)) := h49
  refine lv_istore (lv' := [(6, .int (pa (13 * i + 7))), (0, .ref mo), (1, .int (nI i)), (2, .int p1), (3, .int q1), (4, .int ad), (5, .int hd)]) hx hb dX6_setBlend_52 hl (by decide) rfl (fun ls hl => ?_)
  refine lv_aload_n hx hb dX6_setBlend_54 rfl (lv_at hl 1 rfl) ?_
  refine va_get (D := D) (ci := 6) (v := .ref a10) (C := RX6) (T := TX6) (N := 15) hx hb hts inlX6 hown hG.K hP 0 rfl rfl 12 (by decide) (hts _ mF_X6_37) (fun _ h9 => h9) rfl dX6_setBlend_55 ?_
  refine lv_bipush (v := 13) hx hb dX6_setBlend_58 (by decide) ?_
  refine lv_iload_n hx hb dX6_setBlend_60 rfl (lv_at hl 2 rfl) ?_
  refine lv_imul hx hb dX6_setBlend_61 ?_
  refine tpi (y := nI (13 * i)) (pk_mul 13 i) ?_
  refine lv_bipush (v := 7) hx hb dX6_setBlend_62 (by decide) ?_
  refine lv_iadd hx hb dX6_setBlend_64 ?_
  refine tpi (y := nI ((13 * i) + 7)) (nI_add (13 * i) 7) ?_
  refine lv_iload_n hx hb dX6_setBlend_65 rfl (lv_at hl 3 rfl) ?_
  refine ist (n := 130) (j := (13 * i) + 7) hx hb hG hP hD hS 1 rfl (by omega) (by omega) dX6_setBlend_66 (fun H locs hP hD hS => ?_)
  have hP : va_P D cls [oO mo 6 [.int 0, .ref a1, .int (nI nC), .ref a2, .ref a3, .ref a4, .ref a5, .ref a6, .ref a7, .ref a8, .ref a9, .int (nI nS), .ref a10, .int (nI nM), .ref a11], aI D a10 130 (upd pa ((13 * i) + 7) p1)] H := hP
  have hD : va_D A [oO mo 6 [.int 0, .ref a1, .int (nI nC), .ref a2, .ref a3, .ref a4, .ref a5, .ref a6, .ref a7, .ref a8, .ref a9, .int (nI nS), .ref a10, .int (nI nM), .ref a11], aI D a10 130 (upd pa ((13 * i) + 7) p1)] := hD
  refine lv_aload_n hx hb dX6_setBlend_67 rfl (lv_at hl 1 rfl) ?_
  refine va_get (D := D) (ci := 6) (v := .ref a10) (C := RX6) (T := TX6) (N := 15) hx hb hts inlX6 hown hG.K hP 0 rfl rfl 12 (by decide) (hts _ mF_X6_37) (fun _ h9 => h9) rfl dX6_setBlend_68 ?_
  refine lv_bipush (v := 13) hx hb dX6_setBlend_71 (by decide) ?_
  refine lv_iload_n hx hb dX6_setBlend_73 rfl (lv_at hl 2 rfl) ?_
  refine lv_imul hx hb dX6_setBlend_74 ?_
  refine tpi (y := nI (13 * i)) (pk_mul 13 i) ?_
  refine lv_bipush (v := 8) hx hb dX6_setBlend_75 (by decide) ?_
  refine lv_iadd hx hb dX6_setBlend_77 ?_
  refine tpi (y := nI ((13 * i) + 8)) (nI_add (13 * i) 8) ?_
  refine lv_iload_n hx hb dX6_setBlend_78 rfl (lv_at hl 4 rfl) ?_
  refine ist (n := 130) (j := (13 * i) + 8) hx hb hG hP hD hS 1 rfl (by omega) (by omega) dX6_setBlend_79 (fun H locs hP hD hS => ?_)
  have hP : va_P D cls [oO mo 6 [.int 0, .ref a1, .int (nI nC), .ref a2, .ref a3, .ref a4, .ref a5, .ref a6, .ref a7, .ref a8, .ref a9, .int (nI nS), .ref a10, .int (nI nM), .ref a11], aI D a10 130 (upd (upd pa ((13 * i) + 7) p1) ((13 * i) + 8) q1)] H := hP
  have hD : va_D A [oO mo 6 [.int 0, .ref a1, .int (nI nC), .ref a2, .ref a3, .ref a4, .ref a5, .ref a6, .ref a7, .ref a8, .ref a9, .int (nI nS), .ref a10, .int (nI nM), .ref a11], aI D a10 130 (upd (upd pa ((13 * i) + 7) p1) ((13 * i) + 8) q1)] := hD
  refine lv_aload_n hx hb dX6_setBlend_80 rfl (lv_at hl 1 rfl) ?_
  refine va_get (D := D) (ci := 6) (v := .ref a10) (C := RX6) (T := TX6) (N := 15) hx hb hts inlX6 hown hG.K hP 0 rfl rfl 12 (by decide) (hts _ mF_X6_37) (fun _ h9 => h9) rfl dX6_setBlend_81 ?_
  refine lv_bipush (v := 13) hx hb dX6_setBlend_84 (by decide) ?_
  refine lv_iload_n hx hb dX6_setBlend_86 rfl (lv_at hl 2 rfl) ?_
  refine lv_imul hx hb dX6_setBlend_87 ?_
  refine tpi (y := nI (13 * i)) (pk_mul 13 i) ?_
  refine lv_bipush (v := 9) hx hb dX6_setBlend_88 (by decide) ?_
  refine lv_iadd hx hb dX6_setBlend_90 ?_
  refine tpi (y := nI ((13 * i) + 9)) (nI_add (13 * i) 9) ?_
  refine lv_iload hx hb dX6_setBlend_91 (lv_at hl 5 rfl) ?_
  refine lv_if_eq (tgt := 100) hx hb dX6_setBlend_93 (by decide) (fun c93 => ?_) (fun c93 => ?_)
  · skip
    refine lv_iconst (v := 0) hx hb dX6_setBlend_100 (by decide) ?_
    refine ist (n := 130) (j := (13 * i) + 9) hx hb hG hP hD hS 1 rfl (by omega) (by omega) dX6_setBlend_101 (fun H locs hP hD hS => ?_)
    have hfn : upd (upd (upd pa ((13 * i) + 7) p1) ((13 * i) + 8) q1) ((13 * i) + 9) 0 = (upd (upd (upd pa (13 * i + 7) p1) (13 * i + 8) q1) (13 * i + 9) ad) := by rw [c93]
    have hP : va_P D cls [oO mo 6 [.int 0, .ref a1, .int (nI nC), .ref a2, .ref a3, .ref a4, .ref a5, .ref a6, .ref a7, .ref a8, .ref a9, .int (nI nS), .ref a10, .int (nI nM), .ref a11], aI D a10 130 (upd (upd (upd pa (13 * i + 7) p1) (13 * i + 8) q1) (13 * i + 9) ad)] H := by rw [← hfn]; exact hP
    have hD : va_D A [oO mo 6 [.int 0, .ref a1, .int (nI nC), .ref a2, .ref a3, .ref a4, .ref a5, .ref a6, .ref a7, .ref a8, .ref a9, .int (nI nS), .ref a10, .int (nI nM), .ref a11], aI D a10 130 (upd (upd (upd pa (13 * i + 7) p1) (13 * i + 8) q1) (13 * i + 9) ad)] := by rw [← hfn]; exact hD
    refine lv_aload_n hx hb dX6_setBlend_102 rfl (lv_at hl 1 rfl) ?_
    refine va_get (D := D) (ci := 6) (v := .ref a10) (C := RX6) (T := TX6) (N := 15) hx hb hts inlX6 hown hG.K hP 0 rfl rfl 12 (by decide) (hts _ mF_X6_37) (fun _ h9 => h9) rfl dX6_setBlend_103 ?_
    refine lv_bipush (v := 13) hx hb dX6_setBlend_106 (by decide) ?_
    refine lv_iload_n hx hb dX6_setBlend_108 rfl (lv_at hl 2 rfl) ?_
    refine lv_imul hx hb dX6_setBlend_109 ?_
    refine tpi (y := nI (13 * i)) (pk_mul 13 i) ?_
    refine lv_bipush (v := 10) hx hb dX6_setBlend_110 (by decide) ?_
    refine lv_iadd hx hb dX6_setBlend_112 ?_
    refine tpi (y := nI ((13 * i) + 10)) (nI_add (13 * i) 10) ?_
    refine lv_iload hx hb dX6_setBlend_113 (lv_at hl 6 rfl) ?_
    refine lv_if_eq (tgt := 122) hx hb dX6_setBlend_115 (by decide) (fun c115 => ?_) (fun c115 => ?_)
    · skip
      refine lv_iconst (v := 0) hx hb dX6_setBlend_122 (by decide) ?_
      refine ist (n := 130) (j := (13 * i) + 10) hx hb hG hP hD hS 1 rfl (by omega) (by omega) dX6_setBlend_123 (fun H locs hP hD hS => ?_)
      have hfn : upd (upd (upd (upd pa (13 * i + 7) p1) (13 * i + 8) q1) (13 * i + 9) ad) ((13 * i) + 10) 0 = (upd (upd (upd (upd pa (13 * i + 7) p1) (13 * i + 8) q1) (13 * i + 9) ad) (13 * i + 10) hd) := by rw [c115]
      have hP : va_P D cls [oO mo 6 [.int 0, .ref a1, .int (nI nC), .ref a2, .ref a3, .ref a4, .ref a5, .ref a6, .ref a7, .ref a8, .ref a9, .int (nI nS), .ref a10, .int (nI nM), .ref a11], aI D a10 130 (upd (upd (upd (upd pa (13 * i + 7) p1) (13 * i + 8) q1) (13 * i + 9) ad) (13 * i + 10) hd)] H := by rw [← hfn]; exact hP
      have hD : va_D A [oO mo 6 [.int 0, .ref a1, .int (nI nC), .ref a2, .ref a3, .ref a4, .ref a5, .ref a6, .ref a7, .ref a8, .ref a9, .int (nI nS), .ref a10, .int (nI nM), .ref a11], aI D a10 130 (upd (upd (upd (upd pa (13 * i + 7) p1) (13 * i + 8) q1) (13 * i + 9) ad) (13 * i + 10) hd)] := by rw [← hfn]; exact hD
      refine lv_iload hx hb dX6_setBlend_124 (lv_at hl 0 rfl) ?_
      refine Wi () hx hb hr hlk ?_ hP hD hS (Nat.le_of_ble_eq_true rfl) (by first | exact Nat.le_of_ble_eq_true rfl | exact Nat.le_of_eq (Nat.zero_add _)) dX6_setBlend_126
      exact rfl
    · skip
      refine lv_iconst (v := 1) hx hb dX6_setBlend_118 (by decide) ?_
      refine lv_goto (tgt := 123) hx hb dX6_setBlend_119 (by decide) ?_
      refine ist (n := 130) (j := (13 * i) + 10) hx hb hG hP hD hS 1 rfl (by omega) (by omega) dX6_setBlend_123 (fun H locs hP hD hS => ?_)
      have hfn : upd (upd (upd (upd pa (13 * i + 7) p1) (13 * i + 8) q1) (13 * i + 9) ad) ((13 * i) + 10) 1 = (upd (upd (upd (upd pa (13 * i + 7) p1) (13 * i + 8) q1) (13 * i + 9) ad) (13 * i + 10) hd) := by rw [hhd.resolve_left c115]
      have hP : va_P D cls [oO mo 6 [.int 0, .ref a1, .int (nI nC), .ref a2, .ref a3, .ref a4, .ref a5, .ref a6, .ref a7, .ref a8, .ref a9, .int (nI nS), .ref a10, .int (nI nM), .ref a11], aI D a10 130 (upd (upd (upd (upd pa (13 * i + 7) p1) (13 * i + 8) q1) (13 * i + 9) ad) (13 * i + 10) hd)] H := by rw [← hfn]; exact hP
      have hD : va_D A [oO mo 6 [.int 0, .ref a1, .int (nI nC), .ref a2, .ref a3, .ref a4, .ref a5, .ref a6, .ref a7, .ref a8, .ref a9, .int (nI nS), .ref a10, .int (nI nM), .ref a11], aI D a10 130 (upd (upd (upd (upd pa (13 * i + 7) p1) (13 * i + 8) q1) (13 * i + 9) ad) (13 * i + 10) hd)] := by rw [← hfn]; exact hD
      refine lv_iload hx hb dX6_setBlend_124 (lv_at hl 0 rfl) ?_
      refine Wi () hx hb hr hlk ?_ hP hD hS (Nat.le_of_ble_eq_true rfl) (by first | exact Nat.le_of_ble_eq_true rfl | exact Nat.le_of_eq (Nat.zero_add _)) dX6_setBlend_126
      exact rfl
  · skip
    refine lv_iconst (v := 1) hx hb dX6_setBlend_96 (by decide) ?_
    refine lv_goto (tgt := 101) hx hb dX6_setBlend_97 (by decide) ?_
    refine ist (n := 130) (j := (13 * i) + 9) hx hb hG hP hD hS 1 rfl (by omega) (by omega) dX6_setBlend_101 (fun H locs hP hD hS => ?_)
    have hfn : upd (upd (upd pa ((13 * i) + 7) p1) ((13 * i) + 8) q1) ((13 * i) + 9) 1 = (upd (upd (upd pa (13 * i + 7) p1) (13 * i + 8) q1) (13 * i + 9) ad) := by rw [had.resolve_left c93]
    have hP : va_P D cls [oO mo 6 [.int 0, .ref a1, .int (nI nC), .ref a2, .ref a3, .ref a4, .ref a5, .ref a6, .ref a7, .ref a8, .ref a9, .int (nI nS), .ref a10, .int (nI nM), .ref a11], aI D a10 130 (upd (upd (upd pa (13 * i + 7) p1) (13 * i + 8) q1) (13 * i + 9) ad)] H := by rw [← hfn]; exact hP
    have hD : va_D A [oO mo 6 [.int 0, .ref a1, .int (nI nC), .ref a2, .ref a3, .ref a4, .ref a5, .ref a6, .ref a7, .ref a8, .ref a9, .int (nI nS), .ref a10, .int (nI nM), .ref a11], aI D a10 130 (upd (upd (upd pa (13 * i + 7) p1) (13 * i + 8) q1) (13 * i + 9) ad)] := by rw [← hfn]; exact hD
    refine lv_aload_n hx hb dX6_setBlend_102 rfl (lv_at hl 1 rfl) ?_
    refine va_get (D := D) (ci := 6) (v := .ref a10) (C := RX6) (T := TX6) (N := 15) hx hb hts inlX6 hown hG.K hP 0 rfl rfl 12 (by decide) (hts _ mF_X6_37) (fun _ h9 => h9) rfl dX6_setBlend_103 ?_
    refine lv_bipush (v := 13) hx hb dX6_setBlend_106 (by decide) ?_
    refine lv_iload_n hx hb dX6_setBlend_108 rfl (lv_at hl 2 rfl) ?_
    refine lv_imul hx hb dX6_setBlend_109 ?_
    refine tpi (y := nI (13 * i)) (pk_mul 13 i) ?_
    refine lv_bipush (v := 10) hx hb dX6_setBlend_110 (by decide) ?_
    refine lv_iadd hx hb dX6_setBlend_112 ?_
    refine tpi (y := nI ((13 * i) + 10)) (nI_add (13 * i) 10) ?_
    refine lv_iload hx hb dX6_setBlend_113 (lv_at hl 6 rfl) ?_
    refine lv_if_eq (tgt := 122) hx hb dX6_setBlend_115 (by decide) (fun c115 => ?_) (fun c115 => ?_)
    · skip
      refine lv_iconst (v := 0) hx hb dX6_setBlend_122 (by decide) ?_
      refine ist (n := 130) (j := (13 * i) + 10) hx hb hG hP hD hS 1 rfl (by omega) (by omega) dX6_setBlend_123 (fun H locs hP hD hS => ?_)
      have hfn : upd (upd (upd (upd pa (13 * i + 7) p1) (13 * i + 8) q1) (13 * i + 9) ad) ((13 * i) + 10) 0 = (upd (upd (upd (upd pa (13 * i + 7) p1) (13 * i + 8) q1) (13 * i + 9) ad) (13 * i + 10) hd) := by rw [c115]
      have hP : va_P D cls [oO mo 6 [.int 0, .ref a1, .int (nI nC), .ref a2, .ref a3, .ref a4, .ref a5, .ref a6, .ref a7, .ref a8, .ref a9, .int (nI nS), .ref a10, .int (nI nM), .ref a11], aI D a10 130 (upd (upd (upd (upd pa (13 * i + 7) p1) (13 * i + 8) q1) (13 * i + 9) ad) (13 * i + 10) hd)] H := by rw [← hfn]; exact hP
      have hD : va_D A [oO mo 6 [.int 0, .ref a1, .int (nI nC), .ref a2, .ref a3, .ref a4, .ref a5, .ref a6, .ref a7, .ref a8, .ref a9, .int (nI nS), .ref a10, .int (nI nM), .ref a11], aI D a10 130 (upd (upd (upd (upd pa (13 * i + 7) p1) (13 * i + 8) q1) (13 * i + 9) ad) (13 * i + 10) hd)] := by rw [← hfn]; exact hD
      refine lv_iload hx hb dX6_setBlend_124 (lv_at hl 0 rfl) ?_
      refine Wi () hx hb hr hlk ?_ hP hD hS (Nat.le_of_ble_eq_true rfl) (by first | exact Nat.le_of_ble_eq_true rfl | exact Nat.le_of_eq (Nat.zero_add _)) dX6_setBlend_126
      exact rfl
    · skip
      refine lv_iconst (v := 1) hx hb dX6_setBlend_118 (by decide) ?_
      refine lv_goto (tgt := 123) hx hb dX6_setBlend_119 (by decide) ?_
      refine ist (n := 130) (j := (13 * i) + 10) hx hb hG hP hD hS 1 rfl (by omega) (by omega) dX6_setBlend_123 (fun H locs hP hD hS => ?_)
      have hfn : upd (upd (upd (upd pa (13 * i + 7) p1) (13 * i + 8) q1) (13 * i + 9) ad) ((13 * i) + 10) 1 = (upd (upd (upd (upd pa (13 * i + 7) p1) (13 * i + 8) q1) (13 * i + 9) ad) (13 * i + 10) hd) := by rw [hhd.resolve_left c115]
      have hP : va_P D cls [oO mo 6 [.int 0, .ref a1, .int (nI nC), .ref a2, .ref a3, .ref a4, .ref a5, .ref a6, .ref a7, .ref a8, .ref a9, .int (nI nS), .ref a10, .int (nI nM), .ref a11], aI D a10 130 (upd (upd (upd (upd pa (13 * i + 7) p1) (13 * i + 8) q1) (13 * i + 9) ad) (13 * i + 10) hd)] H := by rw [← hfn]; exact hP
      have hD : va_D A [oO mo 6 [.int 0, .ref a1, .int (nI nC), .ref a2, .ref a3, .ref a4, .ref a5, .ref a6, .ref a7, .ref a8, .ref a9, .int (nI nS), .ref a10, .int (nI nM), .ref a11], aI D a10 130 (upd (upd (upd (upd pa (13 * i + 7) p1) (13 * i + 8) q1) (13 * i + 9) ad) (13 * i + 10) hd)] := by rw [← hfn]; exact hD
      refine lv_iload hx hb dX6_setBlend_124 (lv_at hl 0 rfl) ?_
      refine Wi () hx hb hr hlk ?_ hP hD hS (Nat.le_of_ble_eq_true rfl) (by first | exact Nat.le_of_ble_eq_true rfl | exact Nat.le_of_eq (Nat.zero_add _)) dX6_setBlend_126
      exact rfl
set_option maxHeartbeats 400000 in
set_option maxRecDepth 100000 in
theorem m_setFade_1 (l : Launch) (D : va_G) {mo a1 a2 a3 a4 a5 a6 a7 a8 a9 a10 a11 nC nS nM : Nat} {th : Int32} {x p1 q1 : Int32} (hz0 : Nat) (hn : nS ≤ 10) (hxx : x < 0 ∨ nI nS ≤ x) : Met l yX6_setFade (ws_ yX6_setFade cX6_setFade 5 (some .int)) ({ frames := 2, cells := 0, slots := 0, locals := 43 } : Room) (va_Pc [.ref mo, .int x, .int p1, .int q1] (SW D [oO mo 6 [.int th, .ref a1, .int (nI nC), .ref a2, .ref a3, .ref a4, .ref a5, .ref a6, .ref a7, .ref a8, .ref a9, .int (nI nS), .ref a10, .int (nI nM), .ref a11]] hz0)) (va_Qi (fun v _ => v = 0) (AT D (va_A [oO mo 6 [.int th, .ref a1, .int (nI nC), .ref a2, .ref a3, .ref a4, .ref a5, .ref a6, .ref a7, .ref a8, .ref a9, .int (nI nS), .ref a10, .int (nI nM), .ref a11]] hz0) (fun _ : Unit => [oO mo 6 [.int 1, .ref a1, .int (nI nC), .ref a2, .ref a3, .ref a4, .ref a5, .ref a6, .ref a7, .ref a8, .ref a9, .int (nI nS), .ref a10, .int (nI nM), .ref a11]])) (va_A [oO mo 6 [.int th, .ref a1, .int (nI nC), .ref a2, .ref a3, .ref a4, .ref a5, .ref a6, .ref a7, .ref a8, .ref a9, .int (nI nS), .ref a10, .int (nI nM), .ref a11]] hz0)) 0 0 (va_A [oO mo 6 [.int th, .ref a1, .int (nI nC), .ref a2, .ref a3, .ref a4, .ref a5, .ref a6, .ref a7, .ref a8, .ref a9, .int (nI nS), .ref a10, .int (nI nM), .ref a11]] hz0) := by
  refine Met.ofW (cc := cX6_setFade) (maxL := 5) (ret := (some .int)) (by decide) rfl ?_
  intro p e s m args below meth c s₁ B hml hv
  obtain ⟨rfl, hsz, hG, hP, hD0⟩ := hv
  have hx := B.exec
  have hb := B.bytes
  have hr := B.returns
  have hts : ∀ w ∈ wsL_law, w.before _ s = true := fun w h => atoms_spec (ws := (ws_ yX6_setFade cX6_setFade 5 (some .int))) B.pre w (List.mem_cons_of_mem _ h)
  have hown : s.vm.findClass RX6 = some m.cls := findClass_of_methodNamed B.named
  have hlk := B.notSynchronized
  have hC : CallFix p m c cX6_setFade 5 s _ wsL_law RX6 := ⟨hx, hb, hml, hown, hts⟩
  subst hsz
  have hD := hD0.self (sz := s.heap.size)
  generalize hAe : va_A [oO mo 6 [.int th, .ref a1, .int (nI nC), .ref a2, .ref a3, .ref a4, .ref a5, .ref a6, .ref a7, .ref a8, .ref a9, .int (nI nS), .ref a10, .int (nI nM), .ref a11]] s.heap.size = A at hD ⊢
  have hA : ∀ q : Nat, s.heap.size ≤ q → A q := fun q h => by rw [← hAe]; exact Or.inr h
  have hS : va_S A s.heap s.heap [] := va_S.rf
  obtain ⟨H, hHe⟩ : ∃ H, H = s.heap := ⟨_, rfl⟩
  rw [← hHe] at hP
  have hS : va_S A s.heap H [] := by rw [hHe]; exact hS
  have hl := lv_entry ([.ref mo, .int x, .int p1, .int q1]) (n := 5) (Nat.le_of_ble_eq_true rfl)
  rw [lg_entry_eq]
  generalize (lg_sl ([.ref mo, .int x, .int p1, .int q1]) ++ List.replicate (5 - (lg_sl ([.ref mo, .int x, .int p1, .int q1])).length) Slot.unset).toArray = ls at hl ⊢
  have hl : lv_has ls 5 [(0, .ref mo), (1, .int x), (2, .int p1), (3, .int q1)] := hl
  rw [← hHe]
  refine lv_aload_n hx hb dX6_setFade_0 rfl (lv_at hl 0 rfl) ?_
  refine lv_iconst (v := 0) hx hb dX6_setFade_1 (by decide) ?_
  refine va_put (D := D) (ci := 6) (v := .int 0) (ty := .int) (C := RX6) (T := TX6) (N := 15) hx hb hts inlX6 tyX6 tyX6_ok nmX6 hown hG.K hP hD hS 0 rfl rfl 0 (by decide) (hts _ mF_X6_43) (fun _ h9 => h9) rfl (by decide +kernel) rfl rfl (Nat.le_of_ble_eq_true rfl) dX6_setFade_2 (fun H locs hP hD hS => ?_)
  have hP : va_P D cls [oO mo 6 [.int 0, .ref a1, .int (nI nC), .ref a2, .ref a3, .ref a4, .ref a5, .ref a6, .ref a7, .ref a8, .ref a9, .int (nI nS), .ref a10, .int (nI nM), .ref a11]] H := hP
  have hD : va_D A [oO mo 6 [.int 0, .ref a1, .int (nI nC), .ref a2, .ref a3, .ref a4, .ref a5, .ref a6, .ref a7, .ref a8, .ref a9, .int (nI nS), .ref a10, .int (nI nM), .ref a11]] := hD
  refine lv_aload_n hx hb dX6_setFade_5 rfl (lv_at hl 0 rfl) ?_
  refine lv_iload_n hx hb dX6_setFade_6 rfl (lv_at hl 1 rfl) ?_
  have hP9 := hP
  refine vp_callSi (pV (rest := []) (qc := (RX6, TX6, 15)) [.int x] 1 hC (m_isStrip_no l D (mo := mo) (x := x) (th := 0) (a1 := a1) (nC := nC) (a2 := a2) (a3 := a3) (a4 := a4) (a5 := a5) (a6 := a6) (a7 := a7) (a8 := a8) (a9 := a9) (nS := nS) (a10 := a10) (nM := nM) (a11 := a11) (by omega) (hxx)) rfl (hP 0 _ rfl) (gV mM_X6_117 mI_X6_isStrip mS_X6_isStrip mN_X6 mC_X6_isStrip) (by decide +kernel) rfl rfl ⟨Nat.le_of_ble_eq_true rfl, Nat.le_of_ble_eq_true rfl⟩ hG hP9 rfl hl.1 rfl (Nat.le_of_ble_eq_true rfl) dX6_setFade_7 ⟨Nat.le_of_ble_eq_true rfl, Nat.le_of_ble_eq_true rfl⟩) (fun r7 h7 => ?_)
  obtain rfl : r7 = 0 := h7
  refine lv_if_ne (tgt := 19) hx hb dX6_setFade_10 (by decide) (fun h9 => (h9 (by decide)).elim) (fun _ => ?_)
  refine lv_aload_n hx hb dX6_setFade_13 rfl (lv_at hl 0 rfl) ?_
  refine lv_iconst (v := 1) hx hb dX6_setFade_14 (by decide) ?_
  have hP9 := hP.sub (ws' := [oO mo 6 [.int 0, .ref a1, .int (nI nC), .ref a2, .ref a3, .ref a4, .ref a5, .ref a6, .ref a7, .ref a8, .ref a9, .int (nI nS), .ref a10, .int (nI nM), .ref a11]]) [0] rfl
  have hD9 := (hD.sub (ws' := [oO mo 6 [.int 0, .ref a1, .int (nI nC), .ref a2, .ref a3, .ref a4, .ref a5, .ref a6, .ref a7, .ref a8, .ref a9, .int (nI nS), .ref a10, .int (nI nM), .ref a11]]) [0] (by decide) rfl).weaken (B := fun _ => True) (fun _ _ _ _ => trivial)
  refine ki (wr := []) (rV (rest := []) (qc := (RX6, TX6, 15)) [.int 1] 1 0 0 hC (m_no l D (mo := mo) (x := 1) (th := 0) (a1 := a1) (nC := nC) (a2 := a2) (a3 := a3) (a4 := a4) (a5 := a5) (a6 := a6) (a7 := a7) (a8 := a8) (a9 := a9) (nS := nS) (a10 := a10) (nM := nM) (a11 := a11) (hz0 := H.size) ) rfl (hP 0 _ rfl) (gV mM_X6_66 mI_X6_no mS_X6_no mN_X6 mC_X6_no) (by decide +kernel) rfl rfl ⟨Nat.le_of_ble_eq_true rfl, Nat.le_of_ble_eq_true rfl⟩ hG hP9 hD9 rfl hl.1 rfl (Nat.le_of_ble_eq_true rfl) dX6_setFade_15 ⟨Nat.le_of_ble_eq_true rfl, Nat.le_of_ble_eq_true rfl⟩) hP hD hS hA [0] [] rfl rfl (by decide) (by decide) (fun r15 u15 H locs h15 hP hD hS hz hfr => ?_)
  have hP : va_P D cls [oO mo 6 [.int 1, .ref a1, .int (nI nC), .ref a2, .ref a3, .ref a4, .ref a5, .ref a6, .ref a7, .ref a8, .ref a9, .int (nI nS), .ref a10, .int (nI nM), .ref a11]] H := hP
  have hD : va_D A [oO mo 6 [.int 1, .ref a1, .int (nI nC), .ref a2, .ref a3, .ref a4, .ref a5, .ref a6, .ref a7, .ref a8, .ref a9, .int (nI nS), .ref a10, .int (nI nM), .ref a11]] := hD
  obtain rfl : r15 = 0 := h15
  refine Wi () hx hb hr hlk ?_ hP hD hS (Nat.le_of_ble_eq_true rfl) (by first | exact Nat.le_of_ble_eq_true rfl | exact Nat.le_of_eq (Nat.zero_add _)) dX6_setFade_18
  exact rfl
set_option maxHeartbeats 400000 in
set_option maxRecDepth 100000 in
theorem m_setFade_2 (l : Launch) (D : va_G) {mo a1 a2 a3 a4 a5 a6 a7 a8 a9 a10 a11 nC nS nM : Nat} {th : Int32} {i : Nat} {p1 q1 : Int32} (hz0 : Nat) (hn : nS ≤ 10) (hi : i < nS) (h : ¬ (((0 : Int32) ≤ p1 ∧ p1 ≤ 2000) ∧ ((0 : Int32) ≤ q1 ∧ q1 ≤ 2000))) : Met l yX6_setFade (ws_ yX6_setFade cX6_setFade 5 (some .int)) ({ frames := 2, cells := 0, slots := 0, locals := 43 } : Room) (va_Pc [.ref mo, .int (nI i), .int p1, .int q1] (SW D [oO mo 6 [.int th, .ref a1, .int (nI nC), .ref a2, .ref a3, .ref a4, .ref a5, .ref a6, .ref a7, .ref a8, .ref a9, .int (nI nS), .ref a10, .int (nI nM), .ref a11]] hz0)) (va_Qi (fun v _ => v = 0) (AT D (va_A [oO mo 6 [.int th, .ref a1, .int (nI nC), .ref a2, .ref a3, .ref a4, .ref a5, .ref a6, .ref a7, .ref a8, .ref a9, .int (nI nS), .ref a10, .int (nI nM), .ref a11]] hz0) (fun _ : Unit => [oO mo 6 [.int 2, .ref a1, .int (nI nC), .ref a2, .ref a3, .ref a4, .ref a5, .ref a6, .ref a7, .ref a8, .ref a9, .int (nI nS), .ref a10, .int (nI nM), .ref a11]])) (va_A [oO mo 6 [.int th, .ref a1, .int (nI nC), .ref a2, .ref a3, .ref a4, .ref a5, .ref a6, .ref a7, .ref a8, .ref a9, .int (nI nS), .ref a10, .int (nI nM), .ref a11]] hz0)) 0 0 (va_A [oO mo 6 [.int th, .ref a1, .int (nI nC), .ref a2, .ref a3, .ref a4, .ref a5, .ref a6, .ref a7, .ref a8, .ref a9, .int (nI nS), .ref a10, .int (nI nM), .ref a11]] hz0) := by
  refine Met.ofW (cc := cX6_setFade) (maxL := 5) (ret := (some .int)) (by decide) rfl ?_
  intro p e s m args below meth c s₁ B hml hv
  obtain ⟨rfl, hsz, hG, hP, hD0⟩ := hv
  have hx := B.exec
  have hb := B.bytes
  have hr := B.returns
  have hts : ∀ w ∈ wsL_law, w.before _ s = true := fun w h => atoms_spec (ws := (ws_ yX6_setFade cX6_setFade 5 (some .int))) B.pre w (List.mem_cons_of_mem _ h)
  have hown : s.vm.findClass RX6 = some m.cls := findClass_of_methodNamed B.named
  have hlk := B.notSynchronized
  have hC : CallFix p m c cX6_setFade 5 s _ wsL_law RX6 := ⟨hx, hb, hml, hown, hts⟩
  subst hsz
  have hD := hD0.self (sz := s.heap.size)
  generalize hAe : va_A [oO mo 6 [.int th, .ref a1, .int (nI nC), .ref a2, .ref a3, .ref a4, .ref a5, .ref a6, .ref a7, .ref a8, .ref a9, .int (nI nS), .ref a10, .int (nI nM), .ref a11]] s.heap.size = A at hD ⊢
  have hA : ∀ q : Nat, s.heap.size ≤ q → A q := fun q h => by rw [← hAe]; exact Or.inr h
  have hS : va_S A s.heap s.heap [] := va_S.rf
  obtain ⟨H, hHe⟩ : ∃ H, H = s.heap := ⟨_, rfl⟩
  rw [← hHe] at hP
  have hS : va_S A s.heap H [] := by rw [hHe]; exact hS
  have hl := lv_entry ([.ref mo, .int (nI i), .int p1, .int q1]) (n := 5) (Nat.le_of_ble_eq_true rfl)
  rw [lg_entry_eq]
  generalize (lg_sl ([.ref mo, .int (nI i), .int p1, .int q1]) ++ List.replicate (5 - (lg_sl ([.ref mo, .int (nI i), .int p1, .int q1])).length) Slot.unset).toArray = ls at hl ⊢
  have hl : lv_has ls 5 [(0, .ref mo), (1, .int (nI i)), (2, .int p1), (3, .int q1)] := hl
  rw [← hHe]
  refine lv_aload_n hx hb dX6_setFade_0 rfl (lv_at hl 0 rfl) ?_
  refine lv_iconst (v := 0) hx hb dX6_setFade_1 (by decide) ?_
  refine va_put (D := D) (ci := 6) (v := .int 0) (ty := .int) (C := RX6) (T := TX6) (N := 15) hx hb hts inlX6 tyX6 tyX6_ok nmX6 hown hG.K hP hD hS 0 rfl rfl 0 (by decide) (hts _ mF_X6_43) (fun _ h9 => h9) rfl (by decide +kernel) rfl rfl (Nat.le_of_ble_eq_true rfl) dX6_setFade_2 (fun H locs hP hD hS => ?_)
  have hP : va_P D cls [oO mo 6 [.int 0, .ref a1, .int (nI nC), .ref a2, .ref a3, .ref a4, .ref a5, .ref a6, .ref a7, .ref a8, .ref a9, .int (nI nS), .ref a10, .int (nI nM), .ref a11]] H := hP
  have hD : va_D A [oO mo 6 [.int 0, .ref a1, .int (nI nC), .ref a2, .ref a3, .ref a4, .ref a5, .ref a6, .ref a7, .ref a8, .ref a9, .int (nI nS), .ref a10, .int (nI nM), .ref a11]] := hD
  refine lv_aload_n hx hb dX6_setFade_5 rfl (lv_at hl 0 rfl) ?_
  refine lv_iload_n hx hb dX6_setFade_6 rfl (lv_at hl 1 rfl) ?_
  have hP9 := hP
  refine vp_callSi (pV (rest := []) (qc := (RX6, TX6, 15)) [.int (nI i)] 1 hC (m_isStrip l D (mo := mo) (i := i) (th := 0) (a1 := a1) (nC := nC) (a2 := a2) (a3 := a3) (a4 := a4) (a5 := a5) (a6 := a6) (a7 := a7) (a8 := a8) (a9 := a9) (nS := nS) (a10 := a10) (nM := nM) (a11 := a11) (by omega) (by omega)) rfl (hP 0 _ rfl) (gV mM_X6_117 mI_X6_isStrip mS_X6_isStrip mN_X6 mC_X6_isStrip) (by decide +kernel) rfl rfl ⟨Nat.le_of_ble_eq_true rfl, Nat.le_of_ble_eq_true rfl⟩ hG hP9 rfl hl.1 rfl (Nat.le_of_ble_eq_true rfl) dX6_setFade_7 ⟨Nat.le_of_ble_eq_true rfl, Nat.le_of_ble_eq_true rfl⟩) (fun r7 h7 => ?_)
  obtain rfl : r7 = 1 := h7
  refine lv_if_ne (tgt := 19) hx hb dX6_setFade_10 (by decide) (fun _ => ?_) (fun h9 => absurd h9 (by decide))
  refine lv_iload_n hx hb dX6_setFade_19 rfl (lv_at hl 2 rfl) ?_
  refine lv_iconst (v := 0) hx hb dX6_setFade_20 (by decide) ?_
  refine lv_sipush (v := 2000) hx hb dX6_setFade_21 (by decide) ?_
  have hP9 : va_P D cls [] H := fun k q h => by simp at h
  refine vp_callSi (pS (rest := []) [.int p1, .int 0, .int 2000] 3 hC (m_isIn l D (x := p1) (a := 0) (b := 2000) ) (gS mM_X6_50 mT_X6_isIn mN_X6 mC_X6_isIn) (by decide +kernel) rfl rfl ⟨Nat.le_of_ble_eq_true rfl, Nat.le_of_ble_eq_true rfl⟩ hG hP9 rfl hl.1 rfl (Nat.le_of_ble_eq_true rfl) dX6_setFade_24 ⟨Nat.le_of_ble_eq_true rfl, Nat.le_of_ble_eq_true rfl⟩) (fun r24 h24 => ?_)
  rcases h24 with ⟨rfl, hb24⟩ | ⟨rfl, hb24⟩
  · skip
    refine lv_if_eq (tgt := 41) hx hb dX6_setFade_27 (by decide) (fun h9 => absurd h9 (by decide)) (fun _ => ?_)
    refine lv_iload_n hx hb dX6_setFade_30 rfl (lv_at hl 3 rfl) ?_
    refine lv_iconst (v := 0) hx hb dX6_setFade_31 (by decide) ?_
    refine lv_sipush (v := 2000) hx hb dX6_setFade_32 (by decide) ?_
    have hP9 : va_P D cls [] H := fun k q h => by simp at h
    refine vp_callSi (pS (rest := []) [.int q1, .int 0, .int 2000] 3 hC (m_isIn l D (x := q1) (a := 0) (b := 2000) ) (gS mM_X6_50 mT_X6_isIn mN_X6 mC_X6_isIn) (by decide +kernel) rfl rfl ⟨Nat.le_of_ble_eq_true rfl, Nat.le_of_ble_eq_true rfl⟩ hG hP9 rfl hl.1 rfl (Nat.le_of_ble_eq_true rfl) dX6_setFade_35 ⟨Nat.le_of_ble_eq_true rfl, Nat.le_of_ble_eq_true rfl⟩) (fun r35 h35 => ?_)
    rcases h35 with ⟨rfl, hb35⟩ | ⟨rfl, hb35⟩
    · exact absurd hb35 (fun h9 => h ⟨hb24, h9⟩)
    refine lv_if_ne (tgt := 47) hx hb dX6_setFade_38 (by decide) (fun h9 => (h9 (by decide)).elim) (fun _ => ?_)
    refine lv_aload_n hx hb dX6_setFade_41 rfl (lv_at hl 0 rfl) ?_
    refine lv_iconst (v := 2) hx hb dX6_setFade_42 (by decide) ?_
    have hP9 := hP.sub (ws' := [oO mo 6 [.int 0, .ref a1, .int (nI nC), .ref a2, .ref a3, .ref a4, .ref a5, .ref a6, .ref a7, .ref a8, .ref a9, .int (nI nS), .ref a10, .int (nI nM), .ref a11]]) [0] rfl
    have hD9 := (hD.sub (ws' := [oO mo 6 [.int 0, .ref a1, .int (nI nC), .ref a2, .ref a3, .ref a4, .ref a5, .ref a6, .ref a7, .ref a8, .ref a9, .int (nI nS), .ref a10, .int (nI nM), .ref a11]]) [0] (by decide) rfl).weaken (B := fun _ => True) (fun _ _ _ _ => trivial)
    refine ki (wr := []) (rV (rest := []) (qc := (RX6, TX6, 15)) [.int 2] 1 0 0 hC (m_no l D (mo := mo) (x := 2) (th := 0) (a1 := a1) (nC := nC) (a2 := a2) (a3 := a3) (a4 := a4) (a5 := a5) (a6 := a6) (a7 := a7) (a8 := a8) (a9 := a9) (nS := nS) (a10 := a10) (nM := nM) (a11 := a11) (hz0 := H.size) ) rfl (hP 0 _ rfl) (gV mM_X6_66 mI_X6_no mS_X6_no mN_X6 mC_X6_no) (by decide +kernel) rfl rfl ⟨Nat.le_of_ble_eq_true rfl, Nat.le_of_ble_eq_true rfl⟩ hG hP9 hD9 rfl hl.1 rfl (Nat.le_of_ble_eq_true rfl) dX6_setFade_43 ⟨Nat.le_of_ble_eq_true rfl, Nat.le_of_ble_eq_true rfl⟩) hP hD hS hA [0] [] rfl rfl (by decide) (by decide) (fun r43 u43 H locs h43 hP hD hS hz hfr => ?_)
    have hP : va_P D cls [oO mo 6 [.int 2, .ref a1, .int (nI nC), .ref a2, .ref a3, .ref a4, .ref a5, .ref a6, .ref a7, .ref a8, .ref a9, .int (nI nS), .ref a10, .int (nI nM), .ref a11]] H := hP
    have hD : va_D A [oO mo 6 [.int 2, .ref a1, .int (nI nC), .ref a2, .ref a3, .ref a4, .ref a5, .ref a6, .ref a7, .ref a8, .ref a9, .int (nI nS), .ref a10, .int (nI nM), .ref a11]] := hD
    obtain rfl : r43 = 0 := h43
    refine Wi () hx hb hr hlk ?_ hP hD hS (Nat.le_of_ble_eq_true rfl) (by first | exact Nat.le_of_ble_eq_true rfl | exact Nat.le_of_eq (Nat.zero_add _)) dX6_setFade_46
    exact rfl
  · skip
    refine lv_if_eq (tgt := 41) hx hb dX6_setFade_27 (by decide) (fun _ => ?_) (fun h9 => (h9 (by decide)).elim)
    refine lv_aload_n hx hb dX6_setFade_41 rfl (lv_at hl 0 rfl) ?_
    refine lv_iconst (v := 2) hx hb dX6_setFade_42 (by decide) ?_
    have hP9 := hP.sub (ws' := [oO mo 6 [.int 0, .ref a1, .int (nI nC), .ref a2, .ref a3, .ref a4, .ref a5, .ref a6, .ref a7, .ref a8, .ref a9, .int (nI nS), .ref a10, .int (nI nM), .ref a11]]) [0] rfl
    have hD9 := (hD.sub (ws' := [oO mo 6 [.int 0, .ref a1, .int (nI nC), .ref a2, .ref a3, .ref a4, .ref a5, .ref a6, .ref a7, .ref a8, .ref a9, .int (nI nS), .ref a10, .int (nI nM), .ref a11]]) [0] (by decide) rfl).weaken (B := fun _ => True) (fun _ _ _ _ => trivial)
    refine ki (wr := []) (rV (rest := []) (qc := (RX6, TX6, 15)) [.int 2] 1 0 0 hC (m_no l D (mo := mo) (x := 2) (th := 0) (a1 := a1) (nC := nC) (a2 := a2) (a3 := a3) (a4 := a4) (a5 := a5) (a6 := a6) (a7 := a7) (a8 := a8) (a9 := a9) (nS := nS) (a10 := a10) (nM := nM) (a11 := a11) (hz0 := H.size) ) rfl (hP 0 _ rfl) (gV mM_X6_66 mI_X6_no mS_X6_no mN_X6 mC_X6_no) (by decide +kernel) rfl rfl ⟨Nat.le_of_ble_eq_true rfl, Nat.le_of_ble_eq_true rfl⟩ hG hP9 hD9 rfl hl.1 rfl (Nat.le_of_ble_eq_true rfl) dX6_setFade_43 ⟨Nat.le_of_ble_eq_true rfl, Nat.le_of_ble_eq_true rfl⟩) hP hD hS hA [0] [] rfl rfl (by decide) (by decide) (fun r43 u43 H locs h43 hP hD hS hz hfr => ?_)
    have hP : va_P D cls [oO mo 6 [.int 2, .ref a1, .int (nI nC), .ref a2, .ref a3, .ref a4, .ref a5, .ref a6, .ref a7, .ref a8, .ref a9, .int (nI nS), .ref a10, .int (nI nM), .ref a11]] H := hP
    have hD : va_D A [oO mo 6 [.int 2, .ref a1, .int (nI nC), .ref a2, .ref a3, .ref a4, .ref a5, .ref a6, .ref a7, .ref a8, .ref a9, .int (nI nS), .ref a10, .int (nI nM), .ref a11]] := hD
    obtain rfl : r43 = 0 := h43
    refine Wi () hx hb hr hlk ?_ hP hD hS (Nat.le_of_ble_eq_true rfl) (by first | exact Nat.le_of_ble_eq_true rfl | exact Nat.le_of_eq (Nat.zero_add _)) dX6_setFade_46
    exact rfl
set_option maxHeartbeats 400000 in
set_option maxRecDepth 100000 in
theorem m_setFade (l : Launch) (D : va_G) {mo a1 a2 a3 a4 a5 a6 a7 a8 a9 a10 a11 nC nS nM : Nat} {th : Int32} {pa : Nat → Int32} {i : Nat} {p1 q1 : Int32} (hz0 : Nat) (hn : nS ≤ 10) (hi : i < nS) (h : ((0 : Int32) ≤ p1 ∧ p1 ≤ 2000) ∧ ((0 : Int32) ≤ q1 ∧ q1 ≤ 2000)) : Met l yX6_setFade (ws_ yX6_setFade cX6_setFade 5 (some .int)) ({ frames := 2, cells := 0, slots := 0, locals := 43 } : Room) (va_Pc [.ref mo, .int (nI i), .int p1, .int q1] (SW D [oO mo 6 [.int th, .ref a1, .int (nI nC), .ref a2, .ref a3, .ref a4, .ref a5, .ref a6, .ref a7, .ref a8, .ref a9, .int (nI nS), .ref a10, .int (nI nM), .ref a11], aI D a10 130 pa] hz0)) (va_Qi (fun v _ => v = pa (13 * i + 11)) (AT D (va_A [oO mo 6 [.int th, .ref a1, .int (nI nC), .ref a2, .ref a3, .ref a4, .ref a5, .ref a6, .ref a7, .ref a8, .ref a9, .int (nI nS), .ref a10, .int (nI nM), .ref a11], aI D a10 130 pa] hz0) (fun _ : Unit => [oO mo 6 [.int 0, .ref a1, .int (nI nC), .ref a2, .ref a3, .ref a4, .ref a5, .ref a6, .ref a7, .ref a8, .ref a9, .int (nI nS), .ref a10, .int (nI nM), .ref a11], aI D a10 130 (upd (upd pa (13 * i + 11) p1) (13 * i + 12) q1)])) (va_A [oO mo 6 [.int th, .ref a1, .int (nI nC), .ref a2, .ref a3, .ref a4, .ref a5, .ref a6, .ref a7, .ref a8, .ref a9, .int (nI nS), .ref a10, .int (nI nM), .ref a11], aI D a10 130 pa] hz0)) 0 0 (va_A [oO mo 6 [.int th, .ref a1, .int (nI nC), .ref a2, .ref a3, .ref a4, .ref a5, .ref a6, .ref a7, .ref a8, .ref a9, .int (nI nS), .ref a10, .int (nI nM), .ref a11], aI D a10 130 pa] hz0) := by
  refine Met.ofW (cc := cX6_setFade) (maxL := 5) (ret := (some .int)) (by decide) rfl ?_
  intro p e s m args below meth c s₁ B hml hv
  obtain ⟨rfl, hsz, hG, hP, hD0⟩ := hv
  have hx := B.exec
  have hb := B.bytes
  have hr := B.returns
  have hts : ∀ w ∈ wsL_law, w.before _ s = true := fun w h => atoms_spec (ws := (ws_ yX6_setFade cX6_setFade 5 (some .int))) B.pre w (List.mem_cons_of_mem _ h)
  have hown : s.vm.findClass RX6 = some m.cls := findClass_of_methodNamed B.named
  have hlk := B.notSynchronized
  have hC : CallFix p m c cX6_setFade 5 s _ wsL_law RX6 := ⟨hx, hb, hml, hown, hts⟩
  subst hsz
  have hD := hD0.self (sz := s.heap.size)
  generalize hAe : va_A [oO mo 6 [.int th, .ref a1, .int (nI nC), .ref a2, .ref a3, .ref a4, .ref a5, .ref a6, .ref a7, .ref a8, .ref a9, .int (nI nS), .ref a10, .int (nI nM), .ref a11], aI D a10 130 pa] s.heap.size = A at hD ⊢
  have hA : ∀ q : Nat, s.heap.size ≤ q → A q := fun q h => by rw [← hAe]; exact Or.inr h
  have hS : va_S A s.heap s.heap [] := va_S.rf
  obtain ⟨H, hHe⟩ : ∃ H, H = s.heap := ⟨_, rfl⟩
  rw [← hHe] at hP
  have hS : va_S A s.heap H [] := by rw [hHe]; exact hS
  have hl := lv_entry ([.ref mo, .int (nI i), .int p1, .int q1]) (n := 5) (Nat.le_of_ble_eq_true rfl)
  rw [lg_entry_eq]
  generalize (lg_sl ([.ref mo, .int (nI i), .int p1, .int q1]) ++ List.replicate (5 - (lg_sl ([.ref mo, .int (nI i), .int p1, .int q1])).length) Slot.unset).toArray = ls at hl ⊢
  have hl : lv_has ls 5 [(0, .ref mo), (1, .int (nI i)), (2, .int p1), (3, .int q1)] := hl
  rw [← hHe]
  refine lv_aload_n hx hb dX6_setFade_0 rfl (lv_at hl 0 rfl) ?_
  refine lv_iconst (v := 0) hx hb dX6_setFade_1 (by decide) ?_
  refine va_put (D := D) (ci := 6) (v := .int 0) (ty := .int) (C := RX6) (T := TX6) (N := 15) hx hb hts inlX6 tyX6 tyX6_ok nmX6 hown hG.K hP hD hS 0 rfl rfl 0 (by decide) (hts _ mF_X6_43) (fun _ h9 => h9) rfl (by decide +kernel) rfl rfl (Nat.le_of_ble_eq_true rfl) dX6_setFade_2 (fun H locs hP hD hS => ?_)
  have hP : va_P D cls [oO mo 6 [.int 0, .ref a1, .int (nI nC), .ref a2, .ref a3, .ref a4, .ref a5, .ref a6, .ref a7, .ref a8, .ref a9, .int (nI nS), .ref a10, .int (nI nM), .ref a11], aI D a10 130 pa] H := hP
  have hD : va_D A [oO mo 6 [.int 0, .ref a1, .int (nI nC), .ref a2, .ref a3, .ref a4, .ref a5, .ref a6, .ref a7, .ref a8, .ref a9, .int (nI nS), .ref a10, .int (nI nM), .ref a11], aI D a10 130 pa] := hD
  refine lv_aload_n hx hb dX6_setFade_5 rfl (lv_at hl 0 rfl) ?_
  refine lv_iload_n hx hb dX6_setFade_6 rfl (lv_at hl 1 rfl) ?_
  have hP9 := hP.sub (ws' := [oO mo 6 [.int 0, .ref a1, .int (nI nC), .ref a2, .ref a3, .ref a4, .ref a5, .ref a6, .ref a7, .ref a8, .ref a9, .int (nI nS), .ref a10, .int (nI nM), .ref a11]]) [0] rfl
  refine vp_callSi (pV (rest := []) (qc := (RX6, TX6, 15)) [.int (nI i)] 1 hC (m_isStrip l D (mo := mo) (i := i) (th := 0) (a1 := a1) (nC := nC) (a2 := a2) (a3 := a3) (a4 := a4) (a5 := a5) (a6 := a6) (a7 := a7) (a8 := a8) (a9 := a9) (nS := nS) (a10 := a10) (nM := nM) (a11 := a11) (by omega) (by omega)) rfl (hP 0 _ rfl) (gV mM_X6_117 mI_X6_isStrip mS_X6_isStrip mN_X6 mC_X6_isStrip) (by decide +kernel) rfl rfl ⟨Nat.le_of_ble_eq_true rfl, Nat.le_of_ble_eq_true rfl⟩ hG hP9 rfl hl.1 rfl (Nat.le_of_ble_eq_true rfl) dX6_setFade_7 ⟨Nat.le_of_ble_eq_true rfl, Nat.le_of_ble_eq_true rfl⟩) (fun r7 h7 => ?_)
  obtain rfl : r7 = 1 := h7
  refine lv_if_ne (tgt := 19) hx hb dX6_setFade_10 (by decide) (fun _ => ?_) (fun h9 => absurd h9 (by decide))
  refine lv_iload_n hx hb dX6_setFade_19 rfl (lv_at hl 2 rfl) ?_
  refine lv_iconst (v := 0) hx hb dX6_setFade_20 (by decide) ?_
  refine lv_sipush (v := 2000) hx hb dX6_setFade_21 (by decide) ?_
  have hP9 : va_P D cls [] H := fun k q h => by simp at h
  refine vp_callSi (pS (rest := []) [.int p1, .int 0, .int 2000] 3 hC (m_isIn l D (x := p1) (a := 0) (b := 2000) ) (gS mM_X6_50 mT_X6_isIn mN_X6 mC_X6_isIn) (by decide +kernel) rfl rfl ⟨Nat.le_of_ble_eq_true rfl, Nat.le_of_ble_eq_true rfl⟩ hG hP9 rfl hl.1 rfl (Nat.le_of_ble_eq_true rfl) dX6_setFade_24 ⟨Nat.le_of_ble_eq_true rfl, Nat.le_of_ble_eq_true rfl⟩) (fun r24 h24 => ?_)
  rcases h24 with ⟨rfl, hb24⟩ | ⟨rfl, hb24⟩
  rotate_left
  · exact absurd (h.1) hb24
  refine lv_if_eq (tgt := 41) hx hb dX6_setFade_27 (by decide) (fun h9 => absurd h9 (by decide)) (fun _ => ?_)
  refine lv_iload_n hx hb dX6_setFade_30 rfl (lv_at hl 3 rfl) ?_
  refine lv_iconst (v := 0) hx hb dX6_setFade_31 (by decide) ?_
  refine lv_sipush (v := 2000) hx hb dX6_setFade_32 (by decide) ?_
  have hP9 : va_P D cls [] H := fun k q h => by simp at h
  refine vp_callSi (pS (rest := []) [.int q1, .int 0, .int 2000] 3 hC (m_isIn l D (x := q1) (a := 0) (b := 2000) ) (gS mM_X6_50 mT_X6_isIn mN_X6 mC_X6_isIn) (by decide +kernel) rfl rfl ⟨Nat.le_of_ble_eq_true rfl, Nat.le_of_ble_eq_true rfl⟩ hG hP9 rfl hl.1 rfl (Nat.le_of_ble_eq_true rfl) dX6_setFade_35 ⟨Nat.le_of_ble_eq_true rfl, Nat.le_of_ble_eq_true rfl⟩) (fun r35 h35 => ?_)
  rcases h35 with ⟨rfl, hb35⟩ | ⟨rfl, hb35⟩
  rotate_left
  · exact absurd (h.2) hb35
  refine lv_if_ne (tgt := 47) hx hb dX6_setFade_38 (by decide) (fun _ => ?_) (fun h9 => absurd h9 (by decide))
  refine lv_aload_n hx hb dX6_setFade_47 rfl (lv_at hl 0 rfl) ?_
  refine lv_iload_n hx hb dX6_setFade_48 rfl (lv_at hl 1 rfl) ?_
  refine lv_bipush (v := 11) hx hb dX6_setFade_49 (by decide) ?_
  have hP9 := hP
  refine vp_callSi (pV (rest := []) (qc := (RX6, TX6, 15)) [.int (nI i), .int 11] 2 hC (m_part l D (mo := mo) (i := i) (w := 11) (th := 0) (a1 := a1) (nC := nC) (a2 := a2) (a3 := a3) (a4 := a4) (a5 := a5) (a6 := a6) (a7 := a7) (a8 := a8) (a9 := a9) (nS := nS) (a10 := a10) (nM := nM) (a11 := a11) (pa := pa) (by omega) (by omega)) rfl (hP 0 _ rfl) (gV mM_X6_120 mI_X6_part mS_X6_part mN_X6 mC_X6_part) (by decide +kernel) rfl rfl ⟨Nat.le_of_ble_eq_true rfl, Nat.le_of_ble_eq_true rfl⟩ hG hP9 rfl hl.1 rfl (Nat.le_of_ble_eq_true rfl) dX6_setFade_51 ⟨Nat.le_of_ble_eq_true rfl, Nat.le_of_ble_eq_true rfl⟩) (fun r51 h51 => ?_)
  obtain rfl : r51 = (pa (13 * i + 11)) := h51
  refine lv_istore (lv' := [(4, .int (pa (13 * i + 11))), (0, .ref mo), (1, .int (nI i)), (2, .int p1), (3, .int q1)]) hx hb dX6_setFade_54 hl (by decide) rfl (fun ls hl => ?_)
  refine lv_aload_n hx hb dX6_setFade_56 rfl (lv_at hl 1 rfl) ?_
  refine va_get (D := D) (ci := 6) (v := .ref a10) (C := RX6) (T := TX6) (N := 15) hx hb hts inlX6 hown hG.K hP 0 rfl rfl 12 (by decide) (hts _ mF_X6_37) (fun _ h9 => h9) rfl dX6_setFade_57 ?_
  refine lv_bipush (v := 13) hx hb dX6_setFade_60 (by decide) ?_
  refine lv_iload_n hx hb dX6_setFade_62 rfl (lv_at hl 2 rfl) ?_
  refine lv_imul hx hb dX6_setFade_63 ?_
  refine tpi (y := nI (13 * i)) (pk_mul 13 i) ?_
  refine lv_bipush (v := 11) hx hb dX6_setFade_64 (by decide) ?_
  refine lv_iadd hx hb dX6_setFade_66 ?_
  refine tpi (y := nI ((13 * i) + 11)) (nI_add (13 * i) 11) ?_
  refine lv_iload_n hx hb dX6_setFade_67 rfl (lv_at hl 3 rfl) ?_
  refine ist (n := 130) (j := (13 * i) + 11) hx hb hG hP hD hS 1 rfl (by omega) (by omega) dX6_setFade_68 (fun H locs hP hD hS => ?_)
  have hP : va_P D cls [oO mo 6 [.int 0, .ref a1, .int (nI nC), .ref a2, .ref a3, .ref a4, .ref a5, .ref a6, .ref a7, .ref a8, .ref a9, .int (nI nS), .ref a10, .int (nI nM), .ref a11], aI D a10 130 (upd pa ((13 * i) + 11) p1)] H := hP
  have hD : va_D A [oO mo 6 [.int 0, .ref a1, .int (nI nC), .ref a2, .ref a3, .ref a4, .ref a5, .ref a6, .ref a7, .ref a8, .ref a9, .int (nI nS), .ref a10, .int (nI nM), .ref a11], aI D a10 130 (upd pa ((13 * i) + 11) p1)] := hD
  refine lv_aload_n hx hb dX6_setFade_69 rfl (lv_at hl 1 rfl) ?_
  refine va_get (D := D) (ci := 6) (v := .ref a10) (C := RX6) (T := TX6) (N := 15) hx hb hts inlX6 hown hG.K hP 0 rfl rfl 12 (by decide) (hts _ mF_X6_37) (fun _ h9 => h9) rfl dX6_setFade_70 ?_
  refine lv_bipush (v := 13) hx hb dX6_setFade_73 (by decide) ?_
  refine lv_iload_n hx hb dX6_setFade_75 rfl (lv_at hl 2 rfl) ?_
  refine lv_imul hx hb dX6_setFade_76 ?_
  refine tpi (y := nI (13 * i)) (pk_mul 13 i) ?_
  refine lv_bipush (v := 12) hx hb dX6_setFade_77 (by decide) ?_
  refine lv_iadd hx hb dX6_setFade_79 ?_
  refine tpi (y := nI ((13 * i) + 12)) (nI_add (13 * i) 12) ?_
  refine lv_iload_n hx hb dX6_setFade_80 rfl (lv_at hl 4 rfl) ?_
  refine ist (n := 130) (j := (13 * i) + 12) hx hb hG hP hD hS 1 rfl (by omega) (by omega) dX6_setFade_81 (fun H locs hP hD hS => ?_)
  have hP : va_P D cls [oO mo 6 [.int 0, .ref a1, .int (nI nC), .ref a2, .ref a3, .ref a4, .ref a5, .ref a6, .ref a7, .ref a8, .ref a9, .int (nI nS), .ref a10, .int (nI nM), .ref a11], aI D a10 130 (upd (upd pa ((13 * i) + 11) p1) ((13 * i) + 12) q1)] H := hP
  have hD : va_D A [oO mo 6 [.int 0, .ref a1, .int (nI nC), .ref a2, .ref a3, .ref a4, .ref a5, .ref a6, .ref a7, .ref a8, .ref a9, .int (nI nS), .ref a10, .int (nI nM), .ref a11], aI D a10 130 (upd (upd pa ((13 * i) + 11) p1) ((13 * i) + 12) q1)] := hD
  refine lv_iload hx hb dX6_setFade_82 (lv_at hl 0 rfl) ?_
  refine Wi () hx hb hr hlk ?_ hP hD hS (Nat.le_of_ble_eq_true rfl) (by first | exact Nat.le_of_ble_eq_true rfl | exact Nat.le_of_eq (Nat.zero_add _)) dX6_setFade_84
  exact rfl
set_option maxHeartbeats 400000 in
set_option maxRecDepth 100000 in
theorem m_stripTold (l : Launch) (D : va_G) {mo a1 a2 a3 a4 a5 a6 a7 a8 a9 a10 a11 nC nS nM : Nat} {th : Int32} {ln pa pt : Nat → Int32} {i c0 : Nat} {len : Int32} {w0 : Nat} (hi : i < 10) (hpa : ∀ w, w < 13 → ¬ w = 2 → pa (13 * i + w) = pt w) (hc0 : pa (13 * i) = nI c0) (hc6 : c0 < 6) (hlq : ln c0 = len) (hp : 0 < pt 5) (hw : w0 < 13) : Met l yX6_stripTold (ws_ yX6_stripTold cX6_stripTold 3 (some .int)) ({ frames := 4, cells := 0, slots := 0, locals := 85 } : Room) (va_Pc [.ref mo, .int (nI i), .int (nI w0)] (PW D [oO mo 6 [.int th, .ref a1, .int (nI nC), .ref a2, .ref a3, .ref a4, .ref a5, .ref a6, .ref a7, .ref a8, .ref a9, .int (nI nS), .ref a10, .int (nI nM), .ref a11], aI D a2 6 ln, aI D a10 130 pa])) (vp_Si (fun v => v = factS len pt w0)) 0 0 (fun _ => False) := by
  refine Met.ofW (cc := cX6_stripTold) (maxL := 3) (ret := (some .int)) (by decide) rfl ?_
  intro p e s m args below meth c s₁ B hml hv
  obtain ⟨rfl, hG, hP⟩ := hv
  have hx := B.exec
  have hb := B.bytes
  have hr := B.returns
  have hts : ∀ w ∈ wsL_law, w.before _ s = true := fun w h => atoms_spec (ws := (ws_ yX6_stripTold cX6_stripTold 3 (some .int))) B.pre w (List.mem_cons_of_mem _ h)
  have hown : s.vm.findClass RX6 = some m.cls := findClass_of_methodNamed B.named
  have hlk := B.notSynchronized
  have hC : CallFix p m c cX6_stripTold 3 s _ wsL_law RX6 := ⟨hx, hb, hml, hown, hts⟩
  have hl := lv_entry ([.ref mo, .int (nI i), .int (nI w0)]) (n := 3) (Nat.le_of_ble_eq_true rfl)
  rw [lg_entry_eq]
  generalize (lg_sl ([.ref mo, .int (nI i), .int (nI w0)]) ++ List.replicate (3 - (lg_sl ([.ref mo, .int (nI i), .int (nI w0)])).length) Slot.unset).toArray = ls at hl ⊢
  have hl : lv_has ls 3 [(0, .ref mo), (1, .int (nI i)), (2, .int (nI w0))] := hl
  refine lv_iload_n hx hb dX6_stripTold_0 rfl (lv_at hl 2 rfl) ?_
  refine lv_iconst (v := 2) hx hb dX6_stripTold_1 (by decide) ?_
  refine lv_icmp_ne (tgt := 13) hx hb dX6_stripTold_2 (by decide) (fun c2 => ?_) (fun c2 => ?_)
  · skip
    have n2 := mt (nI_eq (a := w0) (b := 2) (by omega) (by omega)).mpr c2
    refine lv_aload_n hx hb dX6_stripTold_13 rfl (lv_at hl 0 rfl) ?_
    refine lv_iload_n hx hb dX6_stripTold_14 rfl (lv_at hl 1 rfl) ?_
    refine lv_iload_n hx hb dX6_stripTold_15 rfl (lv_at hl 2 rfl) ?_
    have hP9 := hP.sub (ws' := [oO mo 6 [.int th, .ref a1, .int (nI nC), .ref a2, .ref a3, .ref a4, .ref a5, .ref a6, .ref a7, .ref a8, .ref a9, .int (nI nS), .ref a10, .int (nI nM), .ref a11], aI D a10 130 pa]) [0, 2] rfl
    refine vp_callSi (pV (rest := []) (qc := (RX6, TX6, 15)) [.int (nI i), .int (nI w0)] 2 hC (m_part l D (mo := mo) (i := i) (w := w0) (th := th) (a1 := a1) (nC := nC) (a2 := a2) (a3 := a3) (a4 := a4) (a5 := a5) (a6 := a6) (a7 := a7) (a8 := a8) (a9 := a9) (nS := nS) (a10 := a10) (nM := nM) (a11 := a11) (pa := pa) (by omega) (by omega)) rfl (hP 0 _ rfl) (gV mM_X6_120 mI_X6_part mS_X6_part mN_X6 mC_X6_part) (by decide +kernel) rfl rfl ⟨Nat.le_of_ble_eq_true rfl, Nat.le_of_ble_eq_true rfl⟩ hG hP9 rfl hl.1 rfl (Nat.le_of_ble_eq_true rfl) dX6_stripTold_16 ⟨Nat.le_of_ble_eq_true rfl, Nat.le_of_ble_eq_true rfl⟩) (fun r16 h16 => ?_)
    obtain rfl : r16 = (pa (13 * i + w0)) := h16
    refine Ri hx hb hr hlk ?_ dX6_stripTold_19
    show _ = factS len pt w0
    rw [factS, if_neg n2]
    exact hpa w0 hw n2
  · skip
    have n2 := (nI_eq (a := w0) (b := 2) (by omega) (by omega)).mp c2
    refine lv_aload_n hx hb dX6_stripTold_5 rfl (lv_at hl 0 rfl) ?_
    refine lv_iload_n hx hb dX6_stripTold_6 rfl (lv_at hl 1 rfl) ?_
    have hP9 := hP
    refine vp_callSi (pV (rest := []) (qc := (RX6, TX6, 15)) [.int (nI i)] 1 hC (m_endOf l D (pt := pt) (c0 := c0) (len := len) (mo := mo) (i := i) (th := th) (a1 := a1) (nC := nC) (a2 := a2) (a3 := a3) (a4 := a4) (a5 := a5) (a6 := a6) (a7 := a7) (a8 := a8) (a9 := a9) (nS := nS) (a10 := a10) (nM := nM) (a11 := a11) (ln := ln) (pa := pa) (by omega) (hpa) (hc0) (by omega) (hlq) (hp)) rfl (hP 0 _ rfl) (gV mM_X6_132 mI_X6_endOf mS_X6_endOf mN_X6 mC_X6_endOf) (by decide +kernel) rfl rfl ⟨Nat.le_of_ble_eq_true rfl, Nat.le_of_ble_eq_true rfl⟩ hG hP9 rfl hl.1 rfl (Nat.le_of_ble_eq_true rfl) dX6_stripTold_7 ⟨Nat.le_of_ble_eq_true rfl, Nat.le_of_ble_eq_true rfl⟩) (fun r7 h7 => ?_)
    obtain rfl : r7 = (endS len pt) := h7
    refine lv_goto (tgt := 19) hx hb dX6_stripTold_10 (by decide) ?_
    refine Ri hx hb hr hlk ?_ dX6_stripTold_19
    show _ = factS len pt w0
    rw [factS, if_pos n2]
set_option maxHeartbeats 400000 in
set_option maxRecDepth 100000 in
theorem m_strip_1 (l : Launch) (D : va_G) {mo a1 a2 a3 a4 a5 a6 a7 a8 a9 a10 a11 nC nS nM : Nat} {th : Int32} {x wh : Int32} (hz0 : Nat) (hn : nS ≤ 10) (hxx : x < 0 ∨ nI nS ≤ x) : Met l yX6_strip (ws_ yX6_strip cX6_strip 3 (some .int)) ({ frames := 5, cells := 0, slots := 0, locals := 107 } : Room) (va_Pc [.ref mo, .int x, .int wh] (SW D [oO mo 6 [.int th, .ref a1, .int (nI nC), .ref a2, .ref a3, .ref a4, .ref a5, .ref a6, .ref a7, .ref a8, .ref a9, .int (nI nS), .ref a10, .int (nI nM), .ref a11]] hz0)) (va_Qi (fun v _ => v = 0) (AT D (va_A [oO mo 6 [.int th, .ref a1, .int (nI nC), .ref a2, .ref a3, .ref a4, .ref a5, .ref a6, .ref a7, .ref a8, .ref a9, .int (nI nS), .ref a10, .int (nI nM), .ref a11]] hz0) (fun _ : Unit => [oO mo 6 [.int 1, .ref a1, .int (nI nC), .ref a2, .ref a3, .ref a4, .ref a5, .ref a6, .ref a7, .ref a8, .ref a9, .int (nI nS), .ref a10, .int (nI nM), .ref a11]])) (va_A [oO mo 6 [.int th, .ref a1, .int (nI nC), .ref a2, .ref a3, .ref a4, .ref a5, .ref a6, .ref a7, .ref a8, .ref a9, .int (nI nS), .ref a10, .int (nI nM), .ref a11]] hz0)) 0 0 (va_A [oO mo 6 [.int th, .ref a1, .int (nI nC), .ref a2, .ref a3, .ref a4, .ref a5, .ref a6, .ref a7, .ref a8, .ref a9, .int (nI nS), .ref a10, .int (nI nM), .ref a11]] hz0) := by
  refine Met.ofW (cc := cX6_strip) (maxL := 3) (ret := (some .int)) (by decide) rfl ?_
  intro p e s m args below meth c s₁ B hml hv
  obtain ⟨rfl, hsz, hG, hP, hD0⟩ := hv
  have hx := B.exec
  have hb := B.bytes
  have hr := B.returns
  have hts : ∀ w ∈ wsL_law, w.before _ s = true := fun w h => atoms_spec (ws := (ws_ yX6_strip cX6_strip 3 (some .int))) B.pre w (List.mem_cons_of_mem _ h)
  have hown : s.vm.findClass RX6 = some m.cls := findClass_of_methodNamed B.named
  have hlk := B.notSynchronized
  have hC : CallFix p m c cX6_strip 3 s _ wsL_law RX6 := ⟨hx, hb, hml, hown, hts⟩
  subst hsz
  have hD := hD0.self (sz := s.heap.size)
  generalize hAe : va_A [oO mo 6 [.int th, .ref a1, .int (nI nC), .ref a2, .ref a3, .ref a4, .ref a5, .ref a6, .ref a7, .ref a8, .ref a9, .int (nI nS), .ref a10, .int (nI nM), .ref a11]] s.heap.size = A at hD ⊢
  have hA : ∀ q : Nat, s.heap.size ≤ q → A q := fun q h => by rw [← hAe]; exact Or.inr h
  have hS : va_S A s.heap s.heap [] := va_S.rf
  obtain ⟨H, hHe⟩ : ∃ H, H = s.heap := ⟨_, rfl⟩
  rw [← hHe] at hP
  have hS : va_S A s.heap H [] := by rw [hHe]; exact hS
  have hl := lv_entry ([.ref mo, .int x, .int wh]) (n := 3) (Nat.le_of_ble_eq_true rfl)
  rw [lg_entry_eq]
  generalize (lg_sl ([.ref mo, .int x, .int wh]) ++ List.replicate (3 - (lg_sl ([.ref mo, .int x, .int wh])).length) Slot.unset).toArray = ls at hl ⊢
  have hl : lv_has ls 3 [(0, .ref mo), (1, .int x), (2, .int wh)] := hl
  rw [← hHe]
  refine lv_aload_n hx hb dX6_strip_0 rfl (lv_at hl 0 rfl) ?_
  refine lv_iconst (v := 0) hx hb dX6_strip_1 (by decide) ?_
  refine va_put (D := D) (ci := 6) (v := .int 0) (ty := .int) (C := RX6) (T := TX6) (N := 15) hx hb hts inlX6 tyX6 tyX6_ok nmX6 hown hG.K hP hD hS 0 rfl rfl 0 (by decide) (hts _ mF_X6_43) (fun _ h9 => h9) rfl (by decide +kernel) rfl rfl (Nat.le_of_ble_eq_true rfl) dX6_strip_2 (fun H locs hP hD hS => ?_)
  have hP : va_P D cls [oO mo 6 [.int 0, .ref a1, .int (nI nC), .ref a2, .ref a3, .ref a4, .ref a5, .ref a6, .ref a7, .ref a8, .ref a9, .int (nI nS), .ref a10, .int (nI nM), .ref a11]] H := hP
  have hD : va_D A [oO mo 6 [.int 0, .ref a1, .int (nI nC), .ref a2, .ref a3, .ref a4, .ref a5, .ref a6, .ref a7, .ref a8, .ref a9, .int (nI nS), .ref a10, .int (nI nM), .ref a11]] := hD
  refine lv_aload_n hx hb dX6_strip_5 rfl (lv_at hl 0 rfl) ?_
  refine lv_iload_n hx hb dX6_strip_6 rfl (lv_at hl 1 rfl) ?_
  have hP9 := hP
  refine vp_callSi (pV (rest := []) (qc := (RX6, TX6, 15)) [.int x] 1 hC (m_isStrip_no l D (mo := mo) (x := x) (th := 0) (a1 := a1) (nC := nC) (a2 := a2) (a3 := a3) (a4 := a4) (a5 := a5) (a6 := a6) (a7 := a7) (a8 := a8) (a9 := a9) (nS := nS) (a10 := a10) (nM := nM) (a11 := a11) (by omega) (hxx)) rfl (hP 0 _ rfl) (gV mM_X6_117 mI_X6_isStrip mS_X6_isStrip mN_X6 mC_X6_isStrip) (by decide +kernel) rfl rfl ⟨Nat.le_of_ble_eq_true rfl, Nat.le_of_ble_eq_true rfl⟩ hG hP9 rfl hl.1 rfl (Nat.le_of_ble_eq_true rfl) dX6_strip_7 ⟨Nat.le_of_ble_eq_true rfl, Nat.le_of_ble_eq_true rfl⟩) (fun r7 h7 => ?_)
  obtain rfl : r7 = 0 := h7
  refine lv_if_eq (tgt := 32) hx hb dX6_strip_10 (by decide) (fun _ => ?_) (fun h9 => (h9 (by decide)).elim)
  refine lv_aload_n hx hb dX6_strip_32 rfl (lv_at hl 0 rfl) ?_
  refine lv_iconst (v := 1) hx hb dX6_strip_33 (by decide) ?_
  have hP9 := hP.sub (ws' := [oO mo 6 [.int 0, .ref a1, .int (nI nC), .ref a2, .ref a3, .ref a4, .ref a5, .ref a6, .ref a7, .ref a8, .ref a9, .int (nI nS), .ref a10, .int (nI nM), .ref a11]]) [0] rfl
  have hD9 := (hD.sub (ws' := [oO mo 6 [.int 0, .ref a1, .int (nI nC), .ref a2, .ref a3, .ref a4, .ref a5, .ref a6, .ref a7, .ref a8, .ref a9, .int (nI nS), .ref a10, .int (nI nM), .ref a11]]) [0] (by decide) rfl).weaken (B := fun _ => True) (fun _ _ _ _ => trivial)
  refine ki (wr := []) (rV (rest := []) (qc := (RX6, TX6, 15)) [.int 1] 1 0 0 hC (m_no l D (mo := mo) (x := 1) (th := 0) (a1 := a1) (nC := nC) (a2 := a2) (a3 := a3) (a4 := a4) (a5 := a5) (a6 := a6) (a7 := a7) (a8 := a8) (a9 := a9) (nS := nS) (a10 := a10) (nM := nM) (a11 := a11) (hz0 := H.size) ) rfl (hP 0 _ rfl) (gV mM_X6_66 mI_X6_no mS_X6_no mN_X6 mC_X6_no) (by decide +kernel) rfl rfl ⟨Nat.le_of_ble_eq_true rfl, Nat.le_of_ble_eq_true rfl⟩ hG hP9 hD9 rfl hl.1 rfl (Nat.le_of_ble_eq_true rfl) dX6_strip_34 ⟨Nat.le_of_ble_eq_true rfl, Nat.le_of_ble_eq_true rfl⟩) hP hD hS hA [0] [] rfl rfl (by decide) (by decide) (fun r34 u34 H locs h34 hP hD hS hz hfr => ?_)
  have hP : va_P D cls [oO mo 6 [.int 1, .ref a1, .int (nI nC), .ref a2, .ref a3, .ref a4, .ref a5, .ref a6, .ref a7, .ref a8, .ref a9, .int (nI nS), .ref a10, .int (nI nM), .ref a11]] H := hP
  have hD : va_D A [oO mo 6 [.int 1, .ref a1, .int (nI nC), .ref a2, .ref a3, .ref a4, .ref a5, .ref a6, .ref a7, .ref a8, .ref a9, .int (nI nS), .ref a10, .int (nI nM), .ref a11]] := hD
  obtain rfl : r34 = 0 := h34
  refine Wi () hx hb hr hlk ?_ hP hD hS (Nat.le_of_ble_eq_true rfl) (by first | exact Nat.le_of_ble_eq_true rfl | exact Nat.le_of_eq (Nat.zero_add _)) dX6_strip_37
  exact rfl
set_option maxHeartbeats 400000 in
set_option maxRecDepth 100000 in
theorem m_strip_1b (l : Launch) (D : va_G) {mo a1 a2 a3 a4 a5 a6 a7 a8 a9 a10 a11 nC nS nM : Nat} {th : Int32} {i : Nat} {wh : Int32} (hz0 : Nat) (hn : nS ≤ 10) (hi : i < nS) (h : ¬ ((0 : Int32) ≤ wh ∧ wh ≤ 12)) : Met l yX6_strip (ws_ yX6_strip cX6_strip 3 (some .int)) ({ frames := 5, cells := 0, slots := 0, locals := 107 } : Room) (va_Pc [.ref mo, .int (nI i), .int wh] (SW D [oO mo 6 [.int th, .ref a1, .int (nI nC), .ref a2, .ref a3, .ref a4, .ref a5, .ref a6, .ref a7, .ref a8, .ref a9, .int (nI nS), .ref a10, .int (nI nM), .ref a11]] hz0)) (va_Qi (fun v _ => v = 0) (AT D (va_A [oO mo 6 [.int th, .ref a1, .int (nI nC), .ref a2, .ref a3, .ref a4, .ref a5, .ref a6, .ref a7, .ref a8, .ref a9, .int (nI nS), .ref a10, .int (nI nM), .ref a11]] hz0) (fun _ : Unit => [oO mo 6 [.int 1, .ref a1, .int (nI nC), .ref a2, .ref a3, .ref a4, .ref a5, .ref a6, .ref a7, .ref a8, .ref a9, .int (nI nS), .ref a10, .int (nI nM), .ref a11]])) (va_A [oO mo 6 [.int th, .ref a1, .int (nI nC), .ref a2, .ref a3, .ref a4, .ref a5, .ref a6, .ref a7, .ref a8, .ref a9, .int (nI nS), .ref a10, .int (nI nM), .ref a11]] hz0)) 0 0 (va_A [oO mo 6 [.int th, .ref a1, .int (nI nC), .ref a2, .ref a3, .ref a4, .ref a5, .ref a6, .ref a7, .ref a8, .ref a9, .int (nI nS), .ref a10, .int (nI nM), .ref a11]] hz0) := by
  refine Met.ofW (cc := cX6_strip) (maxL := 3) (ret := (some .int)) (by decide) rfl ?_
  intro p e s m args below meth c s₁ B hml hv
  obtain ⟨rfl, hsz, hG, hP, hD0⟩ := hv
  have hx := B.exec
  have hb := B.bytes
  have hr := B.returns
  have hts : ∀ w ∈ wsL_law, w.before _ s = true := fun w h => atoms_spec (ws := (ws_ yX6_strip cX6_strip 3 (some .int))) B.pre w (List.mem_cons_of_mem _ h)
  have hown : s.vm.findClass RX6 = some m.cls := findClass_of_methodNamed B.named
  have hlk := B.notSynchronized
  have hC : CallFix p m c cX6_strip 3 s _ wsL_law RX6 := ⟨hx, hb, hml, hown, hts⟩
  subst hsz
  have hD := hD0.self (sz := s.heap.size)
  generalize hAe : va_A [oO mo 6 [.int th, .ref a1, .int (nI nC), .ref a2, .ref a3, .ref a4, .ref a5, .ref a6, .ref a7, .ref a8, .ref a9, .int (nI nS), .ref a10, .int (nI nM), .ref a11]] s.heap.size = A at hD ⊢
  have hA : ∀ q : Nat, s.heap.size ≤ q → A q := fun q h => by rw [← hAe]; exact Or.inr h
  have hS : va_S A s.heap s.heap [] := va_S.rf
  obtain ⟨H, hHe⟩ : ∃ H, H = s.heap := ⟨_, rfl⟩
  rw [← hHe] at hP
  have hS : va_S A s.heap H [] := by rw [hHe]; exact hS
  have hl := lv_entry ([.ref mo, .int (nI i), .int wh]) (n := 3) (Nat.le_of_ble_eq_true rfl)
  rw [lg_entry_eq]
  generalize (lg_sl ([.ref mo, .int (nI i), .int wh]) ++ List.replicate (3 - (lg_sl ([.ref mo, .int (nI i), .int wh])).length) Slot.unset).toArray = ls at hl ⊢
  have hl : lv_has ls 3 [(0, .ref mo), (1, .int (nI i)), (2, .int wh)] := hl
  rw [← hHe]
  refine lv_aload_n hx hb dX6_strip_0 rfl (lv_at hl 0 rfl) ?_
  refine lv_iconst (v := 0) hx hb dX6_strip_1 (by decide) ?_
  refine va_put (D := D) (ci := 6) (v := .int 0) (ty := .int) (C := RX6) (T := TX6) (N := 15) hx hb hts inlX6 tyX6 tyX6_ok nmX6 hown hG.K hP hD hS 0 rfl rfl 0 (by decide) (hts _ mF_X6_43) (fun _ h9 => h9) rfl (by decide +kernel) rfl rfl (Nat.le_of_ble_eq_true rfl) dX6_strip_2 (fun H locs hP hD hS => ?_)
  have hP : va_P D cls [oO mo 6 [.int 0, .ref a1, .int (nI nC), .ref a2, .ref a3, .ref a4, .ref a5, .ref a6, .ref a7, .ref a8, .ref a9, .int (nI nS), .ref a10, .int (nI nM), .ref a11]] H := hP
  have hD : va_D A [oO mo 6 [.int 0, .ref a1, .int (nI nC), .ref a2, .ref a3, .ref a4, .ref a5, .ref a6, .ref a7, .ref a8, .ref a9, .int (nI nS), .ref a10, .int (nI nM), .ref a11]] := hD
  refine lv_aload_n hx hb dX6_strip_5 rfl (lv_at hl 0 rfl) ?_
  refine lv_iload_n hx hb dX6_strip_6 rfl (lv_at hl 1 rfl) ?_
  have hP9 := hP
  refine vp_callSi (pV (rest := []) (qc := (RX6, TX6, 15)) [.int (nI i)] 1 hC (m_isStrip l D (mo := mo) (i := i) (th := 0) (a1 := a1) (nC := nC) (a2 := a2) (a3 := a3) (a4 := a4) (a5 := a5) (a6 := a6) (a7 := a7) (a8 := a8) (a9 := a9) (nS := nS) (a10 := a10) (nM := nM) (a11 := a11) (by omega) (by omega)) rfl (hP 0 _ rfl) (gV mM_X6_117 mI_X6_isStrip mS_X6_isStrip mN_X6 mC_X6_isStrip) (by decide +kernel) rfl rfl ⟨Nat.le_of_ble_eq_true rfl, Nat.le_of_ble_eq_true rfl⟩ hG hP9 rfl hl.1 rfl (Nat.le_of_ble_eq_true rfl) dX6_strip_7 ⟨Nat.le_of_ble_eq_true rfl, Nat.le_of_ble_eq_true rfl⟩) (fun r7 h7 => ?_)
  obtain rfl : r7 = 1 := h7
  refine lv_if_eq (tgt := 32) hx hb dX6_strip_10 (by decide) (fun h9 => absurd h9 (by decide)) (fun _ => ?_)
  refine lv_iload_n hx hb dX6_strip_13 rfl (lv_at hl 2 rfl) ?_
  refine lv_iconst (v := 0) hx hb dX6_strip_14 (by decide) ?_
  refine lv_bipush (v := 12) hx hb dX6_strip_15 (by decide) ?_
  have hP9 : va_P D cls [] H := fun k q h => by simp at h
  refine vp_callSi (pS (rest := []) [.int wh, .int 0, .int 12] 3 hC (m_isIn l D (x := wh) (a := 0) (b := 12) ) (gS mM_X6_50 mT_X6_isIn mN_X6 mC_X6_isIn) (by decide +kernel) rfl rfl ⟨Nat.le_of_ble_eq_true rfl, Nat.le_of_ble_eq_true rfl⟩ hG hP9 rfl hl.1 rfl (Nat.le_of_ble_eq_true rfl) dX6_strip_17 ⟨Nat.le_of_ble_eq_true rfl, Nat.le_of_ble_eq_true rfl⟩) (fun r17 h17 => ?_)
  rcases h17 with ⟨rfl, hb17⟩ | ⟨rfl, hb17⟩
  · exact absurd hb17 (h)
  refine lv_if_eq (tgt := 32) hx hb dX6_strip_20 (by decide) (fun _ => ?_) (fun h9 => (h9 (by decide)).elim)
  refine lv_aload_n hx hb dX6_strip_32 rfl (lv_at hl 0 rfl) ?_
  refine lv_iconst (v := 1) hx hb dX6_strip_33 (by decide) ?_
  have hP9 := hP.sub (ws' := [oO mo 6 [.int 0, .ref a1, .int (nI nC), .ref a2, .ref a3, .ref a4, .ref a5, .ref a6, .ref a7, .ref a8, .ref a9, .int (nI nS), .ref a10, .int (nI nM), .ref a11]]) [0] rfl
  have hD9 := (hD.sub (ws' := [oO mo 6 [.int 0, .ref a1, .int (nI nC), .ref a2, .ref a3, .ref a4, .ref a5, .ref a6, .ref a7, .ref a8, .ref a9, .int (nI nS), .ref a10, .int (nI nM), .ref a11]]) [0] (by decide) rfl).weaken (B := fun _ => True) (fun _ _ _ _ => trivial)
  refine ki (wr := []) (rV (rest := []) (qc := (RX6, TX6, 15)) [.int 1] 1 0 0 hC (m_no l D (mo := mo) (x := 1) (th := 0) (a1 := a1) (nC := nC) (a2 := a2) (a3 := a3) (a4 := a4) (a5 := a5) (a6 := a6) (a7 := a7) (a8 := a8) (a9 := a9) (nS := nS) (a10 := a10) (nM := nM) (a11 := a11) (hz0 := H.size) ) rfl (hP 0 _ rfl) (gV mM_X6_66 mI_X6_no mS_X6_no mN_X6 mC_X6_no) (by decide +kernel) rfl rfl ⟨Nat.le_of_ble_eq_true rfl, Nat.le_of_ble_eq_true rfl⟩ hG hP9 hD9 rfl hl.1 rfl (Nat.le_of_ble_eq_true rfl) dX6_strip_34 ⟨Nat.le_of_ble_eq_true rfl, Nat.le_of_ble_eq_true rfl⟩) hP hD hS hA [0] [] rfl rfl (by decide) (by decide) (fun r34 u34 H locs h34 hP hD hS hz hfr => ?_)
  have hP : va_P D cls [oO mo 6 [.int 1, .ref a1, .int (nI nC), .ref a2, .ref a3, .ref a4, .ref a5, .ref a6, .ref a7, .ref a8, .ref a9, .int (nI nS), .ref a10, .int (nI nM), .ref a11]] H := hP
  have hD : va_D A [oO mo 6 [.int 1, .ref a1, .int (nI nC), .ref a2, .ref a3, .ref a4, .ref a5, .ref a6, .ref a7, .ref a8, .ref a9, .int (nI nS), .ref a10, .int (nI nM), .ref a11]] := hD
  obtain rfl : r34 = 0 := h34
  refine Wi () hx hb hr hlk ?_ hP hD hS (Nat.le_of_ble_eq_true rfl) (by first | exact Nat.le_of_ble_eq_true rfl | exact Nat.le_of_eq (Nat.zero_add _)) dX6_strip_37
  exact rfl
set_option maxHeartbeats 400000 in
set_option maxRecDepth 100000 in
theorem m_strip (l : Launch) (D : va_G) {mo a1 a2 a3 a4 a5 a6 a7 a8 a9 a10 a11 nC nS nM : Nat} {th : Int32} {ln pa pt : Nat → Int32} {i c0 w0 : Nat} {len : Int32} (hz0 : Nat) (hn : nS ≤ 10) (hi : i < nS) (hpa : ∀ w, w < 13 → ¬ w = 2 → pa (13 * i + w) = pt w) (hc0 : pa (13 * i) = nI c0) (hc6 : c0 < 6) (hlq : ln c0 = len) (hp : 0 < pt 5) (hw : w0 < 13) : Met l yX6_strip (ws_ yX6_strip cX6_strip 3 (some .int)) ({ frames := 5, cells := 0, slots := 0, locals := 107 } : Room) (va_Pc [.ref mo, .int (nI i), .int (nI w0)] (SW D [oO mo 6 [.int th, .ref a1, .int (nI nC), .ref a2, .ref a3, .ref a4, .ref a5, .ref a6, .ref a7, .ref a8, .ref a9, .int (nI nS), .ref a10, .int (nI nM), .ref a11], aI D a2 6 ln, aI D a10 130 pa] hz0)) (va_Qi (fun v _ => v = factS len pt w0) (AT D (va_A [oO mo 6 [.int th, .ref a1, .int (nI nC), .ref a2, .ref a3, .ref a4, .ref a5, .ref a6, .ref a7, .ref a8, .ref a9, .int (nI nS), .ref a10, .int (nI nM), .ref a11], aI D a2 6 ln, aI D a10 130 pa] hz0) (fun _ : Unit => [oO mo 6 [.int 0, .ref a1, .int (nI nC), .ref a2, .ref a3, .ref a4, .ref a5, .ref a6, .ref a7, .ref a8, .ref a9, .int (nI nS), .ref a10, .int (nI nM), .ref a11], aI D a2 6 ln, aI D a10 130 pa])) (va_A [oO mo 6 [.int th, .ref a1, .int (nI nC), .ref a2, .ref a3, .ref a4, .ref a5, .ref a6, .ref a7, .ref a8, .ref a9, .int (nI nS), .ref a10, .int (nI nM), .ref a11], aI D a2 6 ln, aI D a10 130 pa] hz0)) 0 0 (va_A [oO mo 6 [.int th, .ref a1, .int (nI nC), .ref a2, .ref a3, .ref a4, .ref a5, .ref a6, .ref a7, .ref a8, .ref a9, .int (nI nS), .ref a10, .int (nI nM), .ref a11], aI D a2 6 ln, aI D a10 130 pa] hz0) := by
  refine Met.ofW (cc := cX6_strip) (maxL := 3) (ret := (some .int)) (by decide) rfl ?_
  intro p e s m args below meth c s₁ B hml hv
  obtain ⟨rfl, hsz, hG, hP, hD0⟩ := hv
  have hx := B.exec
  have hb := B.bytes
  have hr := B.returns
  have hts : ∀ w ∈ wsL_law, w.before _ s = true := fun w h => atoms_spec (ws := (ws_ yX6_strip cX6_strip 3 (some .int))) B.pre w (List.mem_cons_of_mem _ h)
  have hown : s.vm.findClass RX6 = some m.cls := findClass_of_methodNamed B.named
  have hlk := B.notSynchronized
  have hC : CallFix p m c cX6_strip 3 s _ wsL_law RX6 := ⟨hx, hb, hml, hown, hts⟩
  subst hsz
  have hD := hD0.self (sz := s.heap.size)
  generalize hAe : va_A [oO mo 6 [.int th, .ref a1, .int (nI nC), .ref a2, .ref a3, .ref a4, .ref a5, .ref a6, .ref a7, .ref a8, .ref a9, .int (nI nS), .ref a10, .int (nI nM), .ref a11], aI D a2 6 ln, aI D a10 130 pa] s.heap.size = A at hD ⊢
  have hA : ∀ q : Nat, s.heap.size ≤ q → A q := fun q h => by rw [← hAe]; exact Or.inr h
  have hS : va_S A s.heap s.heap [] := va_S.rf
  obtain ⟨H, hHe⟩ : ∃ H, H = s.heap := ⟨_, rfl⟩
  rw [← hHe] at hP
  have hS : va_S A s.heap H [] := by rw [hHe]; exact hS
  have hl := lv_entry ([.ref mo, .int (nI i), .int (nI w0)]) (n := 3) (Nat.le_of_ble_eq_true rfl)
  rw [lg_entry_eq]
  generalize (lg_sl ([.ref mo, .int (nI i), .int (nI w0)]) ++ List.replicate (3 - (lg_sl ([.ref mo, .int (nI i), .int (nI w0)])).length) Slot.unset).toArray = ls at hl ⊢
  have hl : lv_has ls 3 [(0, .ref mo), (1, .int (nI i)), (2, .int (nI w0))] := hl
  rw [← hHe]
  refine lv_aload_n hx hb dX6_strip_0 rfl (lv_at hl 0 rfl) ?_
  refine lv_iconst (v := 0) hx hb dX6_strip_1 (by decide) ?_
  refine va_put (D := D) (ci := 6) (v := .int 0) (ty := .int) (C := RX6) (T := TX6) (N := 15) hx hb hts inlX6 tyX6 tyX6_ok nmX6 hown hG.K hP hD hS 0 rfl rfl 0 (by decide) (hts _ mF_X6_43) (fun _ h9 => h9) rfl (by decide +kernel) rfl rfl (Nat.le_of_ble_eq_true rfl) dX6_strip_2 (fun H locs hP hD hS => ?_)
  have hP : va_P D cls [oO mo 6 [.int 0, .ref a1, .int (nI nC), .ref a2, .ref a3, .ref a4, .ref a5, .ref a6, .ref a7, .ref a8, .ref a9, .int (nI nS), .ref a10, .int (nI nM), .ref a11], aI D a2 6 ln, aI D a10 130 pa] H := hP
  have hD : va_D A [oO mo 6 [.int 0, .ref a1, .int (nI nC), .ref a2, .ref a3, .ref a4, .ref a5, .ref a6, .ref a7, .ref a8, .ref a9, .int (nI nS), .ref a10, .int (nI nM), .ref a11], aI D a2 6 ln, aI D a10 130 pa] := hD
  refine lv_aload_n hx hb dX6_strip_5 rfl (lv_at hl 0 rfl) ?_
  refine lv_iload_n hx hb dX6_strip_6 rfl (lv_at hl 1 rfl) ?_
  have hP9 := hP.sub (ws' := [oO mo 6 [.int 0, .ref a1, .int (nI nC), .ref a2, .ref a3, .ref a4, .ref a5, .ref a6, .ref a7, .ref a8, .ref a9, .int (nI nS), .ref a10, .int (nI nM), .ref a11]]) [0] rfl
  refine vp_callSi (pV (rest := []) (qc := (RX6, TX6, 15)) [.int (nI i)] 1 hC (m_isStrip l D (mo := mo) (i := i) (th := 0) (a1 := a1) (nC := nC) (a2 := a2) (a3 := a3) (a4 := a4) (a5 := a5) (a6 := a6) (a7 := a7) (a8 := a8) (a9 := a9) (nS := nS) (a10 := a10) (nM := nM) (a11 := a11) (by omega) (by omega)) rfl (hP 0 _ rfl) (gV mM_X6_117 mI_X6_isStrip mS_X6_isStrip mN_X6 mC_X6_isStrip) (by decide +kernel) rfl rfl ⟨Nat.le_of_ble_eq_true rfl, Nat.le_of_ble_eq_true rfl⟩ hG hP9 rfl hl.1 rfl (Nat.le_of_ble_eq_true rfl) dX6_strip_7 ⟨Nat.le_of_ble_eq_true rfl, Nat.le_of_ble_eq_true rfl⟩) (fun r7 h7 => ?_)
  obtain rfl : r7 = 1 := h7
  refine lv_if_eq (tgt := 32) hx hb dX6_strip_10 (by decide) (fun h9 => absurd h9 (by decide)) (fun _ => ?_)
  refine lv_iload_n hx hb dX6_strip_13 rfl (lv_at hl 2 rfl) ?_
  refine lv_iconst (v := 0) hx hb dX6_strip_14 (by decide) ?_
  refine lv_bipush (v := 12) hx hb dX6_strip_15 (by decide) ?_
  have hP9 : va_P D cls [] H := fun k q h => by simp at h
  refine vp_callSi (pS (rest := []) [.int (nI w0), .int 0, .int 12] 3 hC (m_isIn l D (x := nI w0) (a := 0) (b := 12) ) (gS mM_X6_50 mT_X6_isIn mN_X6 mC_X6_isIn) (by decide +kernel) rfl rfl ⟨Nat.le_of_ble_eq_true rfl, Nat.le_of_ble_eq_true rfl⟩ hG hP9 rfl hl.1 rfl (Nat.le_of_ble_eq_true rfl) dX6_strip_17 ⟨Nat.le_of_ble_eq_true rfl, Nat.le_of_ble_eq_true rfl⟩) (fun r17 h17 => ?_)
  rcases h17 with ⟨rfl, hb17⟩ | ⟨rfl, hb17⟩
  rotate_left
  · exact absurd (⟨nI_pos' (by omega), (nI_leI (a := w0) (b := 12) (by omega) (by omega)).mpr (by omega)⟩) hb17
  refine lv_if_eq (tgt := 32) hx hb dX6_strip_20 (by decide) (fun h9 => absurd h9 (by decide)) (fun _ => ?_)
  refine lv_aload_n hx hb dX6_strip_23 rfl (lv_at hl 0 rfl) ?_
  refine lv_iload_n hx hb dX6_strip_24 rfl (lv_at hl 1 rfl) ?_
  refine lv_iload_n hx hb dX6_strip_25 rfl (lv_at hl 2 rfl) ?_
  have hP9 := hP
  refine vp_callSi (pV (rest := []) (qc := (RX6, TX6, 15)) [.int (nI i), .int (nI w0)] 2 hC (m_stripTold l D (pt := pt) (c0 := c0) (len := len) (mo := mo) (i := i) (w0 := w0) (th := 0) (a1 := a1) (nC := nC) (a2 := a2) (a3 := a3) (a4 := a4) (a5 := a5) (a6 := a6) (a7 := a7) (a8 := a8) (a9 := a9) (nS := nS) (a10 := a10) (nM := nM) (a11 := a11) (ln := ln) (pa := pa) (by omega) (hpa) (hc0) (by omega) (hlq) (hp) (by omega)) rfl (hP 0 _ rfl) (gV mM_X6_135 mI_X6_stripTold mS_X6_stripTold mN_X6 mC_X6_stripTold) (by decide +kernel) rfl rfl ⟨Nat.le_of_ble_eq_true rfl, Nat.le_of_ble_eq_true rfl⟩ hG hP9 rfl hl.1 rfl (Nat.le_of_ble_eq_true rfl) dX6_strip_26 ⟨Nat.le_of_ble_eq_true rfl, Nat.le_of_ble_eq_true rfl⟩) (fun r26 h26 => ?_)
  obtain rfl : r26 = (factS len pt w0) := h26
  refine lv_goto (tgt := 37) hx hb dX6_strip_29 (by decide) ?_
  refine Wi () hx hb hr hlk ?_ hP hD hS (Nat.le_of_ble_eq_true rfl) (by first | exact Nat.le_of_ble_eq_true rfl | exact Nat.le_of_eq (Nat.zero_add _)) dX6_strip_37
  exact rfl
set_option maxHeartbeats 400000 in
set_option maxRecDepth 100000 in
theorem m_stripAt_1 (l : Launch) (D : va_G) {mo a1 a2 a3 a4 a5 a6 a7 a8 a9 a10 a11 nC nS nM : Nat} {th : Int32} {x y lc0 : Int32} (hz0 : Nat) (hn : nS ≤ 10) (hxx : x < 0 ∨ nI nS ≤ x) : Met l yX6_stripAt (ws_ yX6_stripAt cX6_stripAt 4 (some .int)) ({ frames := 5, cells := 0, slots := 0, locals := 111 } : Room) (va_Pc [.ref mo, .int x, .int y, .int lc0] (SW D [oO mo 6 [.int th, .ref a1, .int (nI nC), .ref a2, .ref a3, .ref a4, .ref a5, .ref a6, .ref a7, .ref a8, .ref a9, .int (nI nS), .ref a10, .int (nI nM), .ref a11]] hz0)) (va_Qi (fun v _ => v = 0) (AT D (va_A [oO mo 6 [.int th, .ref a1, .int (nI nC), .ref a2, .ref a3, .ref a4, .ref a5, .ref a6, .ref a7, .ref a8, .ref a9, .int (nI nS), .ref a10, .int (nI nM), .ref a11]] hz0) (fun _ : Unit => [oO mo 6 [.int 1, .ref a1, .int (nI nC), .ref a2, .ref a3, .ref a4, .ref a5, .ref a6, .ref a7, .ref a8, .ref a9, .int (nI nS), .ref a10, .int (nI nM), .ref a11]])) (va_A [oO mo 6 [.int th, .ref a1, .int (nI nC), .ref a2, .ref a3, .ref a4, .ref a5, .ref a6, .ref a7, .ref a8, .ref a9, .int (nI nS), .ref a10, .int (nI nM), .ref a11]] hz0)) 0 0 (va_A [oO mo 6 [.int th, .ref a1, .int (nI nC), .ref a2, .ref a3, .ref a4, .ref a5, .ref a6, .ref a7, .ref a8, .ref a9, .int (nI nS), .ref a10, .int (nI nM), .ref a11]] hz0) := by
  refine Met.ofW (cc := cX6_stripAt) (maxL := 4) (ret := (some .int)) (by decide) rfl ?_
  intro p e s m args below meth c s₁ B hml hv
  obtain ⟨rfl, hsz, hG, hP, hD0⟩ := hv
  have hx := B.exec
  have hb := B.bytes
  have hr := B.returns
  have hts : ∀ w ∈ wsL_law, w.before _ s = true := fun w h => atoms_spec (ws := (ws_ yX6_stripAt cX6_stripAt 4 (some .int))) B.pre w (List.mem_cons_of_mem _ h)
  have hown : s.vm.findClass RX6 = some m.cls := findClass_of_methodNamed B.named
  have hlk := B.notSynchronized
  have hC : CallFix p m c cX6_stripAt 4 s _ wsL_law RX6 := ⟨hx, hb, hml, hown, hts⟩
  subst hsz
  have hD := hD0.self (sz := s.heap.size)
  generalize hAe : va_A [oO mo 6 [.int th, .ref a1, .int (nI nC), .ref a2, .ref a3, .ref a4, .ref a5, .ref a6, .ref a7, .ref a8, .ref a9, .int (nI nS), .ref a10, .int (nI nM), .ref a11]] s.heap.size = A at hD ⊢
  have hA : ∀ q : Nat, s.heap.size ≤ q → A q := fun q h => by rw [← hAe]; exact Or.inr h
  have hS : va_S A s.heap s.heap [] := va_S.rf
  obtain ⟨H, hHe⟩ : ∃ H, H = s.heap := ⟨_, rfl⟩
  rw [← hHe] at hP
  have hS : va_S A s.heap H [] := by rw [hHe]; exact hS
  have hl := lv_entry ([.ref mo, .int x, .int y, .int lc0]) (n := 4) (Nat.le_of_ble_eq_true rfl)
  rw [lg_entry_eq]
  generalize (lg_sl ([.ref mo, .int x, .int y, .int lc0]) ++ List.replicate (4 - (lg_sl ([.ref mo, .int x, .int y, .int lc0])).length) Slot.unset).toArray = ls at hl ⊢
  have hl : lv_has ls 4 [(0, .ref mo), (1, .int x), (2, .int y), (3, .int lc0)] := hl
  rw [← hHe]
  refine lv_aload_n hx hb dX6_stripAt_0 rfl (lv_at hl 0 rfl) ?_
  refine lv_iconst (v := 0) hx hb dX6_stripAt_1 (by decide) ?_
  refine va_put (D := D) (ci := 6) (v := .int 0) (ty := .int) (C := RX6) (T := TX6) (N := 15) hx hb hts inlX6 tyX6 tyX6_ok nmX6 hown hG.K hP hD hS 0 rfl rfl 0 (by decide) (hts _ mF_X6_43) (fun _ h9 => h9) rfl (by decide +kernel) rfl rfl (Nat.le_of_ble_eq_true rfl) dX6_stripAt_2 (fun H locs hP hD hS => ?_)
  have hP : va_P D cls [oO mo 6 [.int 0, .ref a1, .int (nI nC), .ref a2, .ref a3, .ref a4, .ref a5, .ref a6, .ref a7, .ref a8, .ref a9, .int (nI nS), .ref a10, .int (nI nM), .ref a11]] H := hP
  have hD : va_D A [oO mo 6 [.int 0, .ref a1, .int (nI nC), .ref a2, .ref a3, .ref a4, .ref a5, .ref a6, .ref a7, .ref a8, .ref a9, .int (nI nS), .ref a10, .int (nI nM), .ref a11]] := hD
  refine lv_aload_n hx hb dX6_stripAt_5 rfl (lv_at hl 0 rfl) ?_
  refine lv_iload_n hx hb dX6_stripAt_6 rfl (lv_at hl 1 rfl) ?_
  have hP9 := hP
  refine vp_callSi (pV (rest := []) (qc := (RX6, TX6, 15)) [.int x] 1 hC (m_isStrip_no l D (mo := mo) (x := x) (th := 0) (a1 := a1) (nC := nC) (a2 := a2) (a3 := a3) (a4 := a4) (a5 := a5) (a6 := a6) (a7 := a7) (a8 := a8) (a9 := a9) (nS := nS) (a10 := a10) (nM := nM) (a11 := a11) (by omega) (hxx)) rfl (hP 0 _ rfl) (gV mM_X6_117 mI_X6_isStrip mS_X6_isStrip mN_X6 mC_X6_isStrip) (by decide +kernel) rfl rfl ⟨Nat.le_of_ble_eq_true rfl, Nat.le_of_ble_eq_true rfl⟩ hG hP9 rfl hl.1 rfl (Nat.le_of_ble_eq_true rfl) dX6_stripAt_7 ⟨Nat.le_of_ble_eq_true rfl, Nat.le_of_ble_eq_true rfl⟩) (fun r7 h7 => ?_)
  obtain rfl : r7 = 0 := h7
  refine lv_if_ne (tgt := 19) hx hb dX6_stripAt_10 (by decide) (fun h9 => (h9 (by decide)).elim) (fun _ => ?_)
  refine lv_aload_n hx hb dX6_stripAt_13 rfl (lv_at hl 0 rfl) ?_
  refine lv_iconst (v := 1) hx hb dX6_stripAt_14 (by decide) ?_
  have hP9 := hP.sub (ws' := [oO mo 6 [.int 0, .ref a1, .int (nI nC), .ref a2, .ref a3, .ref a4, .ref a5, .ref a6, .ref a7, .ref a8, .ref a9, .int (nI nS), .ref a10, .int (nI nM), .ref a11]]) [0] rfl
  have hD9 := (hD.sub (ws' := [oO mo 6 [.int 0, .ref a1, .int (nI nC), .ref a2, .ref a3, .ref a4, .ref a5, .ref a6, .ref a7, .ref a8, .ref a9, .int (nI nS), .ref a10, .int (nI nM), .ref a11]]) [0] (by decide) rfl).weaken (B := fun _ => True) (fun _ _ _ _ => trivial)
  refine ki (wr := []) (rV (rest := []) (qc := (RX6, TX6, 15)) [.int 1] 1 0 0 hC (m_no l D (mo := mo) (x := 1) (th := 0) (a1 := a1) (nC := nC) (a2 := a2) (a3 := a3) (a4 := a4) (a5 := a5) (a6 := a6) (a7 := a7) (a8 := a8) (a9 := a9) (nS := nS) (a10 := a10) (nM := nM) (a11 := a11) (hz0 := H.size) ) rfl (hP 0 _ rfl) (gV mM_X6_66 mI_X6_no mS_X6_no mN_X6 mC_X6_no) (by decide +kernel) rfl rfl ⟨Nat.le_of_ble_eq_true rfl, Nat.le_of_ble_eq_true rfl⟩ hG hP9 hD9 rfl hl.1 rfl (Nat.le_of_ble_eq_true rfl) dX6_stripAt_15 ⟨Nat.le_of_ble_eq_true rfl, Nat.le_of_ble_eq_true rfl⟩) hP hD hS hA [0] [] rfl rfl (by decide) (by decide) (fun r15 u15 H locs h15 hP hD hS hz hfr => ?_)
  have hP : va_P D cls [oO mo 6 [.int 1, .ref a1, .int (nI nC), .ref a2, .ref a3, .ref a4, .ref a5, .ref a6, .ref a7, .ref a8, .ref a9, .int (nI nS), .ref a10, .int (nI nM), .ref a11]] H := hP
  have hD : va_D A [oO mo 6 [.int 1, .ref a1, .int (nI nC), .ref a2, .ref a3, .ref a4, .ref a5, .ref a6, .ref a7, .ref a8, .ref a9, .int (nI nS), .ref a10, .int (nI nM), .ref a11]] := hD
  obtain rfl : r15 = 0 := h15
  refine Wi () hx hb hr hlk ?_ hP hD hS (Nat.le_of_ble_eq_true rfl) (by first | exact Nat.le_of_ble_eq_true rfl | exact Nat.le_of_eq (Nat.zero_add _)) dX6_stripAt_18
  exact rfl
set_option maxHeartbeats 400000 in
set_option maxRecDepth 100000 in
theorem m_stripAt_2 (l : Launch) (D : va_G) {mo a1 a2 a3 a4 a5 a6 a7 a8 a9 a10 a11 nC nS nM : Nat} {th : Int32} {i : Nat} {y lc0 : Int32} (hz0 : Nat) (hn : nS ≤ 10) (hi : i < nS) (h : ¬ ((0 : Int32) ≤ y ∧ y ≤ 100000)) : Met l yX6_stripAt (ws_ yX6_stripAt cX6_stripAt 4 (some .int)) ({ frames := 5, cells := 0, slots := 0, locals := 111 } : Room) (va_Pc [.ref mo, .int (nI i), .int y, .int lc0] (SW D [oO mo 6 [.int th, .ref a1, .int (nI nC), .ref a2, .ref a3, .ref a4, .ref a5, .ref a6, .ref a7, .ref a8, .ref a9, .int (nI nS), .ref a10, .int (nI nM), .ref a11]] hz0)) (va_Qi (fun v _ => v = 0) (AT D (va_A [oO mo 6 [.int th, .ref a1, .int (nI nC), .ref a2, .ref a3, .ref a4, .ref a5, .ref a6, .ref a7, .ref a8, .ref a9, .int (nI nS), .ref a10, .int (nI nM), .ref a11]] hz0) (fun _ : Unit => [oO mo 6 [.int 2, .ref a1, .int (nI nC), .ref a2, .ref a3, .ref a4, .ref a5, .ref a6, .ref a7, .ref a8, .ref a9, .int (nI nS), .ref a10, .int (nI nM), .ref a11]])) (va_A [oO mo 6 [.int th, .ref a1, .int (nI nC), .ref a2, .ref a3, .ref a4, .ref a5, .ref a6, .ref a7, .ref a8, .ref a9, .int (nI nS), .ref a10, .int (nI nM), .ref a11]] hz0)) 0 0 (va_A [oO mo 6 [.int th, .ref a1, .int (nI nC), .ref a2, .ref a3, .ref a4, .ref a5, .ref a6, .ref a7, .ref a8, .ref a9, .int (nI nS), .ref a10, .int (nI nM), .ref a11]] hz0) := by
  refine Met.ofW (cc := cX6_stripAt) (maxL := 4) (ret := (some .int)) (by decide) rfl ?_
  intro p e s m args below meth c s₁ B hml hv
  obtain ⟨rfl, hsz, hG, hP, hD0⟩ := hv
  have hx := B.exec
  have hb := B.bytes
  have hr := B.returns
  have hts : ∀ w ∈ wsL_law, w.before _ s = true := fun w h => atoms_spec (ws := (ws_ yX6_stripAt cX6_stripAt 4 (some .int))) B.pre w (List.mem_cons_of_mem _ h)
  have hown : s.vm.findClass RX6 = some m.cls := findClass_of_methodNamed B.named
  have hlk := B.notSynchronized
  have hC : CallFix p m c cX6_stripAt 4 s _ wsL_law RX6 := ⟨hx, hb, hml, hown, hts⟩
  subst hsz
  have hD := hD0.self (sz := s.heap.size)
  generalize hAe : va_A [oO mo 6 [.int th, .ref a1, .int (nI nC), .ref a2, .ref a3, .ref a4, .ref a5, .ref a6, .ref a7, .ref a8, .ref a9, .int (nI nS), .ref a10, .int (nI nM), .ref a11]] s.heap.size = A at hD ⊢
  have hA : ∀ q : Nat, s.heap.size ≤ q → A q := fun q h => by rw [← hAe]; exact Or.inr h
  have hS : va_S A s.heap s.heap [] := va_S.rf
  obtain ⟨H, hHe⟩ : ∃ H, H = s.heap := ⟨_, rfl⟩
  rw [← hHe] at hP
  have hS : va_S A s.heap H [] := by rw [hHe]; exact hS
  have hl := lv_entry ([.ref mo, .int (nI i), .int y, .int lc0]) (n := 4) (Nat.le_of_ble_eq_true rfl)
  rw [lg_entry_eq]
  generalize (lg_sl ([.ref mo, .int (nI i), .int y, .int lc0]) ++ List.replicate (4 - (lg_sl ([.ref mo, .int (nI i), .int y, .int lc0])).length) Slot.unset).toArray = ls at hl ⊢
  have hl : lv_has ls 4 [(0, .ref mo), (1, .int (nI i)), (2, .int y), (3, .int lc0)] := hl
  rw [← hHe]
  refine lv_aload_n hx hb dX6_stripAt_0 rfl (lv_at hl 0 rfl) ?_
  refine lv_iconst (v := 0) hx hb dX6_stripAt_1 (by decide) ?_
  refine va_put (D := D) (ci := 6) (v := .int 0) (ty := .int) (C := RX6) (T := TX6) (N := 15) hx hb hts inlX6 tyX6 tyX6_ok nmX6 hown hG.K hP hD hS 0 rfl rfl 0 (by decide) (hts _ mF_X6_43) (fun _ h9 => h9) rfl (by decide +kernel) rfl rfl (Nat.le_of_ble_eq_true rfl) dX6_stripAt_2 (fun H locs hP hD hS => ?_)
  have hP : va_P D cls [oO mo 6 [.int 0, .ref a1, .int (nI nC), .ref a2, .ref a3, .ref a4, .ref a5, .ref a6, .ref a7, .ref a8, .ref a9, .int (nI nS), .ref a10, .int (nI nM), .ref a11]] H := hP
  have hD : va_D A [oO mo 6 [.int 0, .ref a1, .int (nI nC), .ref a2, .ref a3, .ref a4, .ref a5, .ref a6, .ref a7, .ref a8, .ref a9, .int (nI nS), .ref a10, .int (nI nM), .ref a11]] := hD
  refine lv_aload_n hx hb dX6_stripAt_5 rfl (lv_at hl 0 rfl) ?_
  refine lv_iload_n hx hb dX6_stripAt_6 rfl (lv_at hl 1 rfl) ?_
  have hP9 := hP
  refine vp_callSi (pV (rest := []) (qc := (RX6, TX6, 15)) [.int (nI i)] 1 hC (m_isStrip l D (mo := mo) (i := i) (th := 0) (a1 := a1) (nC := nC) (a2 := a2) (a3 := a3) (a4 := a4) (a5 := a5) (a6 := a6) (a7 := a7) (a8 := a8) (a9 := a9) (nS := nS) (a10 := a10) (nM := nM) (a11 := a11) (by omega) (by omega)) rfl (hP 0 _ rfl) (gV mM_X6_117 mI_X6_isStrip mS_X6_isStrip mN_X6 mC_X6_isStrip) (by decide +kernel) rfl rfl ⟨Nat.le_of_ble_eq_true rfl, Nat.le_of_ble_eq_true rfl⟩ hG hP9 rfl hl.1 rfl (Nat.le_of_ble_eq_true rfl) dX6_stripAt_7 ⟨Nat.le_of_ble_eq_true rfl, Nat.le_of_ble_eq_true rfl⟩) (fun r7 h7 => ?_)
  obtain rfl : r7 = 1 := h7
  refine lv_if_ne (tgt := 19) hx hb dX6_stripAt_10 (by decide) (fun _ => ?_) (fun h9 => absurd h9 (by decide))
  refine lv_iload_n hx hb dX6_stripAt_19 rfl (lv_at hl 2 rfl) ?_
  refine lv_iconst (v := 0) hx hb dX6_stripAt_20 (by decide) ?_
  refine lv_ldc hx hb hown (hts _ mG_X6_146) dX6_stripAt_21 ?_
  have hP9 : va_P D cls [] H := fun k q h => by simp at h
  refine vp_callSi (pS (rest := []) [.int y, .int 0, .int 100000] 3 hC (m_isIn l D (x := y) (a := 0) (b := 100000) ) (gS mM_X6_50 mT_X6_isIn mN_X6 mC_X6_isIn) (by decide +kernel) rfl rfl ⟨Nat.le_of_ble_eq_true rfl, Nat.le_of_ble_eq_true rfl⟩ hG hP9 rfl hl.1 rfl (Nat.le_of_ble_eq_true rfl) dX6_stripAt_23 ⟨Nat.le_of_ble_eq_true rfl, Nat.le_of_ble_eq_true rfl⟩) (fun r23 h23 => ?_)
  rcases h23 with ⟨rfl, hb23⟩ | ⟨rfl, hb23⟩
  · exact absurd hb23 (h)
  refine lv_if_ne (tgt := 35) hx hb dX6_stripAt_26 (by decide) (fun h9 => (h9 (by decide)).elim) (fun _ => ?_)
  refine lv_aload_n hx hb dX6_stripAt_29 rfl (lv_at hl 0 rfl) ?_
  refine lv_iconst (v := 2) hx hb dX6_stripAt_30 (by decide) ?_
  have hP9 := hP.sub (ws' := [oO mo 6 [.int 0, .ref a1, .int (nI nC), .ref a2, .ref a3, .ref a4, .ref a5, .ref a6, .ref a7, .ref a8, .ref a9, .int (nI nS), .ref a10, .int (nI nM), .ref a11]]) [0] rfl
  have hD9 := (hD.sub (ws' := [oO mo 6 [.int 0, .ref a1, .int (nI nC), .ref a2, .ref a3, .ref a4, .ref a5, .ref a6, .ref a7, .ref a8, .ref a9, .int (nI nS), .ref a10, .int (nI nM), .ref a11]]) [0] (by decide) rfl).weaken (B := fun _ => True) (fun _ _ _ _ => trivial)
  refine ki (wr := []) (rV (rest := []) (qc := (RX6, TX6, 15)) [.int 2] 1 0 0 hC (m_no l D (mo := mo) (x := 2) (th := 0) (a1 := a1) (nC := nC) (a2 := a2) (a3 := a3) (a4 := a4) (a5 := a5) (a6 := a6) (a7 := a7) (a8 := a8) (a9 := a9) (nS := nS) (a10 := a10) (nM := nM) (a11 := a11) (hz0 := H.size) ) rfl (hP 0 _ rfl) (gV mM_X6_66 mI_X6_no mS_X6_no mN_X6 mC_X6_no) (by decide +kernel) rfl rfl ⟨Nat.le_of_ble_eq_true rfl, Nat.le_of_ble_eq_true rfl⟩ hG hP9 hD9 rfl hl.1 rfl (Nat.le_of_ble_eq_true rfl) dX6_stripAt_31 ⟨Nat.le_of_ble_eq_true rfl, Nat.le_of_ble_eq_true rfl⟩) hP hD hS hA [0] [] rfl rfl (by decide) (by decide) (fun r31 u31 H locs h31 hP hD hS hz hfr => ?_)
  have hP : va_P D cls [oO mo 6 [.int 2, .ref a1, .int (nI nC), .ref a2, .ref a3, .ref a4, .ref a5, .ref a6, .ref a7, .ref a8, .ref a9, .int (nI nS), .ref a10, .int (nI nM), .ref a11]] H := hP
  have hD : va_D A [oO mo 6 [.int 2, .ref a1, .int (nI nC), .ref a2, .ref a3, .ref a4, .ref a5, .ref a6, .ref a7, .ref a8, .ref a9, .int (nI nS), .ref a10, .int (nI nM), .ref a11]] := hD
  obtain rfl : r31 = 0 := h31
  refine Wi () hx hb hr hlk ?_ hP hD hS (Nat.le_of_ble_eq_true rfl) (by first | exact Nat.le_of_ble_eq_true rfl | exact Nat.le_of_eq (Nat.zero_add _)) dX6_stripAt_34
  exact rfl
set_option maxHeartbeats 400000 in
set_option maxRecDepth 100000 in
theorem m_stripAt (l : Launch) (D : va_G) {mo a1 a2 a3 a4 a5 a6 a7 a8 a9 a10 a11 nC nS nM : Nat} {th : Int32} {ln pa pt : Nat → Int32} {i c0 : Nat} {len y lc0 : Int32} (hz0 : Nat) (hn : nS ≤ 10) (hi : i < nS) (hpa : ∀ w, w < 13 → ¬ w = 2 → pa (13 * i + w) = pt w) (hc0 : pa (13 * i) = nI c0) (hc6 : c0 < 6) (hlq : ln c0 = len) (hp : 0 < pt 5) (h10 : pt 10 = 0 ∨ pt 10 = 1) (hO : sOK len pt) (h : (0 : Int32) ≤ y ∧ y ≤ 100000) : Met l yX6_stripAt (ws_ yX6_stripAt cX6_stripAt 4 (some .int)) ({ frames := 5, cells := 0, slots := 0, locals := 111 } : Room) (va_Pc [.ref mo, .int (nI i), .int y, .int lc0] (SW D [oO mo 6 [.int th, .ref a1, .int (nI nC), .ref a2, .ref a3, .ref a4, .ref a5, .ref a6, .ref a7, .ref a8, .ref a9, .int (nI nS), .ref a10, .int (nI nM), .ref a11], aI D a2 6 ln, aI D a10 130 pa] hz0)) (va_Qi (fun v _ => v = if isOnS len pt y then (if lc0 = 0 then strS len pt y else localS len pt y) else -1) (AT D (va_A [oO mo 6 [.int th, .ref a1, .int (nI nC), .ref a2, .ref a3, .ref a4, .ref a5, .ref a6, .ref a7, .ref a8, .ref a9, .int (nI nS), .ref a10, .int (nI nM), .ref a11], aI D a2 6 ln, aI D a10 130 pa] hz0) (fun _ : Unit => [oO mo 6 [.int 0, .ref a1, .int (nI nC), .ref a2, .ref a3, .ref a4, .ref a5, .ref a6, .ref a7, .ref a8, .ref a9, .int (nI nS), .ref a10, .int (nI nM), .ref a11], aI D a2 6 ln, aI D a10 130 pa])) (va_A [oO mo 6 [.int th, .ref a1, .int (nI nC), .ref a2, .ref a3, .ref a4, .ref a5, .ref a6, .ref a7, .ref a8, .ref a9, .int (nI nS), .ref a10, .int (nI nM), .ref a11], aI D a2 6 ln, aI D a10 130 pa] hz0)) 0 0 (va_A [oO mo 6 [.int th, .ref a1, .int (nI nC), .ref a2, .ref a3, .ref a4, .ref a5, .ref a6, .ref a7, .ref a8, .ref a9, .int (nI nS), .ref a10, .int (nI nM), .ref a11], aI D a2 6 ln, aI D a10 130 pa] hz0) := by
  refine Met.ofW (cc := cX6_stripAt) (maxL := 4) (ret := (some .int)) (by decide) rfl ?_
  intro p e s m args below meth c s₁ B hml hv
  obtain ⟨rfl, hsz, hG, hP, hD0⟩ := hv
  have hx := B.exec
  have hb := B.bytes
  have hr := B.returns
  have hts : ∀ w ∈ wsL_law, w.before _ s = true := fun w h => atoms_spec (ws := (ws_ yX6_stripAt cX6_stripAt 4 (some .int))) B.pre w (List.mem_cons_of_mem _ h)
  have hown : s.vm.findClass RX6 = some m.cls := findClass_of_methodNamed B.named
  have hlk := B.notSynchronized
  have hC : CallFix p m c cX6_stripAt 4 s _ wsL_law RX6 := ⟨hx, hb, hml, hown, hts⟩
  subst hsz
  have hD := hD0.self (sz := s.heap.size)
  generalize hAe : va_A [oO mo 6 [.int th, .ref a1, .int (nI nC), .ref a2, .ref a3, .ref a4, .ref a5, .ref a6, .ref a7, .ref a8, .ref a9, .int (nI nS), .ref a10, .int (nI nM), .ref a11], aI D a2 6 ln, aI D a10 130 pa] s.heap.size = A at hD ⊢
  have hA : ∀ q : Nat, s.heap.size ≤ q → A q := fun q h => by rw [← hAe]; exact Or.inr h
  have hS : va_S A s.heap s.heap [] := va_S.rf
  obtain ⟨H, hHe⟩ : ∃ H, H = s.heap := ⟨_, rfl⟩
  rw [← hHe] at hP
  have hS : va_S A s.heap H [] := by rw [hHe]; exact hS
  have hl := lv_entry ([.ref mo, .int (nI i), .int y, .int lc0]) (n := 4) (Nat.le_of_ble_eq_true rfl)
  rw [lg_entry_eq]
  generalize (lg_sl ([.ref mo, .int (nI i), .int y, .int lc0]) ++ List.replicate (4 - (lg_sl ([.ref mo, .int (nI i), .int y, .int lc0])).length) Slot.unset).toArray = ls at hl ⊢
  have hl : lv_has ls 4 [(0, .ref mo), (1, .int (nI i)), (2, .int y), (3, .int lc0)] := hl
  rw [← hHe]
  refine lv_aload_n hx hb dX6_stripAt_0 rfl (lv_at hl 0 rfl) ?_
  refine lv_iconst (v := 0) hx hb dX6_stripAt_1 (by decide) ?_
  refine va_put (D := D) (ci := 6) (v := .int 0) (ty := .int) (C := RX6) (T := TX6) (N := 15) hx hb hts inlX6 tyX6 tyX6_ok nmX6 hown hG.K hP hD hS 0 rfl rfl 0 (by decide) (hts _ mF_X6_43) (fun _ h9 => h9) rfl (by decide +kernel) rfl rfl (Nat.le_of_ble_eq_true rfl) dX6_stripAt_2 (fun H locs hP hD hS => ?_)
  have hP : va_P D cls [oO mo 6 [.int 0, .ref a1, .int (nI nC), .ref a2, .ref a3, .ref a4, .ref a5, .ref a6, .ref a7, .ref a8, .ref a9, .int (nI nS), .ref a10, .int (nI nM), .ref a11], aI D a2 6 ln, aI D a10 130 pa] H := hP
  have hD : va_D A [oO mo 6 [.int 0, .ref a1, .int (nI nC), .ref a2, .ref a3, .ref a4, .ref a5, .ref a6, .ref a7, .ref a8, .ref a9, .int (nI nS), .ref a10, .int (nI nM), .ref a11], aI D a2 6 ln, aI D a10 130 pa] := hD
  refine lv_aload_n hx hb dX6_stripAt_5 rfl (lv_at hl 0 rfl) ?_
  refine lv_iload_n hx hb dX6_stripAt_6 rfl (lv_at hl 1 rfl) ?_
  have hP9 := hP.sub (ws' := [oO mo 6 [.int 0, .ref a1, .int (nI nC), .ref a2, .ref a3, .ref a4, .ref a5, .ref a6, .ref a7, .ref a8, .ref a9, .int (nI nS), .ref a10, .int (nI nM), .ref a11]]) [0] rfl
  refine vp_callSi (pV (rest := []) (qc := (RX6, TX6, 15)) [.int (nI i)] 1 hC (m_isStrip l D (mo := mo) (i := i) (th := 0) (a1 := a1) (nC := nC) (a2 := a2) (a3 := a3) (a4 := a4) (a5 := a5) (a6 := a6) (a7 := a7) (a8 := a8) (a9 := a9) (nS := nS) (a10 := a10) (nM := nM) (a11 := a11) (by omega) (by omega)) rfl (hP 0 _ rfl) (gV mM_X6_117 mI_X6_isStrip mS_X6_isStrip mN_X6 mC_X6_isStrip) (by decide +kernel) rfl rfl ⟨Nat.le_of_ble_eq_true rfl, Nat.le_of_ble_eq_true rfl⟩ hG hP9 rfl hl.1 rfl (Nat.le_of_ble_eq_true rfl) dX6_stripAt_7 ⟨Nat.le_of_ble_eq_true rfl, Nat.le_of_ble_eq_true rfl⟩) (fun r7 h7 => ?_)
  obtain rfl : r7 = 1 := h7
  refine lv_if_ne (tgt := 19) hx hb dX6_stripAt_10 (by decide) (fun _ => ?_) (fun h9 => absurd h9 (by decide))
  refine lv_iload_n hx hb dX6_stripAt_19 rfl (lv_at hl 2 rfl) ?_
  refine lv_iconst (v := 0) hx hb dX6_stripAt_20 (by decide) ?_
  refine lv_ldc hx hb hown (hts _ mG_X6_146) dX6_stripAt_21 ?_
  have hP9 : va_P D cls [] H := fun k q h => by simp at h
  refine vp_callSi (pS (rest := []) [.int y, .int 0, .int 100000] 3 hC (m_isIn l D (x := y) (a := 0) (b := 100000) ) (gS mM_X6_50 mT_X6_isIn mN_X6 mC_X6_isIn) (by decide +kernel) rfl rfl ⟨Nat.le_of_ble_eq_true rfl, Nat.le_of_ble_eq_true rfl⟩ hG hP9 rfl hl.1 rfl (Nat.le_of_ble_eq_true rfl) dX6_stripAt_23 ⟨Nat.le_of_ble_eq_true rfl, Nat.le_of_ble_eq_true rfl⟩) (fun r23 h23 => ?_)
  rcases h23 with ⟨rfl, hb23⟩ | ⟨rfl, hb23⟩
  rotate_left
  · exact absurd (h) hb23
  refine lv_if_ne (tgt := 35) hx hb dX6_stripAt_26 (by decide) (fun _ => ?_) (fun h9 => absurd h9 (by decide))
  refine lv_aload_n hx hb dX6_stripAt_35 rfl (lv_at hl 0 rfl) ?_
  refine lv_iload_n hx hb dX6_stripAt_36 rfl (lv_at hl 1 rfl) ?_
  refine lv_iload_n hx hb dX6_stripAt_37 rfl (lv_at hl 2 rfl) ?_
  have hP9 := hP
  refine vp_callSi (pV (rest := []) (qc := (RX6, TX6, 15)) [.int (nI i), .int y] 2 hC (m_isOn l D (pt := pt) (c0 := c0) (len := len) (mo := mo) (i := i) (x := y) (th := 0) (a1 := a1) (nC := nC) (a2 := a2) (a3 := a3) (a4 := a4) (a5 := a5) (a6 := a6) (a7 := a7) (a8 := a8) (a9 := a9) (nS := nS) (a10 := a10) (nM := nM) (a11 := a11) (ln := ln) (pa := pa) (by omega) (hpa) (hc0) (by omega) (hlq) (hp) (h10)) rfl (hP 0 _ rfl) (gV mM_X6_147 mI_X6_isOn mS_X6_isOn mN_X6 mC_X6_isOn) (by decide +kernel) rfl rfl ⟨Nat.le_of_ble_eq_true rfl, Nat.le_of_ble_eq_true rfl⟩ hG hP9 rfl hl.1 rfl (Nat.le_of_ble_eq_true rfl) dX6_stripAt_38 ⟨Nat.le_of_ble_eq_true rfl, Nat.le_of_ble_eq_true rfl⟩) (fun r38 h38 => ?_)
  rcases h38 with ⟨rfl, hb38⟩ | ⟨rfl, hb38⟩
  · skip
    refine lv_if_ne (tgt := 46) hx hb dX6_stripAt_41 (by decide) (fun _ => ?_) (fun h9 => absurd h9 (by decide))
    refine lv_iload_n hx hb dX6_stripAt_46 rfl (lv_at hl 3 rfl) ?_
    refine lv_if_eq (tgt := 59) hx hb dX6_stripAt_47 (by decide) (fun c47 => ?_) (fun c47 => ?_)
    · skip
      refine lv_aload_n hx hb dX6_stripAt_59 rfl (lv_at hl 0 rfl) ?_
      refine lv_iload_n hx hb dX6_stripAt_60 rfl (lv_at hl 1 rfl) ?_
      refine lv_iload_n hx hb dX6_stripAt_61 rfl (lv_at hl 2 rfl) ?_
      have hP9 := hP
      refine vp_callSi (pV (rest := []) (qc := (RX6, TX6, 15)) [.int (nI i), .int y] 2 hC (m_strength l D (pt := pt) (c0 := c0) (len := len) (mo := mo) (i := i) (x := y) (th := 0) (a1 := a1) (nC := nC) (a2 := a2) (a3 := a3) (a4 := a4) (a5 := a5) (a6 := a6) (a7 := a7) (a8 := a8) (a9 := a9) (nS := nS) (a10 := a10) (nM := nM) (a11 := a11) (ln := ln) (pa := pa) (by omega) (hpa) (hc0) (by omega) (hlq) (hp) (hO) (hb38) (by have := (fa_le _ _).mp h.1; rw [show (0 : Int32).toInt = 0 by decide] at this; omega) (by have := (fa_le _ _).mp h.2; rw [show (100000 : Int32).toInt = 100000 by decide] at this; omega)) rfl (hP 0 _ rfl) (gV mM_X6_153 mI_X6_strength mS_X6_strength mN_X6 mC_X6_strength) (by decide +kernel) rfl rfl ⟨Nat.le_of_ble_eq_true rfl, Nat.le_of_ble_eq_true rfl⟩ hG hP9 rfl hl.1 rfl (Nat.le_of_ble_eq_true rfl) dX6_stripAt_62 ⟨Nat.le_of_ble_eq_true rfl, Nat.le_of_ble_eq_true rfl⟩) (fun r62 h62 => ?_)
      obtain rfl : r62 = (strS len pt y) := h62
      refine Wi () hx hb hr hlk ?_ hP hD hS (Nat.le_of_ble_eq_true rfl) (by first | exact Nat.le_of_ble_eq_true rfl | exact Nat.le_of_eq (Nat.zero_add _)) dX6_stripAt_65
      show _ = _
      rw [if_pos hb38]
      first | rw [if_pos c47] | rw [if_neg c47]
    · skip
      refine lv_aload_n hx hb dX6_stripAt_50 rfl (lv_at hl 0 rfl) ?_
      refine lv_iload_n hx hb dX6_stripAt_51 rfl (lv_at hl 1 rfl) ?_
      refine lv_iload_n hx hb dX6_stripAt_52 rfl (lv_at hl 2 rfl) ?_
      have hP9 := hP
      refine vp_callSi (pV (rest := []) (qc := (RX6, TX6, 15)) [.int (nI i), .int y] 2 hC (m_local l D (pt := pt) (c0 := c0) (len := len) (mo := mo) (i := i) (x := y) (th := 0) (a1 := a1) (nC := nC) (a2 := a2) (a3 := a3) (a4 := a4) (a5 := a5) (a6 := a6) (a7 := a7) (a8 := a8) (a9 := a9) (nS := nS) (a10 := a10) (nM := nM) (a11 := a11) (ln := ln) (pa := pa) (by omega) (hpa) (hc0) (by omega) (hlq) (hO) (hb38) (by have := (fa_le _ _).mp h.2; rw [show (100000 : Int32).toInt = 100000 by decide] at this; omega)) rfl (hP 0 _ rfl) (gV mM_X6_150 mI_X6_local mS_X6_local mN_X6 mC_X6_local) (by decide +kernel) rfl rfl ⟨Nat.le_of_ble_eq_true rfl, Nat.le_of_ble_eq_true rfl⟩ hG hP9 rfl hl.1 rfl (Nat.le_of_ble_eq_true rfl) dX6_stripAt_53 ⟨Nat.le_of_ble_eq_true rfl, Nat.le_of_ble_eq_true rfl⟩) (fun r53 h53 => ?_)
      obtain rfl : r53 = (localS len pt y) := h53
      refine lv_goto (tgt := 65) hx hb dX6_stripAt_56 (by decide) ?_
      refine Wi () hx hb hr hlk ?_ hP hD hS (Nat.le_of_ble_eq_true rfl) (by first | exact Nat.le_of_ble_eq_true rfl | exact Nat.le_of_eq (Nat.zero_add _)) dX6_stripAt_65
      show _ = _
      rw [if_pos hb38]
      first | rw [if_pos c47] | rw [if_neg c47]
  · skip
    refine lv_if_ne (tgt := 46) hx hb dX6_stripAt_41 (by decide) (fun h9 => (h9 (by decide)).elim) (fun _ => ?_)
    refine lv_iconst (v := -1) hx hb dX6_stripAt_44 (by decide) ?_
    refine Wi () hx hb hr hlk ?_ hP hD hS (Nat.le_of_ble_eq_true rfl) (by first | exact Nat.le_of_ble_eq_true rfl | exact Nat.le_of_eq (Nat.zero_add _)) dX6_stripAt_45
    show _ = _
    rw [if_neg hb38]
