/-- the parts of a new strip -/
def stP (c1 x1 x2 x3 : Int32) : Nat → Int32 := fun w => if w = 0 then c1 else if w = 1 then x1 else if w = 3 then x2 else if w = 4 then x3 else if w = 5 then 1 else if w = 6 then 1 else if w = 8 then 100 else 0
def apF (f : Nat → Int32) (b : Nat) (g : Nat → Int32) : Nat → Int32 := fun q => if b ≤ q ∧ q < b + 13 then g (q - b) else f q
theorem own_is (c1 x1 x2 x3 : Int32) (w : Nat) (h : w < 13) : (upd (upd (upd (upd (upd (upd (upd (upd (upd (upd (upd (upd (upd (fun _ => 0) 0 c1) 1 x1) 2 0) 3 x2) 4 x3) 5 1) 6 1) 7 0) 8 100) 9 0) 10 0) 11 0) 12 0) w = stP c1 x1 x2 x3 w := by
  rcases (show w = 0 ∨ w = 1 ∨ w = 2 ∨ w = 3 ∨ w = 4 ∨ w = 5 ∨ w = 6 ∨ w = 7 ∨ w = 8 ∨ w = 9 ∨ w = 10 ∨ w = 11 ∨ w = 12 by omega) with rfl | rfl | rfl | rfl | rfl | rfl | rfl | rfl | rfl | rfl | rfl | rfl | rfl <;> rfl
theorem own_cpy (c1 x1 x2 x3 : Int32) (f : Nat → Int32) (b : Nat) : va_cpy (upd (upd (upd (upd (upd (upd (upd (upd (upd (upd (upd (upd (upd (fun _ => 0) 0 c1) 1 x1) 2 0) 3 x2) 4 x3) 5 1) 6 1) 7 0) 8 100) 9 0) 10 0) 11 0) 12 0) f 0 b 13 = apF f b (stP c1 x1 x2 x3) := by
  funext q
  rw [va_cpy, apF]
  by_cases e : b ≤ q ∧ q < b + 13
  · rw [if_pos e, if_pos e, Nat.zero_add]
    exact own_is c1 x1 x2 x3 (q - b) (by omega)
  · rw [if_neg e, if_neg e]
set_option maxHeartbeats 400000 in
set_option maxRecDepth 100000 in
theorem m_addStrip_1 (l : Launch) (D : va_G) {mo a1 a2 a3 a4 a5 a6 a7 a8 a9 a10 a11 nC nS nM : Nat} {th : Int32} {x x1 x2 x3 : Int32} (hz0 : Nat) (hn : nC ≤ 6) (hxx : x < 0 ∨ nI nC ≤ x) : Met l yX6_addStrip (ws_ yX6_addStrip cX6_addStrip 6 (some .int)) ({ frames := 2, cells := 0, slots := 0, locals := 54 } : Room) (va_Pc [.ref mo, .int x, .int x1, .int x2, .int x3] (SW D [oO mo 6 [.int th, .ref a1, .int (nI nC), .ref a2, .ref a3, .ref a4, .ref a5, .ref a6, .ref a7, .ref a8, .ref a9, .int (nI nS), .ref a10, .int (nI nM), .ref a11]] hz0)) (va_Qi (fun v _ => v = 0) (AT D (va_A [oO mo 6 [.int th, .ref a1, .int (nI nC), .ref a2, .ref a3, .ref a4, .ref a5, .ref a6, .ref a7, .ref a8, .ref a9, .int (nI nS), .ref a10, .int (nI nM), .ref a11]] hz0) (fun _ : Unit => [oO mo 6 [.int 1, .ref a1, .int (nI nC), .ref a2, .ref a3, .ref a4, .ref a5, .ref a6, .ref a7, .ref a8, .ref a9, .int (nI nS), .ref a10, .int (nI nM), .ref a11]])) (va_A [oO mo 6 [.int th, .ref a1, .int (nI nC), .ref a2, .ref a3, .ref a4, .ref a5, .ref a6, .ref a7, .ref a8, .ref a9, .int (nI nS), .ref a10, .int (nI nM), .ref a11]] hz0)) 0 0 (va_A [oO mo 6 [.int th, .ref a1, .int (nI nC), .ref a2, .ref a3, .ref a4, .ref a5, .ref a6, .ref a7, .ref a8, .ref a9, .int (nI nS), .ref a10, .int (nI nM), .ref a11]] hz0) := by
  refine Met.ofW (cc := cX6_addStrip) (maxL := 6) (ret := (some .int)) (by decide) rfl ?_
  intro p e s m args below meth c s₁ B hml hv
  obtain ⟨rfl, hsz, hG, hP, hD0⟩ := hv
  have hx := B.exec
  have hb := B.bytes
  have hr := B.returns
  have hts : ∀ w ∈ wsL_law, w.before _ s = true := fun w h => atoms_spec (ws := (ws_ yX6_addStrip cX6_addStrip 6 (some .int))) B.pre w (List.mem_cons_of_mem _ h)
  have hown : s.vm.findClass RX6 = some m.cls := findClass_of_methodNamed B.named
  have hlk := B.notSynchronized
  have hC : CallFix p m c cX6_addStrip 6 s _ wsL_law RX6 := ⟨hx, hb, hml, hown, hts⟩
  subst hsz
  have hD := hD0.self (sz := s.heap.size)
  generalize hAe : va_A [oO mo 6 [.int th, .ref a1, .int (nI nC), .ref a2, .ref a3, .ref a4, .ref a5, .ref a6, .ref a7, .ref a8, .ref a9, .int (nI nS), .ref a10, .int (nI nM), .ref a11]] s.heap.size = A at hD ⊢
  have hA : ∀ q : Nat, s.heap.size ≤ q → A q := fun q h => by rw [← hAe]; exact Or.inr h
  have hS : va_S A s.heap s.heap [] := va_S.rf
  obtain ⟨H, hHe⟩ : ∃ H, H = s.heap := ⟨_, rfl⟩
  rw [← hHe] at hP
  have hS : va_S A s.heap H [] := by rw [hHe]; exact hS
  have hl := lv_entry ([.ref mo, .int x, .int x1, .int x2, .int x3]) (n := 6) (Nat.le_of_ble_eq_true rfl)
  rw [lg_entry_eq]
  generalize (lg_sl ([.ref mo, .int x, .int x1, .int x2, .int x3]) ++ List.replicate (6 - (lg_sl ([.ref mo, .int x, .int x1, .int x2, .int x3])).length) Slot.unset).toArray = ls at hl ⊢
  have hl : lv_has ls 6 [(0, .ref mo), (1, .int x), (2, .int x1), (3, .int x2), (4, .int x3)] := hl
  rw [← hHe]
  refine lv_aload_n hx hb dX6_addStrip_0 rfl (lv_at hl 0 rfl) ?_
  refine lv_iconst (v := 0) hx hb dX6_addStrip_1 (by decide) ?_
  refine va_put (D := D) (ci := 6) (v := .int 0) (ty := .int) (C := RX6) (T := TX6) (N := 15) hx hb hts inlX6 tyX6 tyX6_ok nmX6 hown hG.K hP hD hS 0 rfl rfl 0 (by decide) (hts _ mF_X6_43) (fun _ h9 => h9) rfl (by decide +kernel) rfl rfl (Nat.le_of_ble_eq_true rfl) dX6_addStrip_2 (fun H locs hP hD hS => ?_)
  have hP : va_P D cls [oO mo 6 [.int 0, .ref a1, .int (nI nC), .ref a2, .ref a3, .ref a4, .ref a5, .ref a6, .ref a7, .ref a8, .ref a9, .int (nI nS), .ref a10, .int (nI nM), .ref a11]] H := hP
  have hD : va_D A [oO mo 6 [.int 0, .ref a1, .int (nI nC), .ref a2, .ref a3, .ref a4, .ref a5, .ref a6, .ref a7, .ref a8, .ref a9, .int (nI nS), .ref a10, .int (nI nM), .ref a11]] := hD
  refine lv_aload_n hx hb dX6_addStrip_5 rfl (lv_at hl 0 rfl) ?_
  refine lv_iload_n hx hb dX6_addStrip_6 rfl (lv_at hl 1 rfl) ?_
  have hP9 := hP
  refine vp_callSi (pV (rest := []) (qc := (RX6, TX6, 15)) [.int x] 1 hC (m_isClip_no l D (mo := mo) (x := x) (th := 0) (a1 := a1) (nC := nC) (a2 := a2) (a3 := a3) (a4 := a4) (a5 := a5) (a6 := a6) (a7 := a7) (a8 := a8) (a9 := a9) (nS := nS) (a10 := a10) (nM := nM) (a11 := a11) (by omega) (hxx)) rfl (hP 0 _ rfl) (gV mM_X6_54 mI_X6_isClip mS_X6_isClip mN_X6 mC_X6_isClip) (by decide +kernel) rfl rfl ⟨Nat.le_of_ble_eq_true rfl, Nat.le_of_ble_eq_true rfl⟩ hG hP9 rfl hl.1 rfl (Nat.le_of_ble_eq_true rfl) dX6_addStrip_7 ⟨Nat.le_of_ble_eq_true rfl, Nat.le_of_ble_eq_true rfl⟩) (fun r7 h7 => ?_)
  obtain rfl : r7 = 0 := h7
  refine lv_if_ne (tgt := 19) hx hb dX6_addStrip_10 (by decide) (fun h9 => (h9 (by decide)).elim) (fun _ => ?_)
  refine lv_aload_n hx hb dX6_addStrip_13 rfl (lv_at hl 0 rfl) ?_
  refine lv_iconst (v := 1) hx hb dX6_addStrip_14 (by decide) ?_
  have hP9 := hP.sub (ws' := [oO mo 6 [.int 0, .ref a1, .int (nI nC), .ref a2, .ref a3, .ref a4, .ref a5, .ref a6, .ref a7, .ref a8, .ref a9, .int (nI nS), .ref a10, .int (nI nM), .ref a11]]) [0] rfl
  have hD9 := (hD.sub (ws' := [oO mo 6 [.int 0, .ref a1, .int (nI nC), .ref a2, .ref a3, .ref a4, .ref a5, .ref a6, .ref a7, .ref a8, .ref a9, .int (nI nS), .ref a10, .int (nI nM), .ref a11]]) [0] (by decide) rfl).weaken (B := fun _ => True) (fun _ _ _ _ => trivial)
  refine ki (wr := []) (rV (rest := []) (qc := (RX6, TX6, 15)) [.int 1] 1 0 0 hC (m_no l D (mo := mo) (x := 1) (th := 0) (a1 := a1) (nC := nC) (a2 := a2) (a3 := a3) (a4 := a4) (a5 := a5) (a6 := a6) (a7 := a7) (a8 := a8) (a9 := a9) (nS := nS) (a10 := a10) (nM := nM) (a11 := a11) (hz0 := H.size) ) rfl (hP 0 _ rfl) (gV mM_X6_66 mI_X6_no mS_X6_no mN_X6 mC_X6_no) (by decide +kernel) rfl rfl ⟨Nat.le_of_ble_eq_true rfl, Nat.le_of_ble_eq_true rfl⟩ hG hP9 hD9 rfl hl.1 rfl (Nat.le_of_ble_eq_true rfl) dX6_addStrip_15 ⟨Nat.le_of_ble_eq_true rfl, Nat.le_of_ble_eq_true rfl⟩) hP hD hS hA [0] [] rfl rfl (by decide) (by decide) (fun r15 u15 H locs h15 hP hD hS hz hfr => ?_)
  have hP : va_P D cls [oO mo 6 [.int 1, .ref a1, .int (nI nC), .ref a2, .ref a3, .ref a4, .ref a5, .ref a6, .ref a7, .ref a8, .ref a9, .int (nI nS), .ref a10, .int (nI nM), .ref a11]] H := hP
  have hD : va_D A [oO mo 6 [.int 1, .ref a1, .int (nI nC), .ref a2, .ref a3, .ref a4, .ref a5, .ref a6, .ref a7, .ref a8, .ref a9, .int (nI nS), .ref a10, .int (nI nM), .ref a11]] := hD
  obtain rfl : r15 = 0 := h15
  refine Wi () hx hb hr hlk ?_ hP hD hS (Nat.le_of_ble_eq_true rfl) (by first | exact Nat.le_of_ble_eq_true rfl | exact Nat.le_of_eq (Nat.zero_add _)) dX6_addStrip_18
  exact rfl
set_option maxHeartbeats 400000 in
set_option maxRecDepth 100000 in
theorem m_addStrip_2 (l : Launch) (D : va_G) {mo a1 a2 a3 a4 a5 a6 a7 a8 a9 a10 a11 nC nS nM : Nat} {th : Int32} {i : Nat} {x1 x2 x3 : Int32} (hz0 : Nat) (hn : nC ≤ 6) (hi : i < nC) (h : ¬ (((0 : Int32) ≤ x1 ∧ x1 ≤ 5000) ∧ ((1 : Int32) ≤ x2 ∧ x2 ≤ 9) ∧ ((0 : Int32) ≤ x3 ∧ x3 ≤ 2))) : Met l yX6_addStrip (ws_ yX6_addStrip cX6_addStrip 6 (some .int)) ({ frames := 2, cells := 0, slots := 0, locals := 54 } : Room) (va_Pc [.ref mo, .int (nI i), .int x1, .int x2, .int x3] (SW D [oO mo 6 [.int th, .ref a1, .int (nI nC), .ref a2, .ref a3, .ref a4, .ref a5, .ref a6, .ref a7, .ref a8, .ref a9, .int (nI nS), .ref a10, .int (nI nM), .ref a11]] hz0)) (va_Qi (fun v _ => v = 0) (AT D (va_A [oO mo 6 [.int th, .ref a1, .int (nI nC), .ref a2, .ref a3, .ref a4, .ref a5, .ref a6, .ref a7, .ref a8, .ref a9, .int (nI nS), .ref a10, .int (nI nM), .ref a11]] hz0) (fun _ : Unit => [oO mo 6 [.int 2, .ref a1, .int (nI nC), .ref a2, .ref a3, .ref a4, .ref a5, .ref a6, .ref a7, .ref a8, .ref a9, .int (nI nS), .ref a10, .int (nI nM), .ref a11]])) (va_A [oO mo 6 [.int th, .ref a1, .int (nI nC), .ref a2, .ref a3, .ref a4, .ref a5, .ref a6, .ref a7, .ref a8, .ref a9, .int (nI nS), .ref a10, .int (nI nM), .ref a11]] hz0)) 0 0 (va_A [oO mo 6 [.int th, .ref a1, .int (nI nC), .ref a2, .ref a3, .ref a4, .ref a5, .ref a6, .ref a7, .ref a8, .ref a9, .int (nI nS), .ref a10, .int (nI nM), .ref a11]] hz0) := by
  refine Met.ofW (cc := cX6_addStrip) (maxL := 6) (ret := (some .int)) (by decide) rfl ?_
  intro p e s m args below meth c s₁ B hml hv
  obtain ⟨rfl, hsz, hG, hP, hD0⟩ := hv
  have hx := B.exec
  have hb := B.bytes
  have hr := B.returns
  have hts : ∀ w ∈ wsL_law, w.before _ s = true := fun w h => atoms_spec (ws := (ws_ yX6_addStrip cX6_addStrip 6 (some .int))) B.pre w (List.mem_cons_of_mem _ h)
  have hown : s.vm.findClass RX6 = some m.cls := findClass_of_methodNamed B.named
  have hlk := B.notSynchronized
  have hC : CallFix p m c cX6_addStrip 6 s _ wsL_law RX6 := ⟨hx, hb, hml, hown, hts⟩
  subst hsz
  have hD := hD0.self (sz := s.heap.size)
  generalize hAe : va_A [oO mo 6 [.int th, .ref a1, .int (nI nC), .ref a2, .ref a3, .ref a4, .ref a5, .ref a6, .ref a7, .ref a8, .ref a9, .int (nI nS), .ref a10, .int (nI nM), .ref a11]] s.heap.size = A at hD ⊢
  have hA : ∀ q : Nat, s.heap.size ≤ q → A q := fun q h => by rw [← hAe]; exact Or.inr h
  have hS : va_S A s.heap s.heap [] := va_S.rf
  obtain ⟨H, hHe⟩ : ∃ H, H = s.heap := ⟨_, rfl⟩
  rw [← hHe] at hP
  have hS : va_S A s.heap H [] := by rw [hHe]; exact hS
  have hl := lv_entry ([.ref mo, .int (nI i), .int x1, .int x2, .int x3]) (n := 6) (Nat.le_of_ble_eq_true rfl)
  rw [lg_entry_eq]
  generalize (lg_sl ([.ref mo, .int (nI i), .int x1, .int x2, .int x3]) ++ List.replicate (6 - (lg_sl ([.ref mo, .int (nI i), .int x1, .int x2, .int x3])).length) Slot.unset).toArray = ls at hl ⊢
  have hl : lv_has ls 6 [(0, .ref mo), (1, .int (nI i)), (2, .int x1), (3, .int x2), (4, .int x3)] := hl
  rw [← hHe]
  refine lv_aload_n hx hb dX6_addStrip_0 rfl (lv_at hl 0 rfl) ?_
  refine lv_iconst (v := 0) hx hb dX6_addStrip_1 (by decide) ?_
  refine va_put (D := D) (ci := 6) (v := .int 0) (ty := .int) (C := RX6) (T := TX6) (N := 15) hx hb hts inlX6 tyX6 tyX6_ok nmX6 hown hG.K hP hD hS 0 rfl rfl 0 (by decide) (hts _ mF_X6_43) (fun _ h9 => h9) rfl (by decide +kernel) rfl rfl (Nat.le_of_ble_eq_true rfl) dX6_addStrip_2 (fun H locs hP hD hS => ?_)
  have hP : va_P D cls [oO mo 6 [.int 0, .ref a1, .int (nI nC), .ref a2, .ref a3, .ref a4, .ref a5, .ref a6, .ref a7, .ref a8, .ref a9, .int (nI nS), .ref a10, .int (nI nM), .ref a11]] H := hP
  have hD : va_D A [oO mo 6 [.int 0, .ref a1, .int (nI nC), .ref a2, .ref a3, .ref a4, .ref a5, .ref a6, .ref a7, .ref a8, .ref a9, .int (nI nS), .ref a10, .int (nI nM), .ref a11]] := hD
  refine lv_aload_n hx hb dX6_addStrip_5 rfl (lv_at hl 0 rfl) ?_
  refine lv_iload_n hx hb dX6_addStrip_6 rfl (lv_at hl 1 rfl) ?_
  have hP9 := hP
  refine vp_callSi (pV (rest := []) (qc := (RX6, TX6, 15)) [.int (nI i)] 1 hC (m_isClip l D (mo := mo) (i := i) (th := 0) (a1 := a1) (nC := nC) (a2 := a2) (a3 := a3) (a4 := a4) (a5 := a5) (a6 := a6) (a7 := a7) (a8 := a8) (a9 := a9) (nS := nS) (a10 := a10) (nM := nM) (a11 := a11) (by omega) (by omega)) rfl (hP 0 _ rfl) (gV mM_X6_54 mI_X6_isClip mS_X6_isClip mN_X6 mC_X6_isClip) (by decide +kernel) rfl rfl ⟨Nat.le_of_ble_eq_true rfl, Nat.le_of_ble_eq_true rfl⟩ hG hP9 rfl hl.1 rfl (Nat.le_of_ble_eq_true rfl) dX6_addStrip_7 ⟨Nat.le_of_ble_eq_true rfl, Nat.le_of_ble_eq_true rfl⟩) (fun r7 h7 => ?_)
  obtain rfl : r7 = 1 := h7
  refine lv_if_ne (tgt := 19) hx hb dX6_addStrip_10 (by decide) (fun _ => ?_) (fun h9 => absurd h9 (by decide))
  refine lv_iload_n hx hb dX6_addStrip_19 rfl (lv_at hl 2 rfl) ?_
  refine lv_iconst (v := 0) hx hb dX6_addStrip_20 (by decide) ?_
  refine lv_sipush (v := 5000) hx hb dX6_addStrip_21 (by decide) ?_
  have hP9 : va_P D cls [] H := fun k q h => by simp at h
  refine vp_callSi (pS (rest := []) [.int x1, .int 0, .int 5000] 3 hC (m_isIn l D (x := x1) (a := 0) (b := 5000) ) (gS mM_X6_50 mT_X6_isIn mN_X6 mC_X6_isIn) (by decide +kernel) rfl rfl ⟨Nat.le_of_ble_eq_true rfl, Nat.le_of_ble_eq_true rfl⟩ hG hP9 rfl hl.1 rfl (Nat.le_of_ble_eq_true rfl) dX6_addStrip_24 ⟨Nat.le_of_ble_eq_true rfl, Nat.le_of_ble_eq_true rfl⟩) (fun r24 h24 => ?_)
  rcases h24 with ⟨rfl, hb24⟩ | ⟨rfl, hb24⟩
  · skip
    refine lv_if_eq (tgt := 50) hx hb dX6_addStrip_27 (by decide) (fun h9 => absurd h9 (by decide)) (fun _ => ?_)
    refine lv_iload_n hx hb dX6_addStrip_30 rfl (lv_at hl 3 rfl) ?_
    refine lv_iconst (v := 1) hx hb dX6_addStrip_31 (by decide) ?_
    refine lv_bipush (v := 9) hx hb dX6_addStrip_32 (by decide) ?_
    have hP9 : va_P D cls [] H := fun k q h => by simp at h
    refine vp_callSi (pS (rest := []) [.int x2, .int 1, .int 9] 3 hC (m_isIn l D (x := x2) (a := 1) (b := 9) ) (gS mM_X6_50 mT_X6_isIn mN_X6 mC_X6_isIn) (by decide +kernel) rfl rfl ⟨Nat.le_of_ble_eq_true rfl, Nat.le_of_ble_eq_true rfl⟩ hG hP9 rfl hl.1 rfl (Nat.le_of_ble_eq_true rfl) dX6_addStrip_34 ⟨Nat.le_of_ble_eq_true rfl, Nat.le_of_ble_eq_true rfl⟩) (fun r34 h34 => ?_)
    rcases h34 with ⟨rfl, hb34⟩ | ⟨rfl, hb34⟩
    · skip
      refine lv_if_eq (tgt := 50) hx hb dX6_addStrip_37 (by decide) (fun h9 => absurd h9 (by decide)) (fun _ => ?_)
      refine lv_iload hx hb dX6_addStrip_40 (lv_at hl 4 rfl) ?_
      refine lv_iconst (v := 0) hx hb dX6_addStrip_42 (by decide) ?_
      refine lv_iconst (v := 2) hx hb dX6_addStrip_43 (by decide) ?_
      have hP9 : va_P D cls [] H := fun k q h => by simp at h
      refine vp_callSi (pS (rest := []) [.int x3, .int 0, .int 2] 3 hC (m_isIn l D (x := x3) (a := 0) (b := 2) ) (gS mM_X6_50 mT_X6_isIn mN_X6 mC_X6_isIn) (by decide +kernel) rfl rfl ⟨Nat.le_of_ble_eq_true rfl, Nat.le_of_ble_eq_true rfl⟩ hG hP9 rfl hl.1 rfl (Nat.le_of_ble_eq_true rfl) dX6_addStrip_44 ⟨Nat.le_of_ble_eq_true rfl, Nat.le_of_ble_eq_true rfl⟩) (fun r44 h44 => ?_)
      rcases h44 with ⟨rfl, hb44⟩ | ⟨rfl, hb44⟩
      · exact absurd hb44 (fun h9 => h ⟨hb24, hb34, h9⟩)
      refine lv_if_ne (tgt := 56) hx hb dX6_addStrip_47 (by decide) (fun h9 => (h9 (by decide)).elim) (fun _ => ?_)
      refine lv_aload_n hx hb dX6_addStrip_50 rfl (lv_at hl 0 rfl) ?_
      refine lv_iconst (v := 2) hx hb dX6_addStrip_51 (by decide) ?_
      have hP9 := hP.sub (ws' := [oO mo 6 [.int 0, .ref a1, .int (nI nC), .ref a2, .ref a3, .ref a4, .ref a5, .ref a6, .ref a7, .ref a8, .ref a9, .int (nI nS), .ref a10, .int (nI nM), .ref a11]]) [0] rfl
      have hD9 := (hD.sub (ws' := [oO mo 6 [.int 0, .ref a1, .int (nI nC), .ref a2, .ref a3, .ref a4, .ref a5, .ref a6, .ref a7, .ref a8, .ref a9, .int (nI nS), .ref a10, .int (nI nM), .ref a11]]) [0] (by decide) rfl).weaken (B := fun _ => True) (fun _ _ _ _ => trivial)
      refine ki (wr := []) (rV (rest := []) (qc := (RX6, TX6, 15)) [.int 2] 1 0 0 hC (m_no l D (mo := mo) (x := 2) (th := 0) (a1 := a1) (nC := nC) (a2 := a2) (a3 := a3) (a4 := a4) (a5 := a5) (a6 := a6) (a7 := a7) (a8 := a8) (a9 := a9) (nS := nS) (a10 := a10) (nM := nM) (a11 := a11) (hz0 := H.size) ) rfl (hP 0 _ rfl) (gV mM_X6_66 mI_X6_no mS_X6_no mN_X6 mC_X6_no) (by decide +kernel) rfl rfl ⟨Nat.le_of_ble_eq_true rfl, Nat.le_of_ble_eq_true rfl⟩ hG hP9 hD9 rfl hl.1 rfl (Nat.le_of_ble_eq_true rfl) dX6_addStrip_52 ⟨Nat.le_of_ble_eq_true rfl, Nat.le_of_ble_eq_true rfl⟩) hP hD hS hA [0] [] rfl rfl (by decide) (by decide) (fun r52 u52 H locs h52 hP hD hS hz hfr => ?_)
      have hP : va_P D cls [oO mo 6 [.int 2, .ref a1, .int (nI nC), .ref a2, .ref a3, .ref a4, .ref a5, .ref a6, .ref a7, .ref a8, .ref a9, .int (nI nS), .ref a10, .int (nI nM), .ref a11]] H := hP
      have hD : va_D A [oO mo 6 [.int 2, .ref a1, .int (nI nC), .ref a2, .ref a3, .ref a4, .ref a5, .ref a6, .ref a7, .ref a8, .ref a9, .int (nI nS), .ref a10, .int (nI nM), .ref a11]] := hD
      obtain rfl : r52 = 0 := h52
      refine Wi () hx hb hr hlk ?_ hP hD hS (Nat.le_of_ble_eq_true rfl) (by first | exact Nat.le_of_ble_eq_true rfl | exact Nat.le_of_eq (Nat.zero_add _)) dX6_addStrip_55
      exact rfl
    · skip
      refine lv_if_eq (tgt := 50) hx hb dX6_addStrip_37 (by decide) (fun _ => ?_) (fun h9 => (h9 (by decide)).elim)
      refine lv_aload_n hx hb dX6_addStrip_50 rfl (lv_at hl 0 rfl) ?_
      refine lv_iconst (v := 2) hx hb dX6_addStrip_51 (by decide) ?_
      have hP9 := hP.sub (ws' := [oO mo 6 [.int 0, .ref a1, .int (nI nC), .ref a2, .ref a3, .ref a4, .ref a5, .ref a6, .ref a7, .ref a8, .ref a9, .int (nI nS), .ref a10, .int (nI nM), .ref a11]]) [0] rfl
      have hD9 := (hD.sub (ws' := [oO mo 6 [.int 0, .ref a1, .int (nI nC), .ref a2, .ref a3, .ref a4, .ref a5, .ref a6, .ref a7, .ref a8, .ref a9, .int (nI nS), .ref a10, .int (nI nM), .ref a11]]) [0] (by decide) rfl).weaken (B := fun _ => True) (fun _ _ _ _ => trivial)
      refine ki (wr := []) (rV (rest := []) (qc := (RX6, TX6, 15)) [.int 2] 1 0 0 hC (m_no l D (mo := mo) (x := 2) (th := 0) (a1 := a1) (nC := nC) (a2 := a2) (a3 := a3) (a4 := a4) (a5 := a5) (a6 := a6) (a7 := a7) (a8 := a8) (a9 := a9) (nS := nS) (a10 := a10) (nM := nM) (a11 := a11) (hz0 := H.size) ) rfl (hP 0 _ rfl) (gV mM_X6_66 mI_X6_no mS_X6_no mN_X6 mC_X6_no) (by decide +kernel) rfl rfl ⟨Nat.le_of_ble_eq_true rfl, Nat.le_of_ble_eq_true rfl⟩ hG hP9 hD9 rfl hl.1 rfl (Nat.le_of_ble_eq_true rfl) dX6_addStrip_52 ⟨Nat.le_of_ble_eq_true rfl, Nat.le_of_ble_eq_true rfl⟩) hP hD hS hA [0] [] rfl rfl (by decide) (by decide) (fun r52 u52 H locs h52 hP hD hS hz hfr => ?_)
      have hP : va_P D cls [oO mo 6 [.int 2, .ref a1, .int (nI nC), .ref a2, .ref a3, .ref a4, .ref a5, .ref a6, .ref a7, .ref a8, .ref a9, .int (nI nS), .ref a10, .int (nI nM), .ref a11]] H := hP
      have hD : va_D A [oO mo 6 [.int 2, .ref a1, .int (nI nC), .ref a2, .ref a3, .ref a4, .ref a5, .ref a6, .ref a7, .ref a8, .ref a9, .int (nI nS), .ref a10, .int (nI nM), .ref a11]] := hD
      obtain rfl : r52 = 0 := h52
      refine Wi () hx hb hr hlk ?_ hP hD hS (Nat.le_of_ble_eq_true rfl) (by first | exact Nat.le_of_ble_eq_true rfl | exact Nat.le_of_eq (Nat.zero_add _)) dX6_addStrip_55
      exact rfl
  · skip
    refine lv_if_eq (tgt := 50) hx hb dX6_addStrip_27 (by decide) (fun _ => ?_) (fun h9 => (h9 (by decide)).elim)
    refine lv_aload_n hx hb dX6_addStrip_50 rfl (lv_at hl 0 rfl) ?_
    refine lv_iconst (v := 2) hx hb dX6_addStrip_51 (by decide) ?_
    have hP9 := hP.sub (ws' := [oO mo 6 [.int 0, .ref a1, .int (nI nC), .ref a2, .ref a3, .ref a4, .ref a5, .ref a6, .ref a7, .ref a8, .ref a9, .int (nI nS), .ref a10, .int (nI nM), .ref a11]]) [0] rfl
    have hD9 := (hD.sub (ws' := [oO mo 6 [.int 0, .ref a1, .int (nI nC), .ref a2, .ref a3, .ref a4, .ref a5, .ref a6, .ref a7, .ref a8, .ref a9, .int (nI nS), .ref a10, .int (nI nM), .ref a11]]) [0] (by decide) rfl).weaken (B := fun _ => True) (fun _ _ _ _ => trivial)
    refine ki (wr := []) (rV (rest := []) (qc := (RX6, TX6, 15)) [.int 2] 1 0 0 hC (m_no l D (mo := mo) (x := 2) (th := 0) (a1 := a1) (nC := nC) (a2 := a2) (a3 := a3) (a4 := a4) (a5 := a5) (a6 := a6) (a7 := a7) (a8 := a8) (a9 := a9) (nS := nS) (a10 := a10) (nM := nM) (a11 := a11) (hz0 := H.size) ) rfl (hP 0 _ rfl) (gV mM_X6_66 mI_X6_no mS_X6_no mN_X6 mC_X6_no) (by decide +kernel) rfl rfl ⟨Nat.le_of_ble_eq_true rfl, Nat.le_of_ble_eq_true rfl⟩ hG hP9 hD9 rfl hl.1 rfl (Nat.le_of_ble_eq_true rfl) dX6_addStrip_52 ⟨Nat.le_of_ble_eq_true rfl, Nat.le_of_ble_eq_true rfl⟩) hP hD hS hA [0] [] rfl rfl (by decide) (by decide) (fun r52 u52 H locs h52 hP hD hS hz hfr => ?_)
    have hP : va_P D cls [oO mo 6 [.int 2, .ref a1, .int (nI nC), .ref a2, .ref a3, .ref a4, .ref a5, .ref a6, .ref a7, .ref a8, .ref a9, .int (nI nS), .ref a10, .int (nI nM), .ref a11]] H := hP
    have hD : va_D A [oO mo 6 [.int 2, .ref a1, .int (nI nC), .ref a2, .ref a3, .ref a4, .ref a5, .ref a6, .ref a7, .ref a8, .ref a9, .int (nI nS), .ref a10, .int (nI nM), .ref a11]] := hD
    obtain rfl : r52 = 0 := h52
    refine Wi () hx hb hr hlk ?_ hP hD hS (Nat.le_of_ble_eq_true rfl) (by first | exact Nat.le_of_ble_eq_true rfl | exact Nat.le_of_eq (Nat.zero_add _)) dX6_addStrip_55
    exact rfl
set_option maxHeartbeats 400000 in
set_option maxRecDepth 100000 in
theorem m_addStrip_3 (l : Launch) (D : va_G) {mo a1 a2 a3 a4 a5 a6 a7 a8 a9 a10 a11 nC nS nM : Nat} {th : Int32} {i : Nat} {x1 x2 x3 : Int32} (hz0 : Nat) (hn : nC ≤ 6) (hi : i < nC) (h : ((0 : Int32) ≤ x1 ∧ x1 ≤ 5000) ∧ ((1 : Int32) ≤ x2 ∧ x2 ≤ 9) ∧ ((0 : Int32) ≤ x3 ∧ x3 ≤ 2)) (hS9 : nS = 10) : Met l yX6_addStrip (ws_ yX6_addStrip cX6_addStrip 6 (some .int)) ({ frames := 2, cells := 0, slots := 0, locals := 54 } : Room) (va_Pc [.ref mo, .int (nI i), .int x1, .int x2, .int x3] (SW D [oO mo 6 [.int th, .ref a1, .int (nI nC), .ref a2, .ref a3, .ref a4, .ref a5, .ref a6, .ref a7, .ref a8, .ref a9, .int (nI nS), .ref a10, .int (nI nM), .ref a11]] hz0)) (va_Qi (fun v _ => v = 0) (AT D (va_A [oO mo 6 [.int th, .ref a1, .int (nI nC), .ref a2, .ref a3, .ref a4, .ref a5, .ref a6, .ref a7, .ref a8, .ref a9, .int (nI nS), .ref a10, .int (nI nM), .ref a11]] hz0) (fun _ : Unit => [oO mo 6 [.int 3, .ref a1, .int (nI nC), .ref a2, .ref a3, .ref a4, .ref a5, .ref a6, .ref a7, .ref a8, .ref a9, .int (nI nS), .ref a10, .int (nI nM), .ref a11]])) (va_A [oO mo 6 [.int th, .ref a1, .int (nI nC), .ref a2, .ref a3, .ref a4, .ref a5, .ref a6, .ref a7, .ref a8, .ref a9, .int (nI nS), .ref a10, .int (nI nM), .ref a11]] hz0)) 0 0 (va_A [oO mo 6 [.int th, .ref a1, .int (nI nC), .ref a2, .ref a3, .ref a4, .ref a5, .ref a6, .ref a7, .ref a8, .ref a9, .int (nI nS), .ref a10, .int (nI nM), .ref a11]] hz0) := by
  refine Met.ofW (cc := cX6_addStrip) (maxL := 6) (ret := (some .int)) (by decide) rfl ?_
  intro p e s m args below meth c s₁ B hml hv
  obtain ⟨rfl, hsz, hG, hP, hD0⟩ := hv
  have hx := B.exec
  have hb := B.bytes
  have hr := B.returns
  have hts : ∀ w ∈ wsL_law, w.before _ s = true := fun w h => atoms_spec (ws := (ws_ yX6_addStrip cX6_addStrip 6 (some .int))) B.pre w (List.mem_cons_of_mem _ h)
  have hown : s.vm.findClass RX6 = some m.cls := findClass_of_methodNamed B.named
  have hlk := B.notSynchronized
  have hC : CallFix p m c cX6_addStrip 6 s _ wsL_law RX6 := ⟨hx, hb, hml, hown, hts⟩
  subst hsz
  have hD := hD0.self (sz := s.heap.size)
  generalize hAe : va_A [oO mo 6 [.int th, .ref a1, .int (nI nC), .ref a2, .ref a3, .ref a4, .ref a5, .ref a6, .ref a7, .ref a8, .ref a9, .int (nI nS), .ref a10, .int (nI nM), .ref a11]] s.heap.size = A at hD ⊢
  have hA : ∀ q : Nat, s.heap.size ≤ q → A q := fun q h => by rw [← hAe]; exact Or.inr h
  have hS : va_S A s.heap s.heap [] := va_S.rf
  obtain ⟨H, hHe⟩ : ∃ H, H = s.heap := ⟨_, rfl⟩
  rw [← hHe] at hP
  have hS : va_S A s.heap H [] := by rw [hHe]; exact hS
  have hl := lv_entry ([.ref mo, .int (nI i), .int x1, .int x2, .int x3]) (n := 6) (Nat.le_of_ble_eq_true rfl)
  rw [lg_entry_eq]
  generalize (lg_sl ([.ref mo, .int (nI i), .int x1, .int x2, .int x3]) ++ List.replicate (6 - (lg_sl ([.ref mo, .int (nI i), .int x1, .int x2, .int x3])).length) Slot.unset).toArray = ls at hl ⊢
  have hl : lv_has ls 6 [(0, .ref mo), (1, .int (nI i)), (2, .int x1), (3, .int x2), (4, .int x3)] := hl
  rw [← hHe]
  refine lv_aload_n hx hb dX6_addStrip_0 rfl (lv_at hl 0 rfl) ?_
  refine lv_iconst (v := 0) hx hb dX6_addStrip_1 (by decide) ?_
  refine va_put (D := D) (ci := 6) (v := .int 0) (ty := .int) (C := RX6) (T := TX6) (N := 15) hx hb hts inlX6 tyX6 tyX6_ok nmX6 hown hG.K hP hD hS 0 rfl rfl 0 (by decide) (hts _ mF_X6_43) (fun _ h9 => h9) rfl (by decide +kernel) rfl rfl (Nat.le_of_ble_eq_true rfl) dX6_addStrip_2 (fun H locs hP hD hS => ?_)
  have hP : va_P D cls [oO mo 6 [.int 0, .ref a1, .int (nI nC), .ref a2, .ref a3, .ref a4, .ref a5, .ref a6, .ref a7, .ref a8, .ref a9, .int (nI nS), .ref a10, .int (nI nM), .ref a11]] H := hP
  have hD : va_D A [oO mo 6 [.int 0, .ref a1, .int (nI nC), .ref a2, .ref a3, .ref a4, .ref a5, .ref a6, .ref a7, .ref a8, .ref a9, .int (nI nS), .ref a10, .int (nI nM), .ref a11]] := hD
  refine lv_aload_n hx hb dX6_addStrip_5 rfl (lv_at hl 0 rfl) ?_
  refine lv_iload_n hx hb dX6_addStrip_6 rfl (lv_at hl 1 rfl) ?_
  have hP9 := hP
  refine vp_callSi (pV (rest := []) (qc := (RX6, TX6, 15)) [.int (nI i)] 1 hC (m_isClip l D (mo := mo) (i := i) (th := 0) (a1 := a1) (nC := nC) (a2 := a2) (a3 := a3) (a4 := a4) (a5 := a5) (a6 := a6) (a7 := a7) (a8 := a8) (a9 := a9) (nS := nS) (a10 := a10) (nM := nM) (a11 := a11) (by omega) (by omega)) rfl (hP 0 _ rfl) (gV mM_X6_54 mI_X6_isClip mS_X6_isClip mN_X6 mC_X6_isClip) (by decide +kernel) rfl rfl ⟨Nat.le_of_ble_eq_true rfl, Nat.le_of_ble_eq_true rfl⟩ hG hP9 rfl hl.1 rfl (Nat.le_of_ble_eq_true rfl) dX6_addStrip_7 ⟨Nat.le_of_ble_eq_true rfl, Nat.le_of_ble_eq_true rfl⟩) (fun r7 h7 => ?_)
  obtain rfl : r7 = 1 := h7
  refine lv_if_ne (tgt := 19) hx hb dX6_addStrip_10 (by decide) (fun _ => ?_) (fun h9 => absurd h9 (by decide))
  refine lv_iload_n hx hb dX6_addStrip_19 rfl (lv_at hl 2 rfl) ?_
  refine lv_iconst (v := 0) hx hb dX6_addStrip_20 (by decide) ?_
  refine lv_sipush (v := 5000) hx hb dX6_addStrip_21 (by decide) ?_
  have hP9 : va_P D cls [] H := fun k q h => by simp at h
  refine vp_callSi (pS (rest := []) [.int x1, .int 0, .int 5000] 3 hC (m_isIn l D (x := x1) (a := 0) (b := 5000) ) (gS mM_X6_50 mT_X6_isIn mN_X6 mC_X6_isIn) (by decide +kernel) rfl rfl ⟨Nat.le_of_ble_eq_true rfl, Nat.le_of_ble_eq_true rfl⟩ hG hP9 rfl hl.1 rfl (Nat.le_of_ble_eq_true rfl) dX6_addStrip_24 ⟨Nat.le_of_ble_eq_true rfl, Nat.le_of_ble_eq_true rfl⟩) (fun r24 h24 => ?_)
  rcases h24 with ⟨rfl, hb24⟩ | ⟨rfl, hb24⟩
  rotate_left
  · exact absurd (h.1) hb24
  refine lv_if_eq (tgt := 50) hx hb dX6_addStrip_27 (by decide) (fun h9 => absurd h9 (by decide)) (fun _ => ?_)
  refine lv_iload_n hx hb dX6_addStrip_30 rfl (lv_at hl 3 rfl) ?_
  refine lv_iconst (v := 1) hx hb dX6_addStrip_31 (by decide) ?_
  refine lv_bipush (v := 9) hx hb dX6_addStrip_32 (by decide) ?_
  have hP9 : va_P D cls [] H := fun k q h => by simp at h
  refine vp_callSi (pS (rest := []) [.int x2, .int 1, .int 9] 3 hC (m_isIn l D (x := x2) (a := 1) (b := 9) ) (gS mM_X6_50 mT_X6_isIn mN_X6 mC_X6_isIn) (by decide +kernel) rfl rfl ⟨Nat.le_of_ble_eq_true rfl, Nat.le_of_ble_eq_true rfl⟩ hG hP9 rfl hl.1 rfl (Nat.le_of_ble_eq_true rfl) dX6_addStrip_34 ⟨Nat.le_of_ble_eq_true rfl, Nat.le_of_ble_eq_true rfl⟩) (fun r34 h34 => ?_)
  rcases h34 with ⟨rfl, hb34⟩ | ⟨rfl, hb34⟩
  rotate_left
  · exact absurd (h.2.1) hb34
  refine lv_if_eq (tgt := 50) hx hb dX6_addStrip_37 (by decide) (fun h9 => absurd h9 (by decide)) (fun _ => ?_)
  refine lv_iload hx hb dX6_addStrip_40 (lv_at hl 4 rfl) ?_
  refine lv_iconst (v := 0) hx hb dX6_addStrip_42 (by decide) ?_
  refine lv_iconst (v := 2) hx hb dX6_addStrip_43 (by decide) ?_
  have hP9 : va_P D cls [] H := fun k q h => by simp at h
  refine vp_callSi (pS (rest := []) [.int x3, .int 0, .int 2] 3 hC (m_isIn l D (x := x3) (a := 0) (b := 2) ) (gS mM_X6_50 mT_X6_isIn mN_X6 mC_X6_isIn) (by decide +kernel) rfl rfl ⟨Nat.le_of_ble_eq_true rfl, Nat.le_of_ble_eq_true rfl⟩ hG hP9 rfl hl.1 rfl (Nat.le_of_ble_eq_true rfl) dX6_addStrip_44 ⟨Nat.le_of_ble_eq_true rfl, Nat.le_of_ble_eq_true rfl⟩) (fun r44 h44 => ?_)
  rcases h44 with ⟨rfl, hb44⟩ | ⟨rfl, hb44⟩
  rotate_left
  · exact absurd (h.2.2) hb44
  refine lv_if_ne (tgt := 56) hx hb dX6_addStrip_47 (by decide) (fun _ => ?_) (fun h9 => absurd h9 (by decide))
  refine lv_aload_n hx hb dX6_addStrip_56 rfl (lv_at hl 0 rfl) ?_
  refine va_get (D := D) (ci := 6) (v := .int (nI nS)) (C := RX6) (T := TX6) (N := 15) hx hb hts inlX6 hown hG.K hP 0 rfl rfl 11 (by decide) (hts _ mF_X6_108) (fun _ h9 => h9) rfl dX6_addStrip_57 ?_
  refine lv_bipush (v := 10) hx hb dX6_addStrip_60 (by decide) ?_
  refine lv_icmp_ne (tgt := 71) hx hb dX6_addStrip_62 (by decide) (fun h9 => absurd ((nI_eq (a := nS) (b := 10) (by omega) (by omega)).mpr (by omega)) h9) (fun _ => ?_)
  refine lv_aload_n hx hb dX6_addStrip_65 rfl (lv_at hl 0 rfl) ?_
  refine lv_iconst (v := 3) hx hb dX6_addStrip_66 (by decide) ?_
  have hP9 := hP.sub (ws' := [oO mo 6 [.int 0, .ref a1, .int (nI nC), .ref a2, .ref a3, .ref a4, .ref a5, .ref a6, .ref a7, .ref a8, .ref a9, .int (nI nS), .ref a10, .int (nI nM), .ref a11]]) [0] rfl
  have hD9 := (hD.sub (ws' := [oO mo 6 [.int 0, .ref a1, .int (nI nC), .ref a2, .ref a3, .ref a4, .ref a5, .ref a6, .ref a7, .ref a8, .ref a9, .int (nI nS), .ref a10, .int (nI nM), .ref a11]]) [0] (by decide) rfl).weaken (B := fun _ => True) (fun _ _ _ _ => trivial)
  refine ki (wr := []) (rV (rest := []) (qc := (RX6, TX6, 15)) [.int 3] 1 0 0 hC (m_no l D (mo := mo) (x := 3) (th := 0) (a1 := a1) (nC := nC) (a2 := a2) (a3 := a3) (a4 := a4) (a5 := a5) (a6 := a6) (a7 := a7) (a8 := a8) (a9 := a9) (nS := nS) (a10 := a10) (nM := nM) (a11 := a11) (hz0 := H.size) ) rfl (hP 0 _ rfl) (gV mM_X6_66 mI_X6_no mS_X6_no mN_X6 mC_X6_no) (by decide +kernel) rfl rfl ⟨Nat.le_of_ble_eq_true rfl, Nat.le_of_ble_eq_true rfl⟩ hG hP9 hD9 rfl hl.1 rfl (Nat.le_of_ble_eq_true rfl) dX6_addStrip_67 ⟨Nat.le_of_ble_eq_true rfl, Nat.le_of_ble_eq_true rfl⟩) hP hD hS hA [0] [] rfl rfl (by decide) (by decide) (fun r67 u67 H locs h67 hP hD hS hz hfr => ?_)
  have hP : va_P D cls [oO mo 6 [.int 3, .ref a1, .int (nI nC), .ref a2, .ref a3, .ref a4, .ref a5, .ref a6, .ref a7, .ref a8, .ref a9, .int (nI nS), .ref a10, .int (nI nM), .ref a11]] H := hP
  have hD : va_D A [oO mo 6 [.int 3, .ref a1, .int (nI nC), .ref a2, .ref a3, .ref a4, .ref a5, .ref a6, .ref a7, .ref a8, .ref a9, .int (nI nS), .ref a10, .int (nI nM), .ref a11]] := hD
  obtain rfl : r67 = 0 := h67
  refine Wi () hx hb hr hlk ?_ hP hD hS (Nat.le_of_ble_eq_true rfl) (by first | exact Nat.le_of_ble_eq_true rfl | exact Nat.le_of_eq (Nat.zero_add _)) dX6_addStrip_70
  exact rfl
set_option maxHeartbeats 400000 in
set_option maxRecDepth 100000 in
theorem m_addStrip (l : Launch) (D : va_G) {mo a1 a2 a3 a4 a5 a6 a7 a8 a9 a10 a11 nC nS nM : Nat} {th : Int32} {pa : Nat → Int32} {i : Nat} {x1 x2 x3 : Int32} (hz0 : Nat) (hn : nC ≤ 6) (hi : i < nC) (h : ((0 : Int32) ≤ x1 ∧ x1 ≤ 5000) ∧ ((1 : Int32) ≤ x2 ∧ x2 ≤ 9) ∧ ((0 : Int32) ≤ x3 ∧ x3 ≤ 2)) (hS9 : nS < 10) : Met l yX6_addStrip (ws_ yX6_addStrip cX6_addStrip 6 (some .int)) ({ frames := 2, cells := 1, slots := 13, locals := 54 } : Room) (va_Pc [.ref mo, .int (nI i), .int x1, .int x2, .int x3] (SW D [oO mo 6 [.int th, .ref a1, .int (nI nC), .ref a2, .ref a3, .ref a4, .ref a5, .ref a6, .ref a7, .ref a8, .ref a9, .int (nI nS), .ref a10, .int (nI nM), .ref a11], aI D a10 130 pa] hz0)) (va_Qi (fun v _ => v = nI nS) (AT D (va_A [oO mo 6 [.int th, .ref a1, .int (nI nC), .ref a2, .ref a3, .ref a4, .ref a5, .ref a6, .ref a7, .ref a8, .ref a9, .int (nI nS), .ref a10, .int (nI nM), .ref a11], aI D a10 130 pa] hz0) (fun _ : Unit => [oO mo 6 [.int 0, .ref a1, .int (nI nC), .ref a2, .ref a3, .ref a4, .ref a5, .ref a6, .ref a7, .ref a8, .ref a9, .int (nI (nS + 1)), .ref a10, .int (nI nM), .ref a11], aI D a10 130 (apF pa (13 * nS) (stP (nI i) x1 x2 x3))])) (va_A [oO mo 6 [.int th, .ref a1, .int (nI nC), .ref a2, .ref a3, .ref a4, .ref a5, .ref a6, .ref a7, .ref a8, .ref a9, .int (nI nS), .ref a10, .int (nI nM), .ref a11], aI D a10 130 pa] hz0)) 1 13 (va_A [oO mo 6 [.int th, .ref a1, .int (nI nC), .ref a2, .ref a3, .ref a4, .ref a5, .ref a6, .ref a7, .ref a8, .ref a9, .int (nI nS), .ref a10, .int (nI nM), .ref a11], aI D a10 130 pa] hz0) := by
  refine Met.ofW (cc := cX6_addStrip) (maxL := 6) (ret := (some .int)) (by decide) rfl ?_
  intro p e s m args below meth c s₁ B hml hv
  obtain ⟨rfl, hsz, hG, hP, hD0⟩ := hv
  have hx := B.exec
  have hb := B.bytes
  have hr := B.returns
  have hts : ∀ w ∈ wsL_law, w.before _ s = true := fun w h => atoms_spec (ws := (ws_ yX6_addStrip cX6_addStrip 6 (some .int))) B.pre w (List.mem_cons_of_mem _ h)
  have hown : s.vm.findClass RX6 = some m.cls := findClass_of_methodNamed B.named
  have hlk := B.notSynchronized
  have hC : CallFix p m c cX6_addStrip 6 s _ wsL_law RX6 := ⟨hx, hb, hml, hown, hts⟩
  subst hsz
  have hD := hD0.self (sz := s.heap.size)
  generalize hAe : va_A [oO mo 6 [.int th, .ref a1, .int (nI nC), .ref a2, .ref a3, .ref a4, .ref a5, .ref a6, .ref a7, .ref a8, .ref a9, .int (nI nS), .ref a10, .int (nI nM), .ref a11], aI D a10 130 pa] s.heap.size = A at hD ⊢
  have hA : ∀ q : Nat, s.heap.size ≤ q → A q := fun q h => by rw [← hAe]; exact Or.inr h
  have hS : va_S A s.heap s.heap [] := va_S.rf
  obtain ⟨H, hHe⟩ : ∃ H, H = s.heap := ⟨_, rfl⟩
  rw [← hHe] at hP
  have hS : va_S A s.heap H [] := by rw [hHe]; exact hS
  have hl := lv_entry ([.ref mo, .int (nI i), .int x1, .int x2, .int x3]) (n := 6) (Nat.le_of_ble_eq_true rfl)
  rw [lg_entry_eq]
  generalize (lg_sl ([.ref mo, .int (nI i), .int x1, .int x2, .int x3]) ++ List.replicate (6 - (lg_sl ([.ref mo, .int (nI i), .int x1, .int x2, .int x3])).length) Slot.unset).toArray = ls at hl ⊢
  have hl : lv_has ls 6 [(0, .ref mo), (1, .int (nI i)), (2, .int x1), (3, .int x2), (4, .int x3)] := hl
  rw [← hHe]
  refine lv_aload_n hx hb dX6_addStrip_0 rfl (lv_at hl 0 rfl) ?_
  refine lv_iconst (v := 0) hx hb dX6_addStrip_1 (by decide) ?_
  refine va_put (D := D) (ci := 6) (v := .int 0) (ty := .int) (C := RX6) (T := TX6) (N := 15) hx hb hts inlX6 tyX6 tyX6_ok nmX6 hown hG.K hP hD hS 0 rfl rfl 0 (by decide) (hts _ mF_X6_43) (fun _ h9 => h9) rfl (by decide +kernel) rfl rfl (Nat.le_of_ble_eq_true rfl) dX6_addStrip_2 (fun H locs hP hD hS => ?_)
  have hP : va_P D cls [oO mo 6 [.int 0, .ref a1, .int (nI nC), .ref a2, .ref a3, .ref a4, .ref a5, .ref a6, .ref a7, .ref a8, .ref a9, .int (nI nS), .ref a10, .int (nI nM), .ref a11], aI D a10 130 pa] H := hP
  have hD : va_D A [oO mo 6 [.int 0, .ref a1, .int (nI nC), .ref a2, .ref a3, .ref a4, .ref a5, .ref a6, .ref a7, .ref a8, .ref a9, .int (nI nS), .ref a10, .int (nI nM), .ref a11], aI D a10 130 pa] := hD
  refine lv_aload_n hx hb dX6_addStrip_5 rfl (lv_at hl 0 rfl) ?_
  refine lv_iload_n hx hb dX6_addStrip_6 rfl (lv_at hl 1 rfl) ?_
  have hP9 := hP.sub (ws' := [oO mo 6 [.int 0, .ref a1, .int (nI nC), .ref a2, .ref a3, .ref a4, .ref a5, .ref a6, .ref a7, .ref a8, .ref a9, .int (nI nS), .ref a10, .int (nI nM), .ref a11]]) [0] rfl
  refine vp_callSi (pV (rest := []) (qc := (RX6, TX6, 15)) [.int (nI i)] 1 hC (m_isClip l D (mo := mo) (i := i) (th := 0) (a1 := a1) (nC := nC) (a2 := a2) (a3 := a3) (a4 := a4) (a5 := a5) (a6 := a6) (a7 := a7) (a8 := a8) (a9 := a9) (nS := nS) (a10 := a10) (nM := nM) (a11 := a11) (by omega) (by omega)) rfl (hP 0 _ rfl) (gV mM_X6_54 mI_X6_isClip mS_X6_isClip mN_X6 mC_X6_isClip) (by decide +kernel) rfl rfl ⟨Nat.le_of_ble_eq_true rfl, Nat.le_of_ble_eq_true rfl⟩ hG hP9 rfl hl.1 rfl (Nat.le_of_ble_eq_true rfl) dX6_addStrip_7 ⟨Nat.le_of_ble_eq_true rfl, Nat.le_of_ble_eq_true rfl⟩) (fun r7 h7 => ?_)
  obtain rfl : r7 = 1 := h7
  refine lv_if_ne (tgt := 19) hx hb dX6_addStrip_10 (by decide) (fun _ => ?_) (fun h9 => absurd h9 (by decide))
  refine lv_iload_n hx hb dX6_addStrip_19 rfl (lv_at hl 2 rfl) ?_
  refine lv_iconst (v := 0) hx hb dX6_addStrip_20 (by decide) ?_
  refine lv_sipush (v := 5000) hx hb dX6_addStrip_21 (by decide) ?_
  have hP9 : va_P D cls [] H := fun k q h => by simp at h
  refine vp_callSi (pS (rest := []) [.int x1, .int 0, .int 5000] 3 hC (m_isIn l D (x := x1) (a := 0) (b := 5000) ) (gS mM_X6_50 mT_X6_isIn mN_X6 mC_X6_isIn) (by decide +kernel) rfl rfl ⟨Nat.le_of_ble_eq_true rfl, Nat.le_of_ble_eq_true rfl⟩ hG hP9 rfl hl.1 rfl (Nat.le_of_ble_eq_true rfl) dX6_addStrip_24 ⟨Nat.le_of_ble_eq_true rfl, Nat.le_of_ble_eq_true rfl⟩) (fun r24 h24 => ?_)
  rcases h24 with ⟨rfl, hb24⟩ | ⟨rfl, hb24⟩
  rotate_left
  · exact absurd (h.1) hb24
  refine lv_if_eq (tgt := 50) hx hb dX6_addStrip_27 (by decide) (fun h9 => absurd h9 (by decide)) (fun _ => ?_)
  refine lv_iload_n hx hb dX6_addStrip_30 rfl (lv_at hl 3 rfl) ?_
  refine lv_iconst (v := 1) hx hb dX6_addStrip_31 (by decide) ?_
  refine lv_bipush (v := 9) hx hb dX6_addStrip_32 (by decide) ?_
  have hP9 : va_P D cls [] H := fun k q h => by simp at h
  refine vp_callSi (pS (rest := []) [.int x2, .int 1, .int 9] 3 hC (m_isIn l D (x := x2) (a := 1) (b := 9) ) (gS mM_X6_50 mT_X6_isIn mN_X6 mC_X6_isIn) (by decide +kernel) rfl rfl ⟨Nat.le_of_ble_eq_true rfl, Nat.le_of_ble_eq_true rfl⟩ hG hP9 rfl hl.1 rfl (Nat.le_of_ble_eq_true rfl) dX6_addStrip_34 ⟨Nat.le_of_ble_eq_true rfl, Nat.le_of_ble_eq_true rfl⟩) (fun r34 h34 => ?_)
  rcases h34 with ⟨rfl, hb34⟩ | ⟨rfl, hb34⟩
  rotate_left
  · exact absurd (h.2.1) hb34
  refine lv_if_eq (tgt := 50) hx hb dX6_addStrip_37 (by decide) (fun h9 => absurd h9 (by decide)) (fun _ => ?_)
  refine lv_iload hx hb dX6_addStrip_40 (lv_at hl 4 rfl) ?_
  refine lv_iconst (v := 0) hx hb dX6_addStrip_42 (by decide) ?_
  refine lv_iconst (v := 2) hx hb dX6_addStrip_43 (by decide) ?_
  have hP9 : va_P D cls [] H := fun k q h => by simp at h
  refine vp_callSi (pS (rest := []) [.int x3, .int 0, .int 2] 3 hC (m_isIn l D (x := x3) (a := 0) (b := 2) ) (gS mM_X6_50 mT_X6_isIn mN_X6 mC_X6_isIn) (by decide +kernel) rfl rfl ⟨Nat.le_of_ble_eq_true rfl, Nat.le_of_ble_eq_true rfl⟩ hG hP9 rfl hl.1 rfl (Nat.le_of_ble_eq_true rfl) dX6_addStrip_44 ⟨Nat.le_of_ble_eq_true rfl, Nat.le_of_ble_eq_true rfl⟩) (fun r44 h44 => ?_)
  rcases h44 with ⟨rfl, hb44⟩ | ⟨rfl, hb44⟩
  rotate_left
  · exact absurd (h.2.2) hb44
  refine lv_if_ne (tgt := 56) hx hb dX6_addStrip_47 (by decide) (fun _ => ?_) (fun h9 => absurd h9 (by decide))
  refine lv_aload_n hx hb dX6_addStrip_56 rfl (lv_at hl 0 rfl) ?_
  refine va_get (D := D) (ci := 6) (v := .int (nI nS)) (C := RX6) (T := TX6) (N := 15) hx hb hts inlX6 hown hG.K hP 0 rfl rfl 11 (by decide) (hts _ mF_X6_108) (fun _ h9 => h9) rfl dX6_addStrip_57 ?_
  refine lv_bipush (v := 10) hx hb dX6_addStrip_60 (by decide) ?_
  refine lv_icmp_ne (tgt := 71) hx hb dX6_addStrip_62 (by decide) (fun _ => ?_) (fun h9 => absurd ((nI_eq (a := nS) (b := 10) (by omega) (by omega)).mp h9) (by omega))
  refine lv_bipush (v := 13) hx hb dX6_addStrip_71 (by decide) ?_
  refine narI (N := 13) hx hb hG hts hP hD hS hA (by decide) (by decide) (by omega) (Nat.le_of_ble_eq_true rfl) (by first | exact Nat.le_of_ble_eq_true rfl | exact Nat.le_of_eq (Nat.zero_add _)) dX6_addStrip_73 (fun ow H hP hD hS => ?_)
  have hP : va_P D cls [oO mo 6 [.int 0, .ref a1, .int (nI nC), .ref a2, .ref a3, .ref a4, .ref a5, .ref a6, .ref a7, .ref a8, .ref a9, .int (nI nS), .ref a10, .int (nI nM), .ref a11], aI D a10 130 pa, aI D ow 13 (fun _ => 0)] H := hP
  have hD : va_D A [oO mo 6 [.int 0, .ref a1, .int (nI nC), .ref a2, .ref a3, .ref a4, .ref a5, .ref a6, .ref a7, .ref a8, .ref a9, .int (nI nS), .ref a10, .int (nI nM), .ref a11], aI D a10 130 pa, aI D ow 13 (fun _ => 0)] := hD
  refine lv_dup hx hb dX6_addStrip_75 rfl ?_
  refine lv_iconst (v := 0) hx hb dX6_addStrip_76 (by decide) ?_
  refine lv_iload_n hx hb dX6_addStrip_77 rfl (lv_at hl 1 rfl) ?_
  refine ist (n := 13) (j := 0) hx hb hG hP hD hS 2 rfl (by omega) (by omega) dX6_addStrip_78 (fun H locs hP hD hS => ?_)
  have hP : va_P D cls [oO mo 6 [.int 0, .ref a1, .int (nI nC), .ref a2, .ref a3, .ref a4, .ref a5, .ref a6, .ref a7, .ref a8, .ref a9, .int (nI nS), .ref a10, .int (nI nM), .ref a11], aI D a10 130 pa, aI D ow 13 (upd (fun _ => 0) 0 (nI i))] H := hP
  have hD : va_D A [oO mo 6 [.int 0, .ref a1, .int (nI nC), .ref a2, .ref a3, .ref a4, .ref a5, .ref a6, .ref a7, .ref a8, .ref a9, .int (nI nS), .ref a10, .int (nI nM), .ref a11], aI D a10 130 pa, aI D ow 13 (upd (fun _ => 0) 0 (nI i))] := hD
  refine lv_dup hx hb dX6_addStrip_79 rfl ?_
  refine lv_iconst (v := 1) hx hb dX6_addStrip_80 (by decide) ?_
  refine lv_iload_n hx hb dX6_addStrip_81 rfl (lv_at hl 2 rfl) ?_
  refine ist (n := 13) (j := 1) hx hb hG hP hD hS 2 rfl (by omega) (by omega) dX6_addStrip_82 (fun H locs hP hD hS => ?_)
  have hP : va_P D cls [oO mo 6 [.int 0, .ref a1, .int (nI nC), .ref a2, .ref a3, .ref a4, .ref a5, .ref a6, .ref a7, .ref a8, .ref a9, .int (nI nS), .ref a10, .int (nI nM), .ref a11], aI D a10 130 pa, aI D ow 13 (upd (upd (fun _ => 0) 0 (nI i)) 1 x1)] H := hP
  have hD : va_D A [oO mo 6 [.int 0, .ref a1, .int (nI nC), .ref a2, .ref a3, .ref a4, .ref a5, .ref a6, .ref a7, .ref a8, .ref a9, .int (nI nS), .ref a10, .int (nI nM), .ref a11], aI D a10 130 pa, aI D ow 13 (upd (upd (fun _ => 0) 0 (nI i)) 1 x1)] := hD
  refine lv_dup hx hb dX6_addStrip_83 rfl ?_
  refine lv_iconst (v := 2) hx hb dX6_addStrip_84 (by decide) ?_
  refine lv_iconst (v := 0) hx hb dX6_addStrip_85 (by decide) ?_
  refine ist (n := 13) (j := 2) hx hb hG hP hD hS 2 rfl (by omega) (by omega) dX6_addStrip_86 (fun H locs hP hD hS => ?_)
  have hP : va_P D cls [oO mo 6 [.int 0, .ref a1, .int (nI nC), .ref a2, .ref a3, .ref a4, .ref a5, .ref a6, .ref a7, .ref a8, .ref a9, .int (nI nS), .ref a10, .int (nI nM), .ref a11], aI D a10 130 pa, aI D ow 13 (upd (upd (upd (fun _ => 0) 0 (nI i)) 1 x1) 2 0)] H := hP
  have hD : va_D A [oO mo 6 [.int 0, .ref a1, .int (nI nC), .ref a2, .ref a3, .ref a4, .ref a5, .ref a6, .ref a7, .ref a8, .ref a9, .int (nI nS), .ref a10, .int (nI nM), .ref a11], aI D a10 130 pa, aI D ow 13 (upd (upd (upd (fun _ => 0) 0 (nI i)) 1 x1) 2 0)] := hD
  refine lv_dup hx hb dX6_addStrip_87 rfl ?_
  refine lv_iconst (v := 3) hx hb dX6_addStrip_88 (by decide) ?_
  refine lv_iload_n hx hb dX6_addStrip_89 rfl (lv_at hl 3 rfl) ?_
  refine ist (n := 13) (j := 3) hx hb hG hP hD hS 2 rfl (by omega) (by omega) dX6_addStrip_90 (fun H locs hP hD hS => ?_)
  have hP : va_P D cls [oO mo 6 [.int 0, .ref a1, .int (nI nC), .ref a2, .ref a3, .ref a4, .ref a5, .ref a6, .ref a7, .ref a8, .ref a9, .int (nI nS), .ref a10, .int (nI nM), .ref a11], aI D a10 130 pa, aI D ow 13 (upd (upd (upd (upd (fun _ => 0) 0 (nI i)) 1 x1) 2 0) 3 x2)] H := hP
  have hD : va_D A [oO mo 6 [.int 0, .ref a1, .int (nI nC), .ref a2, .ref a3, .ref a4, .ref a5, .ref a6, .ref a7, .ref a8, .ref a9, .int (nI nS), .ref a10, .int (nI nM), .ref a11], aI D a10 130 pa, aI D ow 13 (upd (upd (upd (upd (fun _ => 0) 0 (nI i)) 1 x1) 2 0) 3 x2)] := hD
  refine lv_dup hx hb dX6_addStrip_91 rfl ?_
  refine lv_iconst (v := 4) hx hb dX6_addStrip_92 (by decide) ?_
  refine lv_iload hx hb dX6_addStrip_93 (lv_at hl 4 rfl) ?_
  refine ist (n := 13) (j := 4) hx hb hG hP hD hS 2 rfl (by omega) (by omega) dX6_addStrip_95 (fun H locs hP hD hS => ?_)
  have hP : va_P D cls [oO mo 6 [.int 0, .ref a1, .int (nI nC), .ref a2, .ref a3, .ref a4, .ref a5, .ref a6, .ref a7, .ref a8, .ref a9, .int (nI nS), .ref a10, .int (nI nM), .ref a11], aI D a10 130 pa, aI D ow 13 (upd (upd (upd (upd (upd (fun _ => 0) 0 (nI i)) 1 x1) 2 0) 3 x2) 4 x3)] H := hP
  have hD : va_D A [oO mo 6 [.int 0, .ref a1, .int (nI nC), .ref a2, .ref a3, .ref a4, .ref a5, .ref a6, .ref a7, .ref a8, .ref a9, .int (nI nS), .ref a10, .int (nI nM), .ref a11], aI D a10 130 pa, aI D ow 13 (upd (upd (upd (upd (upd (fun _ => 0) 0 (nI i)) 1 x1) 2 0) 3 x2) 4 x3)] := hD
  refine lv_dup hx hb dX6_addStrip_96 rfl ?_
  refine lv_iconst (v := 5) hx hb dX6_addStrip_97 (by decide) ?_
  refine lv_iconst (v := 1) hx hb dX6_addStrip_98 (by decide) ?_
  refine ist (n := 13) (j := 5) hx hb hG hP hD hS 2 rfl (by omega) (by omega) dX6_addStrip_99 (fun H locs hP hD hS => ?_)
  have hP : va_P D cls [oO mo 6 [.int 0, .ref a1, .int (nI nC), .ref a2, .ref a3, .ref a4, .ref a5, .ref a6, .ref a7, .ref a8, .ref a9, .int (nI nS), .ref a10, .int (nI nM), .ref a11], aI D a10 130 pa, aI D ow 13 (upd (upd (upd (upd (upd (upd (fun _ => 0) 0 (nI i)) 1 x1) 2 0) 3 x2) 4 x3) 5 1)] H := hP
  have hD : va_D A [oO mo 6 [.int 0, .ref a1, .int (nI nC), .ref a2, .ref a3, .ref a4, .ref a5, .ref a6, .ref a7, .ref a8, .ref a9, .int (nI nS), .ref a10, .int (nI nM), .ref a11], aI D a10 130 pa, aI D ow 13 (upd (upd (upd (upd (upd (upd (fun _ => 0) 0 (nI i)) 1 x1) 2 0) 3 x2) 4 x3) 5 1)] := hD
  refine lv_dup hx hb dX6_addStrip_100 rfl ?_
  refine lv_bipush (v := 6) hx hb dX6_addStrip_101 (by decide) ?_
  refine lv_iconst (v := 1) hx hb dX6_addStrip_103 (by decide) ?_
  refine ist (n := 13) (j := 6) hx hb hG hP hD hS 2 rfl (by omega) (by omega) dX6_addStrip_104 (fun H locs hP hD hS => ?_)
  have hP : va_P D cls [oO mo 6 [.int 0, .ref a1, .int (nI nC), .ref a2, .ref a3, .ref a4, .ref a5, .ref a6, .ref a7, .ref a8, .ref a9, .int (nI nS), .ref a10, .int (nI nM), .ref a11], aI D a10 130 pa, aI D ow 13 (upd (upd (upd (upd (upd (upd (upd (fun _ => 0) 0 (nI i)) 1 x1) 2 0) 3 x2) 4 x3) 5 1) 6 1)] H := hP
  have hD : va_D A [oO mo 6 [.int 0, .ref a1, .int (nI nC), .ref a2, .ref a3, .ref a4, .ref a5, .ref a6, .ref a7, .ref a8, .ref a9, .int (nI nS), .ref a10, .int (nI nM), .ref a11], aI D a10 130 pa, aI D ow 13 (upd (upd (upd (upd (upd (upd (upd (fun _ => 0) 0 (nI i)) 1 x1) 2 0) 3 x2) 4 x3) 5 1) 6 1)] := hD
  refine lv_dup hx hb dX6_addStrip_105 rfl ?_
  refine lv_bipush (v := 7) hx hb dX6_addStrip_106 (by decide) ?_
  refine lv_iconst (v := 0) hx hb dX6_addStrip_108 (by decide) ?_
  refine ist (n := 13) (j := 7) hx hb hG hP hD hS 2 rfl (by omega) (by omega) dX6_addStrip_109 (fun H locs hP hD hS => ?_)
  have hP : va_P D cls [oO mo 6 [.int 0, .ref a1, .int (nI nC), .ref a2, .ref a3, .ref a4, .ref a5, .ref a6, .ref a7, .ref a8, .ref a9, .int (nI nS), .ref a10, .int (nI nM), .ref a11], aI D a10 130 pa, aI D ow 13 (upd (upd (upd (upd (upd (upd (upd (upd (fun _ => 0) 0 (nI i)) 1 x1) 2 0) 3 x2) 4 x3) 5 1) 6 1) 7 0)] H := hP
  have hD : va_D A [oO mo 6 [.int 0, .ref a1, .int (nI nC), .ref a2, .ref a3, .ref a4, .ref a5, .ref a6, .ref a7, .ref a8, .ref a9, .int (nI nS), .ref a10, .int (nI nM), .ref a11], aI D a10 130 pa, aI D ow 13 (upd (upd (upd (upd (upd (upd (upd (upd (fun _ => 0) 0 (nI i)) 1 x1) 2 0) 3 x2) 4 x3) 5 1) 6 1) 7 0)] := hD
  refine lv_dup hx hb dX6_addStrip_110 rfl ?_
  refine lv_bipush (v := 8) hx hb dX6_addStrip_111 (by decide) ?_
  refine lv_bipush (v := 100) hx hb dX6_addStrip_113 (by decide) ?_
  refine ist (n := 13) (j := 8) hx hb hG hP hD hS 2 rfl (by omega) (by omega) dX6_addStrip_115 (fun H locs hP hD hS => ?_)
  have hP : va_P D cls [oO mo 6 [.int 0, .ref a1, .int (nI nC), .ref a2, .ref a3, .ref a4, .ref a5, .ref a6, .ref a7, .ref a8, .ref a9, .int (nI nS), .ref a10, .int (nI nM), .ref a11], aI D a10 130 pa, aI D ow 13 (upd (upd (upd (upd (upd (upd (upd (upd (upd (fun _ => 0) 0 (nI i)) 1 x1) 2 0) 3 x2) 4 x3) 5 1) 6 1) 7 0) 8 100)] H := hP
  have hD : va_D A [oO mo 6 [.int 0, .ref a1, .int (nI nC), .ref a2, .ref a3, .ref a4, .ref a5, .ref a6, .ref a7, .ref a8, .ref a9, .int (nI nS), .ref a10, .int (nI nM), .ref a11], aI D a10 130 pa, aI D ow 13 (upd (upd (upd (upd (upd (upd (upd (upd (upd (fun _ => 0) 0 (nI i)) 1 x1) 2 0) 3 x2) 4 x3) 5 1) 6 1) 7 0) 8 100)] := hD
  refine lv_dup hx hb dX6_addStrip_116 rfl ?_
  refine lv_bipush (v := 9) hx hb dX6_addStrip_117 (by decide) ?_
  refine lv_iconst (v := 0) hx hb dX6_addStrip_119 (by decide) ?_
  refine ist (n := 13) (j := 9) hx hb hG hP hD hS 2 rfl (by omega) (by omega) dX6_addStrip_120 (fun H locs hP hD hS => ?_)
  have hP : va_P D cls [oO mo 6 [.int 0, .ref a1, .int (nI nC), .ref a2, .ref a3, .ref a4, .ref a5, .ref a6, .ref a7, .ref a8, .ref a9, .int (nI nS), .ref a10, .int (nI nM), .ref a11], aI D a10 130 pa, aI D ow 13 (upd (upd (upd (upd (upd (upd (upd (upd (upd (upd (fun _ => 0) 0 (nI i)) 1 x1) 2 0) 3 x2) 4 x3) 5 1) 6 1) 7 0) 8 100) 9 0)] H := hP
  have hD : va_D A [oO mo 6 [.int 0, .ref a1, .int (nI nC), .ref a2, .ref a3, .ref a4, .ref a5, .ref a6, .ref a7, .ref a8, .ref a9, .int (nI nS), .ref a10, .int (nI nM), .ref a11], aI D a10 130 pa, aI D ow 13 (upd (upd (upd (upd (upd (upd (upd (upd (upd (upd (fun _ => 0) 0 (nI i)) 1 x1) 2 0) 3 x2) 4 x3) 5 1) 6 1) 7 0) 8 100) 9 0)] := hD
  refine lv_dup hx hb dX6_addStrip_121 rfl ?_
  refine lv_bipush (v := 10) hx hb dX6_addStrip_122 (by decide) ?_
  refine lv_iconst (v := 0) hx hb dX6_addStrip_124 (by decide) ?_
  refine ist (n := 13) (j := 10) hx hb hG hP hD hS 2 rfl (by omega) (by omega) dX6_addStrip_125 (fun H locs hP hD hS => ?_)
  have hP : va_P D cls [oO mo 6 [.int 0, .ref a1, .int (nI nC), .ref a2, .ref a3, .ref a4, .ref a5, .ref a6, .ref a7, .ref a8, .ref a9, .int (nI nS), .ref a10, .int (nI nM), .ref a11], aI D a10 130 pa, aI D ow 13 (upd (upd (upd (upd (upd (upd (upd (upd (upd (upd (upd (fun _ => 0) 0 (nI i)) 1 x1) 2 0) 3 x2) 4 x3) 5 1) 6 1) 7 0) 8 100) 9 0) 10 0)] H := hP
  have hD : va_D A [oO mo 6 [.int 0, .ref a1, .int (nI nC), .ref a2, .ref a3, .ref a4, .ref a5, .ref a6, .ref a7, .ref a8, .ref a9, .int (nI nS), .ref a10, .int (nI nM), .ref a11], aI D a10 130 pa, aI D ow 13 (upd (upd (upd (upd (upd (upd (upd (upd (upd (upd (upd (fun _ => 0) 0 (nI i)) 1 x1) 2 0) 3 x2) 4 x3) 5 1) 6 1) 7 0) 8 100) 9 0) 10 0)] := hD
  refine lv_dup hx hb dX6_addStrip_126 rfl ?_
  refine lv_bipush (v := 11) hx hb dX6_addStrip_127 (by decide) ?_
  refine lv_iconst (v := 0) hx hb dX6_addStrip_129 (by decide) ?_
  refine ist (n := 13) (j := 11) hx hb hG hP hD hS 2 rfl (by omega) (by omega) dX6_addStrip_130 (fun H locs hP hD hS => ?_)
  have hP : va_P D cls [oO mo 6 [.int 0, .ref a1, .int (nI nC), .ref a2, .ref a3, .ref a4, .ref a5, .ref a6, .ref a7, .ref a8, .ref a9, .int (nI nS), .ref a10, .int (nI nM), .ref a11], aI D a10 130 pa, aI D ow 13 (upd (upd (upd (upd (upd (upd (upd (upd (upd (upd (upd (upd (fun _ => 0) 0 (nI i)) 1 x1) 2 0) 3 x2) 4 x3) 5 1) 6 1) 7 0) 8 100) 9 0) 10 0) 11 0)] H := hP
  have hD : va_D A [oO mo 6 [.int 0, .ref a1, .int (nI nC), .ref a2, .ref a3, .ref a4, .ref a5, .ref a6, .ref a7, .ref a8, .ref a9, .int (nI nS), .ref a10, .int (nI nM), .ref a11], aI D a10 130 pa, aI D ow 13 (upd (upd (upd (upd (upd (upd (upd (upd (upd (upd (upd (upd (fun _ => 0) 0 (nI i)) 1 x1) 2 0) 3 x2) 4 x3) 5 1) 6 1) 7 0) 8 100) 9 0) 10 0) 11 0)] := hD
  refine lv_dup hx hb dX6_addStrip_131 rfl ?_
  refine lv_bipush (v := 12) hx hb dX6_addStrip_132 (by decide) ?_
  refine lv_iconst (v := 0) hx hb dX6_addStrip_134 (by decide) ?_
  refine ist (n := 13) (j := 12) hx hb hG hP hD hS 2 rfl (by omega) (by omega) dX6_addStrip_135 (fun H locs hP hD hS => ?_)
  have hP : va_P D cls [oO mo 6 [.int 0, .ref a1, .int (nI nC), .ref a2, .ref a3, .ref a4, .ref a5, .ref a6, .ref a7, .ref a8, .ref a9, .int (nI nS), .ref a10, .int (nI nM), .ref a11], aI D a10 130 pa, aI D ow 13 (upd (upd (upd (upd (upd (upd (upd (upd (upd (upd (upd (upd (upd (fun _ => 0) 0 (nI i)) 1 x1) 2 0) 3 x2) 4 x3) 5 1) 6 1) 7 0) 8 100) 9 0) 10 0) 11 0) 12 0)] H := hP
  have hD : va_D A [oO mo 6 [.int 0, .ref a1, .int (nI nC), .ref a2, .ref a3, .ref a4, .ref a5, .ref a6, .ref a7, .ref a8, .ref a9, .int (nI nS), .ref a10, .int (nI nM), .ref a11], aI D a10 130 pa, aI D ow 13 (upd (upd (upd (upd (upd (upd (upd (upd (upd (upd (upd (upd (upd (fun _ => 0) 0 (nI i)) 1 x1) 2 0) 3 x2) 4 x3) 5 1) 6 1) 7 0) 8 100) 9 0) 10 0) 11 0) 12 0)] := hD
  refine lv_astore (lv' := [(5, .ref ow), (0, .ref mo), (1, .int (nI i)), (2, .int x1), (3, .int x2), (4, .int x3)]) hx hb dX6_addStrip_136 hl (by decide) rfl (fun ls hl => ?_)
  refine lv_aload hx hb dX6_addStrip_138 (lv_at hl 0 rfl) ?_
  refine lv_iconst (v := 0) hx hb dX6_addStrip_140 (by decide) ?_
  refine lv_aload_n hx hb dX6_addStrip_141 rfl (lv_at hl 1 rfl) ?_
  refine va_get (D := D) (ci := 6) (v := .ref a10) (C := RX6) (T := TX6) (N := 15) hx hb hts inlX6 hown hG.K hP 0 rfl rfl 12 (by decide) (hts _ mF_X6_37) (fun _ h9 => h9) rfl dX6_addStrip_142 ?_
  refine lv_bipush (v := 13) hx hb dX6_addStrip_145 (by decide) ?_
  refine lv_aload_n hx hb dX6_addStrip_147 rfl (lv_at hl 1 rfl) ?_
  refine va_get (D := D) (ci := 6) (v := .int (nI nS)) (C := RX6) (T := TX6) (N := 15) hx hb hts inlX6 hown hG.K hP 0 rfl rfl 11 (by decide) (hts _ mF_X6_108) (fun _ h9 => h9) rfl dX6_addStrip_148 ?_
  refine lv_imul hx hb dX6_addStrip_151 ?_
  refine tpi (y := nI (13 * nS)) (pk_mul 13 nS) ?_
  refine lv_bipush (v := 13) hx hb dX6_addStrip_152 (by decide) ?_
  refine cpi (n0 := 13) (n1 := 130) (sp := 0) (dp := 13 * nS) (n := 13) hx hb (by rw [hml]; exact hl.1.symm) hown (hts _ mM_X6_111) hts hG hP hD hS 2 1 rfl rfl (by omega) (by omega) (by omega) (by omega) (by omega) (Nat.le_of_ble_eq_true rfl) (Nat.le_of_ble_eq_true rfl) dX6_addStrip_154 (fun H locs hP hD hS => ?_)
  have hfn : va_cpy (upd (upd (upd (upd (upd (upd (upd (upd (upd (upd (upd (upd (upd (fun _ => 0) 0 (nI i)) 1 x1) 2 0) 3 x2) 4 x3) 5 1) 6 1) 7 0) 8 100) 9 0) 10 0) 11 0) 12 0) pa 0 (13 * nS) 13 = (apF pa (13 * nS) (stP (nI i) x1 x2 x3)) := own_cpy _ _ _ _ _ _
  have hP : va_P D cls [oO mo 6 [.int 0, .ref a1, .int (nI nC), .ref a2, .ref a3, .ref a4, .ref a5, .ref a6, .ref a7, .ref a8, .ref a9, .int (nI nS), .ref a10, .int (nI nM), .ref a11], aI D a10 130 (apF pa (13 * nS) (stP (nI i) x1 x2 x3)), aI D ow 13 (upd (upd (upd (upd (upd (upd (upd (upd (upd (upd (upd (upd (upd (fun _ => 0) 0 (nI i)) 1 x1) 2 0) 3 x2) 4 x3) 5 1) 6 1) 7 0) 8 100) 9 0) 10 0) 11 0) 12 0)] H := by rw [← hfn]; exact hP
  have hD : va_D A [oO mo 6 [.int 0, .ref a1, .int (nI nC), .ref a2, .ref a3, .ref a4, .ref a5, .ref a6, .ref a7, .ref a8, .ref a9, .int (nI nS), .ref a10, .int (nI nM), .ref a11], aI D a10 130 (apF pa (13 * nS) (stP (nI i) x1 x2 x3)), aI D ow 13 (upd (upd (upd (upd (upd (upd (upd (upd (upd (upd (upd (upd (upd (fun _ => 0) 0 (nI i)) 1 x1) 2 0) 3 x2) 4 x3) 5 1) 6 1) 7 0) 8 100) 9 0) 10 0) 11 0) 12 0)] := by rw [← hfn]; exact hD
  refine lv_aload_n hx hb dX6_addStrip_157 rfl (lv_at hl 1 rfl) ?_
  refine lv_dup hx hb dX6_addStrip_158 rfl ?_
  refine va_get (D := D) (ci := 6) (v := .int (nI nS)) (C := RX6) (T := TX6) (N := 15) hx hb hts inlX6 hown hG.K hP 0 rfl rfl 11 (by decide) (hts _ mF_X6_108) (fun _ h9 => h9) rfl dX6_addStrip_159 ?_
  refine lv_iconst (v := 1) hx hb dX6_addStrip_162 (by decide) ?_
  refine lv_iadd hx hb dX6_addStrip_163 ?_
  refine tpi (y := nI (nS + 1)) (nI_add nS 1) ?_
  refine va_put (D := D) (ci := 6) (v := .int (nI (nS + 1))) (ty := .int) (C := RX6) (T := TX6) (N := 15) hx hb hts inlX6 tyX6 tyX6_ok nmX6 hown hG.K hP hD hS 0 rfl rfl 11 (by decide) (hts _ mF_X6_108) (fun _ h9 => h9) rfl (by decide +kernel) rfl rfl (Nat.le_of_ble_eq_true rfl) dX6_addStrip_164 (fun H locs hP hD hS => ?_)
  have hP : va_P D cls [oO mo 6 [.int 0, .ref a1, .int (nI nC), .ref a2, .ref a3, .ref a4, .ref a5, .ref a6, .ref a7, .ref a8, .ref a9, .int (nI (nS + 1)), .ref a10, .int (nI nM), .ref a11], aI D a10 130 (apF pa (13 * nS) (stP (nI i) x1 x2 x3)), aI D ow 13 (upd (upd (upd (upd (upd (upd (upd (upd (upd (upd (upd (upd (upd (fun _ => 0) 0 (nI i)) 1 x1) 2 0) 3 x2) 4 x3) 5 1) 6 1) 7 0) 8 100) 9 0) 10 0) 11 0) 12 0)] H := hP
  have hD : va_D A [oO mo 6 [.int 0, .ref a1, .int (nI nC), .ref a2, .ref a3, .ref a4, .ref a5, .ref a6, .ref a7, .ref a8, .ref a9, .int (nI (nS + 1)), .ref a10, .int (nI nM), .ref a11], aI D a10 130 (apF pa (13 * nS) (stP (nI i) x1 x2 x3)), aI D ow 13 (upd (upd (upd (upd (upd (upd (upd (upd (upd (upd (upd (upd (upd (fun _ => 0) 0 (nI i)) 1 x1) 2 0) 3 x2) 4 x3) 5 1) 6 1) 7 0) 8 100) 9 0) 10 0) 11 0) 12 0)] := hD
  refine lv_aload_n hx hb dX6_addStrip_167 rfl (lv_at hl 1 rfl) ?_
  refine va_get (D := D) (ci := 6) (v := .int (nI (nS + 1))) (C := RX6) (T := TX6) (N := 15) hx hb hts inlX6 hown hG.K hP 0 rfl rfl 11 (by decide) (hts _ mF_X6_108) (fun _ h9 => h9) rfl dX6_addStrip_168 ?_
  refine lv_iconst (v := 1) hx hb dX6_addStrip_171 (by decide) ?_
  refine lv_isub hx hb dX6_addStrip_172 ?_
  refine tpi (y := nI nS) (pk_sub (a := nS + 1) (b := 1) (by omega)) ?_
  refine Wi () hx hb hr hlk ?_ (hP.sub [0, 1] rfl) (hD.sub [0, 1] (by decide) rfl) hS (Nat.le_of_ble_eq_true rfl) (by first | exact Nat.le_of_ble_eq_true rfl | exact Nat.le_of_eq (Nat.zero_add _)) dX6_addStrip_173
  exact rfl
