set_option maxHeartbeats 4000000 in
set_option maxRecDepth 100000 in
theorem c_Strip_init (l : Launch) (D : va_G) {so co : Nat} {x0 x1 x2 x3 : Int32} (hz0 : Nat)  : Met l yX3_init (ws_ yX3_init cX3_init 6 none) ({ frames := 1, cells := 0, slots := 0, locals := 20 } : Room) (va_Pc [.ref so, .ref co, .int x0, .int x1, .int x2, .int x3] (SW D [oO so 3 [.null, .int 0, .int 0, .int 0, .int 0, .int 0, .int 0, .int 0, .int 0, .int 0, .int 0, .int 0, .int 0]] hz0)) (va_Qv (fun _ => True) (AT D (va_A [oO so 3 [.null, .int 0, .int 0, .int 0, .int 0, .int 0, .int 0, .int 0, .int 0, .int 0, .int 0, .int 0, .int 0]] hz0) (fun _ : Unit => [oO so 3 [.ref co, .int x0, .int x1, .int x2, .int x3, .int 1, .int 1, .int 0, .int 100, .int 0, .int 0, .int 0, .int 0]])) (va_A [oO so 3 [.null, .int 0, .int 0, .int 0, .int 0, .int 0, .int 0, .int 0, .int 0, .int 0, .int 0, .int 0, .int 0]] hz0)) 0 0 (va_A [oO so 3 [.null, .int 0, .int 0, .int 0, .int 0, .int 0, .int 0, .int 0, .int 0, .int 0, .int 0, .int 0, .int 0]] hz0) := by
  refine Met.ofW (cc := cX3_init) (maxL := 6) (ret := none) (by decide) rfl ?_
  intro p e s m args below meth c s₁ B hml hv
  obtain ⟨rfl, hsz, hG, hP, hD0⟩ := hv
  have hx := B.exec
  have hb := B.bytes
  have hr := B.returns
  have hts : ∀ w ∈ wsL_law, w.before _ s = true := fun w h => atoms_spec (ws := (ws_ yX3_init cX3_init 6 none)) B.pre w (List.mem_cons_of_mem _ h)
  have hown : s.vm.findClass RX3 = some m.cls := findClass_of_methodNamed B.named
  have hlk := B.notSynchronized
  have hC : CallFix p m c cX3_init 6 s _ wsL_law RX3 := ⟨hx, hb, hml, hown, hts⟩
  have hin : meth.name = "<init>" := (name_of_methodNamed B.named B.method).1
  subst hsz
  have hD := hD0.self (sz := s.heap.size)
  generalize hAe : va_A [oO so 3 [.null, .int 0, .int 0, .int 0, .int 0, .int 0, .int 0, .int 0, .int 0, .int 0, .int 0, .int 0, .int 0]] s.heap.size = A at hD ⊢
  have hA : ∀ q : Nat, s.heap.size ≤ q → A q := fun q h => by rw [← hAe]; exact Or.inr h
  have hS : va_S A s.heap s.heap [] := va_S.rf
  obtain ⟨H, hHe⟩ : ∃ H, H = s.heap := ⟨_, rfl⟩
  rw [← hHe] at hP
  have hS : va_S A s.heap H [] := by rw [hHe]; exact hS
  have hl := lv_entry ([.ref so, .ref co, .int x0, .int x1, .int x2, .int x3]) (n := 6) (Nat.le_of_ble_eq_true rfl)
  rw [lg_entry_eq]
  generalize (lg_sl ([.ref so, .ref co, .int x0, .int x1, .int x2, .int x3]) ++ List.replicate (6 - (lg_sl ([.ref so, .ref co, .int x0, .int x1, .int x2, .int x3])).length) Slot.unset).toArray = ls at hl ⊢
  have hl : lv_has ls 6 [(0, .ref so), (1, .ref co), (2, .int x0), (3, .int x1), (4, .int x2), (5, .int x3)] := hl
  rw [← hHe]
  refine lv_aload_n hx hb dX3_init_0 rfl (lv_at hl 0 rfl) ?_
  refine W.objInit hx hb hown (hts _ mM_X3_3) (hts _ mI_objectInit) (hts _ mC_objectInit) rfl (by rw [hml]; exact hl.1) rfl dX3_init_1 (Nat.le_of_ble_eq_true rfl) (Nat.le_of_ble_eq_true rfl) ?_
  refine W.eq (g2 := F0 m 4 ls []) rfl ?_
  refine lv_aload_n hx hb dX3_init_4 rfl (lv_at hl 0 rfl) ?_
  refine lv_iconst (v := 1) hx hb dX3_init_5 (by decide) ?_
  refine va_put (D := D) (ci := 3) (v := .int 1) (ty := .int) (C := RX3) (T := TX3) (N := 13) hx hb hts inlX3 tyX3 tyX3_ok nmX3 hown hG.K hP hD hS 0 rfl rfl 5 (by decide) (hts _ mF_X3_9) (fun _ h9 => h9) rfl (by decide +kernel) rfl rfl (Nat.le_of_ble_eq_true rfl) dX3_init_6 (fun H locs hP hD hS => ?_)
  have hP : va_P D cls [oO so 3 [.null, .int 0, .int 0, .int 0, .int 0, .int 1, .int 0, .int 0, .int 0, .int 0, .int 0, .int 0, .int 0]] H := hP
  have hD : va_D A [oO so 3 [.null, .int 0, .int 0, .int 0, .int 0, .int 1, .int 0, .int 0, .int 0, .int 0, .int 0, .int 0, .int 0]] := hD
  refine lv_aload_n hx hb dX3_init_9 rfl (lv_at hl 0 rfl) ?_
  refine lv_iconst (v := 1) hx hb dX3_init_10 (by decide) ?_
  refine va_put (D := D) (ci := 3) (v := .int 1) (ty := .int) (C := RX3) (T := TX3) (N := 13) hx hb hts inlX3 tyX3 tyX3_ok nmX3 hown hG.K hP hD hS 0 rfl rfl 6 (by decide) (hts _ mF_X3_15) (fun _ h9 => h9) rfl (by decide +kernel) rfl rfl (Nat.le_of_ble_eq_true rfl) dX3_init_11 (fun H locs hP hD hS => ?_)
  have hP : va_P D cls [oO so 3 [.null, .int 0, .int 0, .int 0, .int 0, .int 1, .int 1, .int 0, .int 0, .int 0, .int 0, .int 0, .int 0]] H := hP
  have hD : va_D A [oO so 3 [.null, .int 0, .int 0, .int 0, .int 0, .int 1, .int 1, .int 0, .int 0, .int 0, .int 0, .int 0, .int 0]] := hD
  refine lv_aload_n hx hb dX3_init_14 rfl (lv_at hl 0 rfl) ?_
  refine lv_bipush (v := 100) hx hb dX3_init_15 (by decide) ?_
  refine va_put (D := D) (ci := 3) (v := .int 100) (ty := .int) (C := RX3) (T := TX3) (N := 13) hx hb hts inlX3 tyX3 tyX3_ok nmX3 hown hG.K hP hD hS 0 rfl rfl 8 (by decide) (hts _ mF_X3_18) (fun _ h9 => h9) rfl (by decide +kernel) rfl rfl (Nat.le_of_ble_eq_true rfl) dX3_init_17 (fun H locs hP hD hS => ?_)
  have hP : va_P D cls [oO so 3 [.null, .int 0, .int 0, .int 0, .int 0, .int 1, .int 1, .int 0, .int 100, .int 0, .int 0, .int 0, .int 0]] H := hP
  have hD : va_D A [oO so 3 [.null, .int 0, .int 0, .int 0, .int 0, .int 1, .int 1, .int 0, .int 100, .int 0, .int 0, .int 0, .int 0]] := hD
  refine lv_aload_n hx hb dX3_init_20 rfl (lv_at hl 0 rfl) ?_
  refine lv_aload_n hx hb dX3_init_21 rfl (lv_at hl 1 rfl) ?_
  refine va_putF (D := D) (ci := 3) (v := .ref co) (ty := .object "KeyStage$Clip") (C := RX3) (T := TX3) (N := 13) hx hb hts inlX3 tyX3 tyX3_ok nmX3 hown hG.K hP hD hS 0 rfl rfl 0 (by decide) (hts _ mF_X3_21) (fun _ h9 => h9) rfl hin rfl (by decide +kernel) rfl rfl (Nat.le_of_ble_eq_true rfl) dX3_init_22 (fun H locs hP hD hS => ?_)
  have hP : va_P D cls [oO so 3 [.ref co, .int 0, .int 0, .int 0, .int 0, .int 1, .int 1, .int 0, .int 100, .int 0, .int 0, .int 0, .int 0]] H := hP
  have hD : va_D A [oO so 3 [.ref co, .int 0, .int 0, .int 0, .int 0, .int 1, .int 1, .int 0, .int 100, .int 0, .int 0, .int 0, .int 0]] := hD
  refine lv_aload_n hx hb dX3_init_25 rfl (lv_at hl 0 rfl) ?_
  refine lv_iload_n hx hb dX3_init_26 rfl (lv_at hl 2 rfl) ?_
  refine va_putF (D := D) (ci := 3) (v := .int x0) (ty := .int) (C := RX3) (T := TX3) (N := 13) hx hb hts inlX3 tyX3 tyX3_ok nmX3 hown hG.K hP hD hS 0 rfl rfl 1 (by decide) (hts _ mF_X3_25) (fun _ h9 => h9) rfl hin rfl (by decide +kernel) rfl rfl (Nat.le_of_ble_eq_true rfl) dX3_init_27 (fun H locs hP hD hS => ?_)
  have hP : va_P D cls [oO so 3 [.ref co, .int x0, .int 0, .int 0, .int 0, .int 1, .int 1, .int 0, .int 100, .int 0, .int 0, .int 0, .int 0]] H := hP
  have hD : va_D A [oO so 3 [.ref co, .int x0, .int 0, .int 0, .int 0, .int 1, .int 1, .int 0, .int 100, .int 0, .int 0, .int 0, .int 0]] := hD
  refine lv_aload_n hx hb dX3_init_30 rfl (lv_at hl 0 rfl) ?_
  refine lv_iload_n hx hb dX3_init_31 rfl (lv_at hl 3 rfl) ?_
  refine va_putF (D := D) (ci := 3) (v := .int x1) (ty := .int) (C := RX3) (T := TX3) (N := 13) hx hb hts inlX3 tyX3 tyX3_ok nmX3 hown hG.K hP hD hS 0 rfl rfl 2 (by decide) (hts _ mF_X3_28) (fun _ h9 => h9) rfl hin rfl (by decide +kernel) rfl rfl (Nat.le_of_ble_eq_true rfl) dX3_init_32 (fun H locs hP hD hS => ?_)
  have hP : va_P D cls [oO so 3 [.ref co, .int x0, .int x1, .int 0, .int 0, .int 1, .int 1, .int 0, .int 100, .int 0, .int 0, .int 0, .int 0]] H := hP
  have hD : va_D A [oO so 3 [.ref co, .int x0, .int x1, .int 0, .int 0, .int 1, .int 1, .int 0, .int 100, .int 0, .int 0, .int 0, .int 0]] := hD
  refine lv_aload_n hx hb dX3_init_35 rfl (lv_at hl 0 rfl) ?_
  refine lv_iload hx hb dX3_init_36 (lv_at hl 4 rfl) ?_
  refine va_putF (D := D) (ci := 3) (v := .int x2) (ty := .int) (C := RX3) (T := TX3) (N := 13) hx hb hts inlX3 tyX3 tyX3_ok nmX3 hown hG.K hP hD hS 0 rfl rfl 3 (by decide) (hts _ mF_X3_31) (fun _ h9 => h9) rfl hin rfl (by decide +kernel) rfl rfl (Nat.le_of_ble_eq_true rfl) dX3_init_38 (fun H locs hP hD hS => ?_)
  have hP : va_P D cls [oO so 3 [.ref co, .int x0, .int x1, .int x2, .int 0, .int 1, .int 1, .int 0, .int 100, .int 0, .int 0, .int 0, .int 0]] H := hP
  have hD : va_D A [oO so 3 [.ref co, .int x0, .int x1, .int x2, .int 0, .int 1, .int 1, .int 0, .int 100, .int 0, .int 0, .int 0, .int 0]] := hD
  refine lv_aload_n hx hb dX3_init_41 rfl (lv_at hl 0 rfl) ?_
  refine lv_iload hx hb dX3_init_42 (lv_at hl 5 rfl) ?_
  refine va_putF (D := D) (ci := 3) (v := .int x3) (ty := .int) (C := RX3) (T := TX3) (N := 13) hx hb hts inlX3 tyX3 tyX3_ok nmX3 hown hG.K hP hD hS 0 rfl rfl 4 (by decide) (hts _ mF_X3_34) (fun _ h9 => h9) rfl hin rfl (by decide +kernel) rfl rfl (Nat.le_of_ble_eq_true rfl) dX3_init_44 (fun H locs hP hD hS => ?_)
  have hP : va_P D cls [oO so 3 [.ref co, .int x0, .int x1, .int x2, .int x3, .int 1, .int 1, .int 0, .int 100, .int 0, .int 0, .int 0, .int 0]] H := hP
  have hD : va_D A [oO so 3 [.ref co, .int x0, .int x1, .int x2, .int x3, .int 1, .int 1, .int 0, .int 100, .int 0, .int 0, .int 0, .int 0]] := hD
  refine Wv () hx hb hr hlk ?_ hP hD hS (Nat.le_of_ble_eq_true rfl) (by first | exact Nat.le_of_ble_eq_true rfl | exact Nat.le_of_eq (Nat.zero_add _)) dX3_init_47
  exact trivial
set_option maxHeartbeats 4000000 in
set_option maxRecDepth 100000 in
theorem c_ticks (l : Launch) (D : va_G) {so co ta : Nat} {q : Nat → Nat} {len : Int32} {pt : Nat → Int32}  : Met l yX3_ticks (ws_ yX3_ticks cX3_ticks 1 (some .int)) ({ frames := 0, cells := 0, slots := 0, locals := 0 } : Room) (va_Pc [.ref so] (PW D [oO so 3 [.ref co, .int (pt 0), .int (pt 1), .int (pt 3), .int (pt 4), .int (pt 5), .int (pt 6), .int (pt 7), .int (pt 8), .int (pt 9), .int (pt 10), .int (pt 11), .int (pt 12)], oO co 0 [.int len, .ref ta, .ref (q 0), .ref (q 1)]])) (vp_Si (fun v => v = ticksS len pt)) 0 0 (fun _ => False) := by
  refine Met.ofW (cc := cX3_ticks) (maxL := 1) (ret := (some .int)) (by decide) rfl ?_
  intro p e s m args below meth c s₁ B hml hv
  obtain ⟨rfl, hG, hP⟩ := hv
  have hx := B.exec
  have hb := B.bytes
  have hr := B.returns
  have hts : ∀ w ∈ wsL_law, w.before _ s = true := fun w h => atoms_spec (ws := (ws_ yX3_ticks cX3_ticks 1 (some .int))) B.pre w (List.mem_cons_of_mem _ h)
  have hown : s.vm.findClass RX3 = some m.cls := findClass_of_methodNamed B.named
  have hlk := B.notSynchronized
  have hC : CallFix p m c cX3_ticks 1 s _ wsL_law RX3 := ⟨hx, hb, hml, hown, hts⟩
  have hl := lv_entry ([.ref so]) (n := 1) (Nat.le_of_ble_eq_true rfl)
  rw [lg_entry_eq]
  generalize (lg_sl ([.ref so]) ++ List.replicate (1 - (lg_sl ([.ref so])).length) Slot.unset).toArray = ls at hl ⊢
  have hl : lv_has ls 1 [(0, .ref so)] := hl
  refine lv_aload_n hx hb dX3_ticks_0 rfl (lv_at hl 0 rfl) ?_
  refine va_get (D := D) (ci := 3) (v := .ref co) (C := RX3) (T := TX3) (N := 13) hx hb hts inlX3 hown hG.K hP 0 rfl rfl 0 (by decide) (hts _ mF_X3_21) (fun _ h9 => h9) rfl dX3_ticks_1 ?_
  refine va_getN (D := D) (ci := 0) (v := .int len) (C := RX0) (T := TX0) (N := 4) hx hb hts inlX0 hown hG.K hP 1 rfl rfl 0 (by decide) (va_Nw.use rfl (nF_KeyStage_Strip_57 hG)) (fun _ h9 => h9) rfl dX3_ticks_4 ?_
  refine lv_aload_n hx hb dX3_ticks_7 rfl (lv_at hl 0 rfl) ?_
  refine va_get (D := D) (ci := 3) (v := .int (pt 3)) (C := RX3) (T := TX3) (N := 13) hx hb hts inlX3 hown hG.K hP 0 rfl rfl 3 (by decide) (hts _ mF_X3_31) (fun _ h9 => h9) rfl dX3_ticks_8 ?_
  refine lv_imul hx hb dX3_ticks_11 ?_
  refine Ri hx hb hr hlk ?_ dX3_ticks_12
  exact rfl
set_option maxHeartbeats 4000000 in
set_option maxRecDepth 100000 in
theorem c_timeOfTick (l : Launch) (D : va_G) {so co ta : Nat} {q : Nat → Nat} {len : Int32} {pt : Nat → Int32} {x : Int32} (hp : 0 < pt 5) : Met l yX3_timeOfTick (ws_ yX3_timeOfTick cX3_timeOfTick 2 (some .int)) ({ frames := 1, cells := 0, slots := 0, locals := 21 } : Room) (va_Pc [.ref so, .int x] (PW D [oO so 3 [.ref co, .int (pt 0), .int (pt 1), .int (pt 3), .int (pt 4), .int (pt 5), .int (pt 6), .int (pt 7), .int (pt 8), .int (pt 9), .int (pt 10), .int (pt 11), .int (pt 12)], oO co 0 [.int len, .ref ta, .ref (q 0), .ref (q 1)]])) (vp_Si (fun v => v = timeOfS pt x)) 0 0 (fun _ => False) := by
  refine Met.ofW (cc := cX3_timeOfTick) (maxL := 2) (ret := (some .int)) (by decide) rfl ?_
  intro p e s m args below meth c s₁ B hml hv
  obtain ⟨rfl, hG, hP⟩ := hv
  have hx := B.exec
  have hb := B.bytes
  have hr := B.returns
  have hts : ∀ w ∈ wsL_law, w.before _ s = true := fun w h => atoms_spec (ws := (ws_ yX3_timeOfTick cX3_timeOfTick 2 (some .int))) B.pre w (List.mem_cons_of_mem _ h)
  have hown : s.vm.findClass RX3 = some m.cls := findClass_of_methodNamed B.named
  have hlk := B.notSynchronized
  have hC : CallFix p m c cX3_timeOfTick 2 s _ wsL_law RX3 := ⟨hx, hb, hml, hown, hts⟩
  have hl := lv_entry ([.ref so, .int x]) (n := 2) (Nat.le_of_ble_eq_true rfl)
  rw [lg_entry_eq]
  generalize (lg_sl ([.ref so, .int x]) ++ List.replicate (2 - (lg_sl ([.ref so, .int x])).length) Slot.unset).toArray = ls at hl ⊢
  have hl : lv_has ls 2 [(0, .ref so), (1, .int x)] := hl
  refine lv_aload_n hx hb dX3_timeOfTick_0 rfl (lv_at hl 0 rfl) ?_
  refine va_get (D := D) (ci := 3) (v := .int (pt 1)) (C := RX3) (T := TX3) (N := 13) hx hb hts inlX3 hown hG.K hP 0 rfl rfl 2 (by decide) (hts _ mF_X3_28) (fun _ h9 => h9) rfl dX3_timeOfTick_1 ?_
  refine lv_iload_n hx hb dX3_timeOfTick_4 rfl (lv_at hl 1 rfl) ?_
  refine lv_aload_n hx hb dX3_timeOfTick_5 rfl (lv_at hl 0 rfl) ?_
  refine va_get (D := D) (ci := 3) (v := .int (pt 6)) (C := RX3) (T := TX3) (N := 13) hx hb hts inlX3 hown hG.K hP 0 rfl rfl 6 (by decide) (hts _ mF_X3_15) (fun _ h9 => h9) rfl dX3_timeOfTick_6 ?_
  refine lv_imul hx hb dX3_timeOfTick_9 ?_
  refine lv_aload_n hx hb dX3_timeOfTick_10 rfl (lv_at hl 0 rfl) ?_
  refine va_get (D := D) (ci := 3) (v := .int (pt 5)) (C := RX3) (T := TX3) (N := 13) hx hb hts inlX3 hown hG.K hP 0 rfl rfl 5 (by decide) (hts _ mF_X3_9) (fun _ h9 => h9) rfl dX3_timeOfTick_11 ?_
  have hP9 : va_P D cls [] s.heap := fun k q h => by simp at h
  refine vp_callSi (pSN (rest := [.int (pt 1)]) [.int (x * (pt 6)), .int (pt 5)] 2 hC (c_roundedUp l D (x := x * (pt 6)) (y := pt 5) (hp)) (nM_KeyStage_Strip_62 hG) mT_X5_roundedUp mN_X5 mC_X5_roundedUp (by decide +kernel) rfl rfl ⟨Nat.le_of_ble_eq_true rfl, Nat.le_of_ble_eq_true rfl⟩ hG hP9 rfl hl.1 rfl (Nat.le_of_ble_eq_true rfl) dX3_timeOfTick_14 ⟨Nat.le_of_ble_eq_true rfl, Nat.le_of_ble_eq_true rfl⟩) (fun r14 h14 => ?_)
  obtain rfl : r14 = (((x * (pt 6)) + (pt 5) - 1) / (pt 5)) := h14
  refine lv_iadd hx hb dX3_timeOfTick_17 ?_
  refine Ri hx hb hr hlk ?_ dX3_timeOfTick_18
  exact rfl
set_option maxHeartbeats 4000000 in
set_option maxRecDepth 100000 in
theorem c_endTime (l : Launch) (D : va_G) {so co ta : Nat} {q : Nat → Nat} {len : Int32} {pt : Nat → Int32} (hp : 0 < pt 5) : Met l yX3_endTime (ws_ yX3_endTime cX3_endTime 1 (some .int)) ({ frames := 2, cells := 0, slots := 0, locals := 42 } : Room) (va_Pc [.ref so] (PW D [oO so 3 [.ref co, .int (pt 0), .int (pt 1), .int (pt 3), .int (pt 4), .int (pt 5), .int (pt 6), .int (pt 7), .int (pt 8), .int (pt 9), .int (pt 10), .int (pt 11), .int (pt 12)], oO co 0 [.int len, .ref ta, .ref (q 0), .ref (q 1)]])) (vp_Si (fun v => v = endS len pt)) 0 0 (fun _ => False) := by
  refine Met.ofW (cc := cX3_endTime) (maxL := 1) (ret := (some .int)) (by decide) rfl ?_
  intro p e s m args below meth c s₁ B hml hv
  obtain ⟨rfl, hG, hP⟩ := hv
  have hx := B.exec
  have hb := B.bytes
  have hr := B.returns
  have hts : ∀ w ∈ wsL_law, w.before _ s = true := fun w h => atoms_spec (ws := (ws_ yX3_endTime cX3_endTime 1 (some .int))) B.pre w (List.mem_cons_of_mem _ h)
  have hown : s.vm.findClass RX3 = some m.cls := findClass_of_methodNamed B.named
  have hlk := B.notSynchronized
  have hC : CallFix p m c cX3_endTime 1 s _ wsL_law RX3 := ⟨hx, hb, hml, hown, hts⟩
  have hl := lv_entry ([.ref so]) (n := 1) (Nat.le_of_ble_eq_true rfl)
  rw [lg_entry_eq]
  generalize (lg_sl ([.ref so]) ++ List.replicate (1 - (lg_sl ([.ref so])).length) Slot.unset).toArray = ls at hl ⊢
  have hl : lv_has ls 1 [(0, .ref so)] := hl
  refine lv_aload_n hx hb dX3_endTime_0 rfl (lv_at hl 0 rfl) ?_
  refine lv_aload_n hx hb dX3_endTime_1 rfl (lv_at hl 0 rfl) ?_
  have hP9 := hP
  refine vp_callSi (pV (rest := [.ref so]) (qc := (RX3, TX3, 13)) [] 0 hC (c_ticks l D (so := so) (co := co) (len := len) (ta := ta) ) rfl (hP 0 _ rfl) (gV mM_X3_66 mI_X3_ticks mS_X3_ticks mN_X3 mC_X3_ticks) (by decide +kernel) rfl rfl ⟨Nat.le_of_ble_eq_true rfl, Nat.le_of_ble_eq_true rfl⟩ hG hP9 rfl hl.1 rfl (Nat.le_of_ble_eq_true rfl) dX3_endTime_2 ⟨Nat.le_of_ble_eq_true rfl, Nat.le_of_ble_eq_true rfl⟩) (fun r2 h2 => ?_)
  obtain rfl : r2 = (ticksS len pt) := h2
  have hP9 := hP
  refine vp_callSi (pV (rest := []) (qc := (RX3, TX3, 13)) [.int (ticksS len pt)] 1 hC (c_timeOfTick l D (so := so) (x := ticksS len pt) (co := co) (len := len) (ta := ta) (hp)) rfl (hP 0 _ rfl) (gV mM_X3_69 mI_X3_timeOfTick mS_X3_timeOfTick mN_X3 mC_X3_timeOfTick) (by decide +kernel) rfl rfl ⟨Nat.le_of_ble_eq_true rfl, Nat.le_of_ble_eq_true rfl⟩ hG hP9 rfl hl.1 rfl (Nat.le_of_ble_eq_true rfl) dX3_endTime_5 ⟨Nat.le_of_ble_eq_true rfl, Nat.le_of_ble_eq_true rfl⟩) (fun r5 h5 => ?_)
  obtain rfl : r5 = (timeOfS pt (ticksS len pt)) := h5
  refine Ri hx hb hr hlk ?_ dX3_endTime_8
  exact rfl
set_option maxHeartbeats 4000000 in
set_option maxRecDepth 100000 in
theorem c_isOn (l : Launch) (D : va_G) {so co ta : Nat} {q : Nat → Nat} {len : Int32} {pt : Nat → Int32} {x : Int32} (hp : 0 < pt 5) : Met l yX3_isOn (ws_ yX3_isOn cX3_isOn 2 (some .boolean)) ({ frames := 3, cells := 0, slots := 0, locals := 62 } : Room) (va_Pc [.ref so, .int x] (PW D [oO so 3 [.ref co, .int (pt 0), .int (pt 1), .int (pt 3), .int (pt 4), .int (pt 5), .int (pt 6), .int (pt 7), .int (pt 8), .int (pt 9), .int (pt 10), .int (pt 11), .int (pt 12)], oO co 0 [.int len, .ref ta, .ref (q 0), .ref (q 1)]])) (vp_Si (fun v => (v = 1 ∧ (isOnS len pt x)) ∨ (v = 0 ∧ ¬ (isOnS len pt x)))) 0 0 (fun _ => False) := by
  refine Met.ofW (cc := cX3_isOn) (maxL := 2) (ret := (some .boolean)) (by decide) rfl ?_
  intro p e s m args below meth c s₁ B hml hv
  obtain ⟨rfl, hG, hP⟩ := hv
  have hx := B.exec
  have hb := B.bytes
  have hr := B.returns
  have hts : ∀ w ∈ wsL_law, w.before _ s = true := fun w h => atoms_spec (ws := (ws_ yX3_isOn cX3_isOn 2 (some .boolean))) B.pre w (List.mem_cons_of_mem _ h)
  have hown : s.vm.findClass RX3 = some m.cls := findClass_of_methodNamed B.named
  have hlk := B.notSynchronized
  have hC : CallFix p m c cX3_isOn 2 s _ wsL_law RX3 := ⟨hx, hb, hml, hown, hts⟩
  have hl := lv_entry ([.ref so, .int x]) (n := 2) (Nat.le_of_ble_eq_true rfl)
  rw [lg_entry_eq]
  generalize (lg_sl ([.ref so, .int x]) ++ List.replicate (2 - (lg_sl ([.ref so, .int x])).length) Slot.unset).toArray = ls at hl ⊢
  have hl : lv_has ls 2 [(0, .ref so), (1, .int x)] := hl
  refine lv_iload_n hx hb dX3_isOn_0 rfl (lv_at hl 1 rfl) ?_
  refine lv_aload_n hx hb dX3_isOn_1 rfl (lv_at hl 0 rfl) ?_
  refine va_get (D := D) (ci := 3) (v := .int (pt 1)) (C := RX3) (T := TX3) (N := 13) hx hb hts inlX3 hown hG.K hP 0 rfl rfl 2 (by decide) (hts _ mF_X3_28) (fun _ h9 => h9) rfl dX3_isOn_2 ?_
  refine lv_icmp_lt (tgt := 27) hx hb dX3_isOn_5 (by decide) (fun c5 => ?_) (fun c5 => ?_)
  · skip
    refine lv_iconst (v := 0) hx hb dX3_isOn_27 (by decide) ?_
    refine Rz hx hb hr hlk (by first | rfl | decide) ?_ dX3_isOn_28
    first
    | exact Or.inl ⟨rfl, Int32.not_lt.mp c5, Or.inl c12⟩
    | exact Or.inl ⟨rfl, Int32.not_lt.mp c5, Or.inr (Int32.not_le.mp c20)⟩
    | exact Or.inr ⟨rfl, fun h => absurd c5 (Int32.not_lt.mpr h.1)⟩
    | exact Or.inr ⟨rfl, fun h => h.2.elim (fun z => z c12) (fun z => absurd c20 (Int32.not_le.mpr z))⟩
  · skip
    refine lv_aload_n hx hb dX3_isOn_8 rfl (lv_at hl 0 rfl) ?_
    refine va_get (D := D) (ci := 3) (v := .int (pt 10)) (C := RX3) (T := TX3) (N := 13) hx hb hts inlX3 hown hG.K hP 0 rfl rfl 10 (by decide) (hts _ mF_X3_48) (fun _ h9 => h9) rfl dX3_isOn_9 ?_
    refine lv_if_ne (tgt := 23) hx hb dX3_isOn_12 (by decide) (fun c12 => ?_) (fun c12 => ?_)
    · skip
      refine lv_iconst (v := 1) hx hb dX3_isOn_23 (by decide) ?_
      refine lv_goto (tgt := 28) hx hb dX3_isOn_24 (by decide) ?_
      refine Rz hx hb hr hlk (by first | rfl | decide) ?_ dX3_isOn_28
      first
      | exact Or.inl ⟨rfl, Int32.not_lt.mp c5, Or.inl c12⟩
      | exact Or.inl ⟨rfl, Int32.not_lt.mp c5, Or.inr (Int32.not_le.mp c20)⟩
      | exact Or.inr ⟨rfl, fun h => absurd c5 (Int32.not_lt.mpr h.1)⟩
      | exact Or.inr ⟨rfl, fun h => h.2.elim (fun z => z c12) (fun z => absurd c20 (Int32.not_le.mpr z))⟩
    · skip
      refine lv_iload_n hx hb dX3_isOn_15 rfl (lv_at hl 1 rfl) ?_
      refine lv_aload_n hx hb dX3_isOn_16 rfl (lv_at hl 0 rfl) ?_
      have hP9 := hP
      refine vp_callSi (pV (rest := [.int x]) (qc := (RX3, TX3, 13)) [] 0 hC (c_endTime l D (so := so) (co := co) (len := len) (ta := ta) (hp)) rfl (hP 0 _ rfl) (gV mM_X3_37 mI_X3_endTime mS_X3_endTime mN_X3 mC_X3_endTime) (by decide +kernel) rfl rfl ⟨Nat.le_of_ble_eq_true rfl, Nat.le_of_ble_eq_true rfl⟩ hG hP9 rfl hl.1 rfl (Nat.le_of_ble_eq_true rfl) dX3_isOn_17 ⟨Nat.le_of_ble_eq_true rfl, Nat.le_of_ble_eq_true rfl⟩) (fun r17 h17 => ?_)
      obtain rfl : r17 = (endS len pt) := h17
      refine lv_icmp_ge (tgt := 27) hx hb dX3_isOn_20 (by decide) (fun c20 => ?_) (fun c20 => ?_)
      · skip
        refine lv_iconst (v := 0) hx hb dX3_isOn_27 (by decide) ?_
        refine Rz hx hb hr hlk (by first | rfl | decide) ?_ dX3_isOn_28
        first
        | exact Or.inl ⟨rfl, Int32.not_lt.mp c5, Or.inl c12⟩
        | exact Or.inl ⟨rfl, Int32.not_lt.mp c5, Or.inr (Int32.not_le.mp c20)⟩
        | exact Or.inr ⟨rfl, fun h => absurd c5 (Int32.not_lt.mpr h.1)⟩
        | exact Or.inr ⟨rfl, fun h => h.2.elim (fun z => z c12) (fun z => absurd c20 (Int32.not_le.mpr z))⟩
      · skip
        refine lv_iconst (v := 1) hx hb dX3_isOn_23 (by decide) ?_
        refine lv_goto (tgt := 28) hx hb dX3_isOn_24 (by decide) ?_
        refine Rz hx hb hr hlk (by first | rfl | decide) ?_ dX3_isOn_28
        first
        | exact Or.inl ⟨rfl, Int32.not_lt.mp c5, Or.inl c12⟩
        | exact Or.inl ⟨rfl, Int32.not_lt.mp c5, Or.inr (Int32.not_le.mp c20)⟩
        | exact Or.inr ⟨rfl, fun h => absurd c5 (Int32.not_lt.mpr h.1)⟩
        | exact Or.inr ⟨rfl, fun h => h.2.elim (fun z => z c12) (fun z => absurd c20 (Int32.not_le.mpr z))⟩
set_option maxHeartbeats 4000000 in
set_option maxRecDepth 100000 in
theorem c_isBackwards (l : Launch) (D : va_G) {so co ta : Nat} {q : Nat → Nat} {len : Int32} {pt : Nat → Int32} {x : Int32}  : Met l yX3_isBackwards (ws_ yX3_isBackwards cX3_isBackwards 2 (some .boolean)) ({ frames := 0, cells := 0, slots := 0, locals := 0 } : Room) (va_Pc [.ref so, .int x] (PW D [oO so 3 [.ref co, .int (pt 0), .int (pt 1), .int (pt 3), .int (pt 4), .int (pt 5), .int (pt 6), .int (pt 7), .int (pt 8), .int (pt 9), .int (pt 10), .int (pt 11), .int (pt 12)], oO co 0 [.int len, .ref ta, .ref (q 0), .ref (q 1)]])) (vp_Si (fun v => (v = 1 ∧ (backS pt x)) ∨ (v = 0 ∧ ¬ (backS pt x)))) 0 0 (fun _ => False) := by
  refine Met.ofW (cc := cX3_isBackwards) (maxL := 2) (ret := (some .boolean)) (by decide) rfl ?_
  intro p e s m args below meth c s₁ B hml hv
  obtain ⟨rfl, hG, hP⟩ := hv
  have hx := B.exec
  have hb := B.bytes
  have hr := B.returns
  have hts : ∀ w ∈ wsL_law, w.before _ s = true := fun w h => atoms_spec (ws := (ws_ yX3_isBackwards cX3_isBackwards 2 (some .boolean))) B.pre w (List.mem_cons_of_mem _ h)
  have hown : s.vm.findClass RX3 = some m.cls := findClass_of_methodNamed B.named
  have hlk := B.notSynchronized
  have hC : CallFix p m c cX3_isBackwards 2 s _ wsL_law RX3 := ⟨hx, hb, hml, hown, hts⟩
  have hl := lv_entry ([.ref so, .int x]) (n := 2) (Nat.le_of_ble_eq_true rfl)
  rw [lg_entry_eq]
  generalize (lg_sl ([.ref so, .int x]) ++ List.replicate (2 - (lg_sl ([.ref so, .int x])).length) Slot.unset).toArray = ls at hl ⊢
  have hl : lv_has ls 2 [(0, .ref so), (1, .int x)] := hl
  refine lv_aload_n hx hb dX3_isBackwards_0 rfl (lv_at hl 0 rfl) ?_
  refine va_get (D := D) (ci := 3) (v := .int (pt 4)) (C := RX3) (T := TX3) (N := 13) hx hb hts inlX3 hown hG.K hP 0 rfl rfl 4 (by decide) (hts _ mF_X3_34) (fun _ h9 => h9) rfl dX3_isBackwards_1 ?_
  refine lv_iconst (v := 1) hx hb dX3_isBackwards_4 (by decide) ?_
  refine lv_icmp_eq (tgt := 23) hx hb dX3_isBackwards_5 (by decide) (fun c5 => ?_) (fun c5 => ?_)
  · skip
    refine lv_iconst (v := 1) hx hb dX3_isBackwards_23 (by decide) ?_
    refine lv_goto (tgt := 28) hx hb dX3_isBackwards_24 (by decide) ?_
    refine Rz hx hb hr hlk (by first | rfl | decide) ?_ dX3_isBackwards_28
    first
    | exact Or.inl ⟨rfl, Or.inl c5⟩
    | exact Or.inl ⟨rfl, Or.inr ⟨c13, c20⟩⟩
    | exact Or.inr ⟨rfl, fun h => h.elim c5 (fun z => c13 z.1)⟩
    | exact Or.inr ⟨rfl, fun h => h.elim c5 (fun z => c20 z.2)⟩
  · skip
    refine lv_aload_n hx hb dX3_isBackwards_8 rfl (lv_at hl 0 rfl) ?_
    refine va_get (D := D) (ci := 3) (v := .int (pt 4)) (C := RX3) (T := TX3) (N := 13) hx hb hts inlX3 hown hG.K hP 0 rfl rfl 4 (by decide) (hts _ mF_X3_34) (fun _ h9 => h9) rfl dX3_isBackwards_9 ?_
    refine lv_iconst (v := 2) hx hb dX3_isBackwards_12 (by decide) ?_
    refine lv_icmp_ne (tgt := 27) hx hb dX3_isBackwards_13 (by decide) (fun c13 => ?_) (fun c13 => ?_)
    · skip
      refine lv_iconst (v := 0) hx hb dX3_isBackwards_27 (by decide) ?_
      refine Rz hx hb hr hlk (by first | rfl | decide) ?_ dX3_isBackwards_28
      first
      | exact Or.inl ⟨rfl, Or.inl c5⟩
      | exact Or.inl ⟨rfl, Or.inr ⟨c13, c20⟩⟩
      | exact Or.inr ⟨rfl, fun h => h.elim c5 (fun z => c13 z.1)⟩
      | exact Or.inr ⟨rfl, fun h => h.elim c5 (fun z => c20 z.2)⟩
    · skip
      refine lv_iload_n hx hb dX3_isBackwards_16 rfl (lv_at hl 1 rfl) ?_
      refine lv_iconst (v := 2) hx hb dX3_isBackwards_17 (by decide) ?_
      refine lv_irem hx hb dX3_isBackwards_18 (by decide) ?_
      refine lv_iconst (v := 1) hx hb dX3_isBackwards_19 (by decide) ?_
      refine lv_icmp_ne (tgt := 27) hx hb dX3_isBackwards_20 (by decide) (fun c20 => ?_) (fun c20 => ?_)
      · skip
        refine lv_iconst (v := 0) hx hb dX3_isBackwards_27 (by decide) ?_
        refine Rz hx hb hr hlk (by first | rfl | decide) ?_ dX3_isBackwards_28
        first
        | exact Or.inl ⟨rfl, Or.inl c5⟩
        | exact Or.inl ⟨rfl, Or.inr ⟨c13, c20⟩⟩
        | exact Or.inr ⟨rfl, fun h => h.elim c5 (fun z => c13 z.1)⟩
        | exact Or.inr ⟨rfl, fun h => h.elim c5 (fun z => c20 z.2)⟩
      · skip
        refine lv_iconst (v := 1) hx hb dX3_isBackwards_23 (by decide) ?_
        refine lv_goto (tgt := 28) hx hb dX3_isBackwards_24 (by decide) ?_
        refine Rz hx hb hr hlk (by first | rfl | decide) ?_ dX3_isBackwards_28
        first
        | exact Or.inl ⟨rfl, Or.inl c5⟩
        | exact Or.inl ⟨rfl, Or.inr ⟨c13, c20⟩⟩
        | exact Or.inr ⟨rfl, fun h => h.elim c5 (fun z => c13 z.1)⟩
        | exact Or.inr ⟨rfl, fun h => h.elim c5 (fun z => c20 z.2)⟩
set_option maxHeartbeats 4000000 in
set_option maxRecDepth 100000 in
theorem c_localTime (l : Launch) (D : va_G) {so co ta : Nat} {q : Nat → Nat} {len : Int32} {pt : Nat → Int32} {x : Int32} (hq : 0 < pt 6) (hln : 0 < len) : Met l yX3_localTime (ws_ yX3_localTime cX3_localTime 5 (some .int)) ({ frames := 1, cells := 0, slots := 0, locals := 23 } : Room) (va_Pc [.ref so, .int x] (PW D [oO so 3 [.ref co, .int (pt 0), .int (pt 1), .int (pt 3), .int (pt 4), .int (pt 5), .int (pt 6), .int (pt 7), .int (pt 8), .int (pt 9), .int (pt 10), .int (pt 11), .int (pt 12)], oO co 0 [.int len, .ref ta, .ref (q 0), .ref (q 1)]])) (vp_Si (fun v => v = localS len pt x)) 0 0 (fun _ => False) := by
  refine Met.ofW (cc := cX3_localTime) (maxL := 5) (ret := (some .int)) (by decide) rfl ?_
  intro p e s m args below meth c s₁ B hml hv
  obtain ⟨rfl, hG, hP⟩ := hv
  have hx := B.exec
  have hb := B.bytes
  have hr := B.returns
  have hts : ∀ w ∈ wsL_law, w.before _ s = true := fun w h => atoms_spec (ws := (ws_ yX3_localTime cX3_localTime 5 (some .int))) B.pre w (List.mem_cons_of_mem _ h)
  have hown : s.vm.findClass RX3 = some m.cls := findClass_of_methodNamed B.named
  have hlk := B.notSynchronized
  have hC : CallFix p m c cX3_localTime 5 s _ wsL_law RX3 := ⟨hx, hb, hml, hown, hts⟩
  have hl := lv_entry ([.ref so, .int x]) (n := 5) (Nat.le_of_ble_eq_true rfl)
  rw [lg_entry_eq]
  generalize (lg_sl ([.ref so, .int x]) ++ List.replicate (5 - (lg_sl ([.ref so, .int x])).length) Slot.unset).toArray = ls at hl ⊢
  have hl : lv_has ls 5 [(0, .ref so), (1, .int x)] := hl
  refine lv_iload_n hx hb dX3_localTime_0 rfl (lv_at hl 1 rfl) ?_
  refine lv_aload_n hx hb dX3_localTime_1 rfl (lv_at hl 0 rfl) ?_
  refine va_get (D := D) (ci := 3) (v := .int (pt 1)) (C := RX3) (T := TX3) (N := 13) hx hb hts inlX3 hown hG.K hP 0 rfl rfl 2 (by decide) (hts _ mF_X3_28) (fun _ h9 => h9) rfl dX3_localTime_2 ?_
  refine lv_isub hx hb dX3_localTime_5 ?_
  refine lv_aload_n hx hb dX3_localTime_6 rfl (lv_at hl 0 rfl) ?_
  refine va_get (D := D) (ci := 3) (v := .int (pt 5)) (C := RX3) (T := TX3) (N := 13) hx hb hts inlX3 hown hG.K hP 0 rfl rfl 5 (by decide) (hts _ mF_X3_9) (fun _ h9 => h9) rfl dX3_localTime_7 ?_
  refine lv_imul hx hb dX3_localTime_10 ?_
  refine lv_aload_n hx hb dX3_localTime_11 rfl (lv_at hl 0 rfl) ?_
  refine va_get (D := D) (ci := 3) (v := .int (pt 6)) (C := RX3) (T := TX3) (N := 13) hx hb hts inlX3 hown hG.K hP 0 rfl rfl 6 (by decide) (hts _ mF_X3_15) (fun _ h9 => h9) rfl dX3_localTime_12 ?_
  have hP9 : va_P D cls [] s.heap := fun k q h => by simp at h
  refine vp_callSi (pSN (rest := []) [.int ((x - (pt 1)) * (pt 5)), .int (pt 6)] 2 hC (c_cut l D (x := (x - (pt 1)) * (pt 5)) (y := pt 6) (hq)) (nM_KeyStage_Strip_73 hG) mT_X5_cut mN_X5 mC_X5_cut (by decide +kernel) rfl rfl ⟨Nat.le_of_ble_eq_true rfl, Nat.le_of_ble_eq_true rfl⟩ hG hP9 rfl hl.1 rfl (Nat.le_of_ble_eq_true rfl) dX3_localTime_15 ⟨Nat.le_of_ble_eq_true rfl, Nat.le_of_ble_eq_true rfl⟩) (fun r15 h15 => ?_)
  obtain rfl : r15 = (((x - (pt 1)) * (pt 5)) / (pt 6)) := h15
  refine lv_aload_n hx hb dX3_localTime_18 rfl (lv_at hl 0 rfl) ?_
  have hP9 := hP
  refine vp_callSi (pV (rest := [.int (((x - (pt 1)) * (pt 5)) / (pt 6))]) (qc := (RX3, TX3, 13)) [] 0 hC (c_ticks l D (so := so) (co := co) (len := len) (ta := ta) ) rfl (hP 0 _ rfl) (gV mM_X3_66 mI_X3_ticks mS_X3_ticks mN_X3 mC_X3_ticks) (by decide +kernel) rfl rfl ⟨Nat.le_of_ble_eq_true rfl, Nat.le_of_ble_eq_true rfl⟩ hG hP9 rfl hl.1 rfl (Nat.le_of_ble_eq_true rfl) dX3_localTime_19 ⟨Nat.le_of_ble_eq_true rfl, Nat.le_of_ble_eq_true rfl⟩) (fun r19 h19 => ?_)
  obtain rfl : r19 = (ticksS len pt) := h19
  refine va_mmin hx hb (by rw [hml]; exact hl.1.symm) hown (hts _ mM_X3_76) (hts _ mT_Lib_Math_min_name) (hts _ mN__java_lang_Math_) (hts _ mC_Lib_Math_min_name) (Nat.le_of_ble_eq_true rfl) (Nat.le_of_ble_eq_true rfl) (Nat.le_of_ble_eq_true rfl) (Nat.le_of_ble_eq_true rfl) dX3_localTime_22 ?_
  refine tpi (y := tickS len pt x) (rfl) ?_
  refine lv_istore_n (lv' := [(2, .int (tickS len pt x)), (0, .ref so), (1, .int x)]) hx hb dX3_localTime_25 rfl hl (by decide) rfl (fun ls hl => ?_)
  refine lv_iload_n hx hb dX3_localTime_26 rfl (lv_at hl 0 rfl) ?_
  refine lv_aload_n hx hb dX3_localTime_27 rfl (lv_at hl 1 rfl) ?_
  refine va_get (D := D) (ci := 3) (v := .ref co) (C := RX3) (T := TX3) (N := 13) hx hb hts inlX3 hown hG.K hP 0 rfl rfl 0 (by decide) (hts _ mF_X3_21) (fun _ h9 => h9) rfl dX3_localTime_28 ?_
  refine va_getN (D := D) (ci := 0) (v := .int len) (C := RX0) (T := TX0) (N := 4) hx hb hts inlX0 hown hG.K hP 1 rfl rfl 0 (by decide) (va_Nw.use rfl (nF_KeyStage_Strip_57 hG)) (fun _ h9 => h9) rfl dX3_localTime_31 ?_
  have hP9 : va_P D cls [] s.heap := fun k q h => by simp at h
  refine vp_callSi (pSN (rest := []) [.int (tickS len pt x), .int len] 2 hC (c_cut l D (x := tickS len pt x) (y := len) (hln)) (nM_KeyStage_Strip_73 hG) mT_X5_cut mN_X5 mC_X5_cut (by decide +kernel) rfl rfl ⟨Nat.le_of_ble_eq_true rfl, Nat.le_of_ble_eq_true rfl⟩ hG hP9 rfl hl.1 rfl (Nat.le_of_ble_eq_true rfl) dX3_localTime_34 ⟨Nat.le_of_ble_eq_true rfl, Nat.le_of_ble_eq_true rfl⟩) (fun r34 h34 => ?_)
  obtain rfl : r34 = ((tickS len pt x) / len) := h34
  refine lv_aload_n hx hb dX3_localTime_37 rfl (lv_at hl 1 rfl) ?_
  refine va_get (D := D) (ci := 3) (v := .int (pt 3)) (C := RX3) (T := TX3) (N := 13) hx hb hts inlX3 hown hG.K hP 0 rfl rfl 3 (by decide) (hts _ mF_X3_31) (fun _ h9 => h9) rfl dX3_localTime_38 ?_
  refine lv_iconst (v := 1) hx hb dX3_localTime_41 (by decide) ?_
  refine lv_isub hx hb dX3_localTime_42 ?_
  refine va_mmin hx hb (by rw [hml]; exact hl.1.symm) hown (hts _ mM_X3_76) (hts _ mT_Lib_Math_min_name) (hts _ mN__java_lang_Math_) (hts _ mC_Lib_Math_min_name) (Nat.le_of_ble_eq_true rfl) (Nat.le_of_ble_eq_true rfl) (Nat.le_of_ble_eq_true rfl) (Nat.le_of_ble_eq_true rfl) dX3_localTime_43 ?_
  refine tpi (y := roundS len pt x) (rfl) ?_
  refine lv_istore_n (lv' := [(3, .int (roundS len pt x)), (2, .int (tickS len pt x)), (0, .ref so), (1, .int x)]) hx hb dX3_localTime_46 rfl hl (by decide) rfl (fun ls hl => ?_)
  refine lv_iload_n hx hb dX3_localTime_47 rfl (lv_at hl 1 rfl) ?_
  refine lv_iload_n hx hb dX3_localTime_48 rfl (lv_at hl 0 rfl) ?_
  refine lv_aload_n hx hb dX3_localTime_49 rfl (lv_at hl 2 rfl) ?_
  refine va_get (D := D) (ci := 3) (v := .ref co) (C := RX3) (T := TX3) (N := 13) hx hb hts inlX3 hown hG.K hP 0 rfl rfl 0 (by decide) (hts _ mF_X3_21) (fun _ h9 => h9) rfl dX3_localTime_50 ?_
  refine va_getN (D := D) (ci := 0) (v := .int len) (C := RX0) (T := TX0) (N := 4) hx hb hts inlX0 hown hG.K hP 1 rfl rfl 0 (by decide) (va_Nw.use rfl (nF_KeyStage_Strip_57 hG)) (fun _ h9 => h9) rfl dX3_localTime_53 ?_
  refine lv_imul hx hb dX3_localTime_56 ?_
  refine lv_isub hx hb dX3_localTime_57 ?_
  refine lv_istore (lv' := [(4, .int ((tickS len pt x) - ((roundS len pt x) * len))), (3, .int (roundS len pt x)), (2, .int (tickS len pt x)), (0, .ref so), (1, .int x)]) hx hb dX3_localTime_58 hl (by decide) rfl (fun ls hl => ?_)
  refine lv_aload_n hx hb dX3_localTime_60 rfl (lv_at hl 3 rfl) ?_
  refine lv_iload_n hx hb dX3_localTime_61 rfl (lv_at hl 1 rfl) ?_
  have hP9 := hP
  refine vp_callSi (pV (rest := []) (qc := (RX3, TX3, 13)) [.int (roundS len pt x)] 1 hC (c_isBackwards l D (so := so) (x := roundS len pt x) (co := co) (len := len) (ta := ta) ) rfl (hP 0 _ rfl) (gV mM_X3_81 mI_X3_isBackwards mS_X3_isBackwards mN_X3 mC_X3_isBackwards) (by decide +kernel) rfl rfl ⟨Nat.le_of_ble_eq_true rfl, Nat.le_of_ble_eq_true rfl⟩ hG hP9 rfl hl.1 rfl (Nat.le_of_ble_eq_true rfl) dX3_localTime_62 ⟨Nat.le_of_ble_eq_true rfl, Nat.le_of_ble_eq_true rfl⟩) (fun r62 h62 => ?_)
  rcases h62 with ⟨rfl, hb62⟩ | ⟨rfl, hb62⟩
  · skip
    refine lv_if_eq (tgt := 81) hx hb dX3_localTime_65 (by decide) (fun h9 => absurd h9 (by decide)) (fun _ => ?_)
    refine lv_aload_n hx hb dX3_localTime_68 rfl (lv_at hl 3 rfl) ?_
    refine va_get (D := D) (ci := 3) (v := .ref co) (C := RX3) (T := TX3) (N := 13) hx hb hts inlX3 hown hG.K hP 0 rfl rfl 0 (by decide) (hts _ mF_X3_21) (fun _ h9 => h9) rfl dX3_localTime_69 ?_
    refine va_getN (D := D) (ci := 0) (v := .int len) (C := RX0) (T := TX0) (N := 4) hx hb hts inlX0 hown hG.K hP 1 rfl rfl 0 (by decide) (va_Nw.use rfl (nF_KeyStage_Strip_57 hG)) (fun _ h9 => h9) rfl dX3_localTime_72 ?_
    refine lv_iload hx hb dX3_localTime_75 (lv_at hl 0 rfl) ?_
    refine lv_isub hx hb dX3_localTime_77 ?_
    refine lv_goto (tgt := 83) hx hb dX3_localTime_78 (by decide) ?_
    refine Ri hx hb hr hlk ?_ dX3_localTime_83
    show _ = localS len pt x
    first | rw [localS, if_pos hb62] | rw [localS, if_neg hb62]
  · skip
    refine lv_if_eq (tgt := 81) hx hb dX3_localTime_65 (by decide) (fun _ => ?_) (fun h9 => (h9 (by decide)).elim)
    refine lv_iload hx hb dX3_localTime_81 (lv_at hl 0 rfl) ?_
    refine Ri hx hb hr hlk ?_ dX3_localTime_83
    show _ = localS len pt x
    first | rw [localS, if_pos hb62] | rw [localS, if_neg hb62]
set_option maxHeartbeats 4000000 in
set_option maxRecDepth 100000 in
theorem c_strength (l : Launch) (D : va_G) {so co ta : Nat} {q : Nat → Nat} {len : Int32} {pt : Nat → Int32} {x : Int32} (hp : 0 < pt 5) (hF : fadesOK len pt x) : Met l yX3_strength (ws_ yX3_strength cX3_strength 5 (some .int)) ({ frames := 3, cells := 0, slots := 0, locals := 62 } : Room) (va_Pc [.ref so, .int x] (PW D [oO so 3 [.ref co, .int (pt 0), .int (pt 1), .int (pt 3), .int (pt 4), .int (pt 5), .int (pt 6), .int (pt 7), .int (pt 8), .int (pt 9), .int (pt 10), .int (pt 11), .int (pt 12)], oO co 0 [.int len, .ref ta, .ref (q 0), .ref (q 1)]])) (vp_Si (fun v => v = strS len pt x)) 0 0 (fun _ => False) := by
  refine Met.ofW (cc := cX3_strength) (maxL := 5) (ret := (some .int)) (by decide) rfl ?_
  intro p e s m args below meth c s₁ B hml hv
  obtain ⟨rfl, hG, hP⟩ := hv
  have hx := B.exec
  have hb := B.bytes
  have hr := B.returns
  have hts : ∀ w ∈ wsL_law, w.before _ s = true := fun w h => atoms_spec (ws := (ws_ yX3_strength cX3_strength 5 (some .int))) B.pre w (List.mem_cons_of_mem _ h)
  have hown : s.vm.findClass RX3 = some m.cls := findClass_of_methodNamed B.named
  have hlk := B.notSynchronized
  have hC : CallFix p m c cX3_strength 5 s _ wsL_law RX3 := ⟨hx, hb, hml, hown, hts⟩
  have hl := lv_entry ([.ref so, .int x]) (n := 5) (Nat.le_of_ble_eq_true rfl)
  rw [lg_entry_eq]
  generalize (lg_sl ([.ref so, .int x]) ++ List.replicate (5 - (lg_sl ([.ref so, .int x])).length) Slot.unset).toArray = ls at hl ⊢
  have hl : lv_has ls 5 [(0, .ref so), (1, .int x)] := hl
  refine lv_aload_n hx hb dX3_strength_0 rfl (lv_at hl 0 rfl) ?_
  refine va_get (D := D) (ci := 3) (v := .int (pt 8)) (C := RX3) (T := TX3) (N := 13) hx hb hts inlX3 hown hG.K hP 0 rfl rfl 8 (by decide) (hts _ mF_X3_18) (fun _ h9 => h9) rfl dX3_strength_1 ?_
  refine lv_istore_n (lv' := [(2, .int (pt 8)), (0, .ref so), (1, .int x)]) hx hb dX3_strength_4 rfl hl (by decide) rfl (fun ls hl => ?_)
  refine lv_iload_n hx hb dX3_strength_5 rfl (lv_at hl 2 rfl) ?_
  refine lv_aload_n hx hb dX3_strength_6 rfl (lv_at hl 1 rfl) ?_
  refine va_get (D := D) (ci := 3) (v := .int (pt 1)) (C := RX3) (T := TX3) (N := 13) hx hb hts inlX3 hown hG.K hP 0 rfl rfl 2 (by decide) (hts _ mF_X3_28) (fun _ h9 => h9) rfl dX3_strength_7 ?_
  refine lv_isub hx hb dX3_strength_10 ?_
  refine lv_istore_n (lv' := [(3, .int (x - (pt 1))), (2, .int (pt 8)), (0, .ref so), (1, .int x)]) hx hb dX3_strength_11 rfl hl (by decide) rfl (fun ls hl => ?_)
  refine lv_iload_n hx hb dX3_strength_12 rfl (lv_at hl 0 rfl) ?_
  refine lv_aload_n hx hb dX3_strength_13 rfl (lv_at hl 2 rfl) ?_
  refine va_get (D := D) (ci := 3) (v := .int (pt 11)) (C := RX3) (T := TX3) (N := 13) hx hb hts inlX3 hown hG.K hP 0 rfl rfl 11 (by decide) (hts _ mF_X3_51) (fun _ h9 => h9) rfl dX3_strength_14 ?_
  refine lv_icmp_ge (tgt := 40) hx hb dX3_strength_17 (by decide) (fun c17 => ?_) (fun c17 => ?_)
  · skip
    refine lv_aload_n hx hb dX3_strength_40 rfl (lv_at hl 2 rfl) ?_
    have hP9 := hP
    refine vp_callSi (pV (rest := []) (qc := (RX3, TX3, 13)) [] 0 hC (c_endTime l D (so := so) (co := co) (len := len) (ta := ta) (hp)) rfl (hP 0 _ rfl) (gV mM_X3_37 mI_X3_endTime mS_X3_endTime mN_X3 mC_X3_endTime) (by decide +kernel) rfl rfl ⟨Nat.le_of_ble_eq_true rfl, Nat.le_of_ble_eq_true rfl⟩ hG hP9 rfl hl.1 rfl (Nat.le_of_ble_eq_true rfl) dX3_strength_41 ⟨Nat.le_of_ble_eq_true rfl, Nat.le_of_ble_eq_true rfl⟩) (fun r41 h41 => ?_)
    obtain rfl : r41 = (endS len pt) := h41
    refine lv_iload_n hx hb dX3_strength_44 rfl (lv_at hl 3 rfl) ?_
    refine lv_isub hx hb dX3_strength_45 ?_
    refine lv_istore (lv' := [(4, .int ((endS len pt) - x)), (3, .int (x - (pt 1))), (2, .int (pt 8)), (0, .ref so), (1, .int x)]) hx hb dX3_strength_46 hl (by decide) rfl (fun ls hl => ?_)
    refine lv_aload_n hx hb dX3_strength_48 rfl (lv_at hl 3 rfl) ?_
    refine va_get (D := D) (ci := 3) (v := .int (pt 10)) (C := RX3) (T := TX3) (N := 13) hx hb hts inlX3 hown hG.K hP 0 rfl rfl 10 (by decide) (hts _ mF_X3_48) (fun _ h9 => h9) rfl dX3_strength_49 ?_
    refine lv_if_ne (tgt := 85) hx hb dX3_strength_52 (by decide) (fun c52 => ?_) (fun c52 => ?_)
    · skip
      refine lv_iload_n hx hb dX3_strength_85 rfl (lv_at hl 2 rfl) ?_
      have hE1 : ∀ w : Int32, (¬ pt 11 ≤ x - pt 1 ∧ w = minI (pt 8) (rnd (pt 8 * (x - pt 1)).toInt64 (pt 11).toInt64)) ∨ (pt 11 ≤ x - pt 1 ∧ w = pt 8) → w = str1 pt x := fun w h => by
        rcases h with ⟨h, rfl⟩ | ⟨h, rfl⟩
        · rw [str1, if_pos (Int32.not_le.mp h)]
        · rw [str1, if_neg (Int32.not_lt.mpr h)]
      refine Ri hx hb hr hlk ?_ dX3_strength_86
      show _ = strS len pt x
      rw [strS, if_neg (fun h => c52 h.1), ← hE1 _ (Or.inr ⟨c17, rfl⟩)]
    · skip
      refine lv_iload hx hb dX3_strength_55 (lv_at hl 0 rfl) ?_
      refine lv_aload_n hx hb dX3_strength_57 rfl (lv_at hl 3 rfl) ?_
      refine va_get (D := D) (ci := 3) (v := .int (pt 12)) (C := RX3) (T := TX3) (N := 13) hx hb hts inlX3 hown hG.K hP 0 rfl rfl 12 (by decide) (hts _ mF_X3_54) (fun _ h9 => h9) rfl dX3_strength_58 ?_
      refine lv_icmp_ge (tgt := 85) hx hb dX3_strength_61 (by decide) (fun c61 => ?_) (fun c61 => ?_)
      · skip
        refine lv_iload_n hx hb dX3_strength_85 rfl (lv_at hl 2 rfl) ?_
        have hE1 : ∀ w : Int32, (¬ pt 11 ≤ x - pt 1 ∧ w = minI (pt 8) (rnd (pt 8 * (x - pt 1)).toInt64 (pt 11).toInt64)) ∨ (pt 11 ≤ x - pt 1 ∧ w = pt 8) → w = str1 pt x := fun w h => by
          rcases h with ⟨h, rfl⟩ | ⟨h, rfl⟩
          · rw [str1, if_pos (Int32.not_le.mp h)]
          · rw [str1, if_neg (Int32.not_lt.mpr h)]
        refine Ri hx hb hr hlk ?_ dX3_strength_86
        show _ = strS len pt x
        rw [strS, if_neg (fun h => absurd c61 (Int32.not_le.mpr h.2)), ← hE1 _ (Or.inr ⟨c17, rfl⟩)]
      · skip
        have c61 := Int32.not_le.mp c61
        refine lv_iload_n hx hb dX3_strength_64 rfl (lv_at hl 2 rfl) ?_
        refine lv_aload_n hx hb dX3_strength_65 rfl (lv_at hl 3 rfl) ?_
        refine va_get (D := D) (ci := 3) (v := .int (pt 8)) (C := RX3) (T := TX3) (N := 13) hx hb hts inlX3 hown hG.K hP 0 rfl rfl 8 (by decide) (hts _ mF_X3_18) (fun _ h9 => h9) rfl dX3_strength_66 ?_
        refine lv_iload hx hb dX3_strength_69 (lv_at hl 0 rfl) ?_
        refine lv_imul hx hb dX3_strength_71 ?_
        refine lv_i2l hx hb dX3_strength_72 rfl ?_
        refine lv_aload_n hx hb dX3_strength_73 rfl (lv_at hl 3 rfl) ?_
        refine va_get (D := D) (ci := 3) (v := .int (pt 12)) (C := RX3) (T := TX3) (N := 13) hx hb hts inlX3 hown hG.K hP 0 rfl rfl 12 (by decide) (hts _ mF_X3_54) (fun _ h9 => h9) rfl dX3_strength_74 ?_
        refine lv_i2l hx hb dX3_strength_77 rfl ?_
        have hP9 : va_P D cls [] s.heap := fun k q h => by simp at h
        refine vp_callSi (pSN (rest := [.int (pt 8)]) [.long (((pt 8) * ((endS len pt) - x)).toInt64), .long ((pt 12).toInt64)] 2 hC (c_rounded l D (x := ((pt 8) * ((endS len pt) - x)).toInt64) (y := (pt 12).toInt64) ((dp1 (hF.2 c52 c61)).1) ((dp1 (hF.2 c52 c61)).2)) (nM_KeyStage_Strip_85 hG) mT_X5_rounded mN_X5 mC_X5_rounded (by decide +kernel) rfl rfl ⟨Nat.le_of_ble_eq_true rfl, Nat.le_of_ble_eq_true rfl⟩ hG hP9 rfl hl.1 rfl (Nat.le_of_ble_eq_true rfl) dX3_strength_78 ⟨Nat.le_of_ble_eq_true rfl, Nat.le_of_ble_eq_true rfl⟩) (fun r78 h78 => ?_)
        obtain rfl : r78 = (rnd (((pt 8) * ((endS len pt) - x)).toInt64) ((pt 12).toInt64)) := h78
        refine va_mmin hx hb (by rw [hml]; exact hl.1.symm) hown (hts _ mM_X3_76) (hts _ mT_Lib_Math_min_name) (hts _ mN__java_lang_Math_) (hts _ mC_Lib_Math_min_name) (Nat.le_of_ble_eq_true rfl) (Nat.le_of_ble_eq_true rfl) (Nat.le_of_ble_eq_true rfl) (Nat.le_of_ble_eq_true rfl) dX3_strength_81 ?_
        refine tpi (y := minI (pt 8) (rnd (pt 8 * (endS len pt - x)).toInt64 (pt 12).toInt64)) (rfl) ?_
        refine lv_istore_n (lv' := [(2, .int (minI (pt 8) (rnd (pt 8 * (endS len pt - x)).toInt64 (pt 12).toInt64))), (4, .int ((endS len pt) - x)), (3, .int (x - (pt 1))), (0, .ref so), (1, .int x)]) hx hb dX3_strength_84 rfl hl (by decide) rfl (fun ls hl => ?_)
        refine lv_iload_n hx hb dX3_strength_85 rfl (lv_at hl 0 rfl) ?_
        have hE1 : ∀ w : Int32, (¬ pt 11 ≤ x - pt 1 ∧ w = minI (pt 8) (rnd (pt 8 * (x - pt 1)).toInt64 (pt 11).toInt64)) ∨ (pt 11 ≤ x - pt 1 ∧ w = pt 8) → w = str1 pt x := fun w h => by
          rcases h with ⟨h, rfl⟩ | ⟨h, rfl⟩
          · rw [str1, if_pos (Int32.not_le.mp h)]
          · rw [str1, if_neg (Int32.not_lt.mpr h)]
        refine Ri hx hb hr hlk ?_ dX3_strength_86
        show _ = strS len pt x
        rw [strS, if_pos (And.intro c52 c61), ← hE1 _ (Or.inr ⟨c17, rfl⟩)]
  · skip
    have c17 := Int32.not_le.mp c17
    refine lv_iload_n hx hb dX3_strength_20 rfl (lv_at hl 1 rfl) ?_
    refine lv_aload_n hx hb dX3_strength_21 rfl (lv_at hl 2 rfl) ?_
    refine va_get (D := D) (ci := 3) (v := .int (pt 8)) (C := RX3) (T := TX3) (N := 13) hx hb hts inlX3 hown hG.K hP 0 rfl rfl 8 (by decide) (hts _ mF_X3_18) (fun _ h9 => h9) rfl dX3_strength_22 ?_
    refine lv_iload_n hx hb dX3_strength_25 rfl (lv_at hl 0 rfl) ?_
    refine lv_imul hx hb dX3_strength_26 ?_
    refine lv_i2l hx hb dX3_strength_27 rfl ?_
    refine lv_aload_n hx hb dX3_strength_28 rfl (lv_at hl 2 rfl) ?_
    refine va_get (D := D) (ci := 3) (v := .int (pt 11)) (C := RX3) (T := TX3) (N := 13) hx hb hts inlX3 hown hG.K hP 0 rfl rfl 11 (by decide) (hts _ mF_X3_51) (fun _ h9 => h9) rfl dX3_strength_29 ?_
    refine lv_i2l hx hb dX3_strength_32 rfl ?_
    have hP9 : va_P D cls [] s.heap := fun k q h => by simp at h
    refine vp_callSi (pSN (rest := [.int (pt 8)]) [.long (((pt 8) * (x - (pt 1))).toInt64), .long ((pt 11).toInt64)] 2 hC (c_rounded l D (x := ((pt 8) * (x - (pt 1))).toInt64) (y := (pt 11).toInt64) ((dp1 (hF.1 c17)).1) ((dp1 (hF.1 c17)).2)) (nM_KeyStage_Strip_85 hG) mT_X5_rounded mN_X5 mC_X5_rounded (by decide +kernel) rfl rfl ⟨Nat.le_of_ble_eq_true rfl, Nat.le_of_ble_eq_true rfl⟩ hG hP9 rfl hl.1 rfl (Nat.le_of_ble_eq_true rfl) dX3_strength_33 ⟨Nat.le_of_ble_eq_true rfl, Nat.le_of_ble_eq_true rfl⟩) (fun r33 h33 => ?_)
    obtain rfl : r33 = (rnd (((pt 8) * (x - (pt 1))).toInt64) ((pt 11).toInt64)) := h33
    refine va_mmin hx hb (by rw [hml]; exact hl.1.symm) hown (hts _ mM_X3_76) (hts _ mT_Lib_Math_min_name) (hts _ mN__java_lang_Math_) (hts _ mC_Lib_Math_min_name) (Nat.le_of_ble_eq_true rfl) (Nat.le_of_ble_eq_true rfl) (Nat.le_of_ble_eq_true rfl) (Nat.le_of_ble_eq_true rfl) dX3_strength_36 ?_
    refine tpi (y := minI (pt 8) (rnd (pt 8 * (x - pt 1)).toInt64 (pt 11).toInt64)) (rfl) ?_
    refine lv_istore_n (lv' := [(2, .int (minI (pt 8) (rnd (pt 8 * (x - pt 1)).toInt64 (pt 11).toInt64))), (3, .int (x - (pt 1))), (0, .ref so), (1, .int x)]) hx hb dX3_strength_39 rfl hl (by decide) rfl (fun ls hl => ?_)
    refine lv_aload_n hx hb dX3_strength_40 rfl (lv_at hl 2 rfl) ?_
    have hP9 := hP
    refine vp_callSi (pV (rest := []) (qc := (RX3, TX3, 13)) [] 0 hC (c_endTime l D (so := so) (co := co) (len := len) (ta := ta) (hp)) rfl (hP 0 _ rfl) (gV mM_X3_37 mI_X3_endTime mS_X3_endTime mN_X3 mC_X3_endTime) (by decide +kernel) rfl rfl ⟨Nat.le_of_ble_eq_true rfl, Nat.le_of_ble_eq_true rfl⟩ hG hP9 rfl hl.1 rfl (Nat.le_of_ble_eq_true rfl) dX3_strength_41 ⟨Nat.le_of_ble_eq_true rfl, Nat.le_of_ble_eq_true rfl⟩) (fun r41 h41 => ?_)
    obtain rfl : r41 = (endS len pt) := h41
    refine lv_iload_n hx hb dX3_strength_44 rfl (lv_at hl 3 rfl) ?_
    refine lv_isub hx hb dX3_strength_45 ?_
    refine lv_istore (lv' := [(4, .int ((endS len pt) - x)), (2, .int (minI (pt 8) (rnd (pt 8 * (x - pt 1)).toInt64 (pt 11).toInt64))), (3, .int (x - (pt 1))), (0, .ref so), (1, .int x)]) hx hb dX3_strength_46 hl (by decide) rfl (fun ls hl => ?_)
    refine lv_aload_n hx hb dX3_strength_48 rfl (lv_at hl 3 rfl) ?_
    refine va_get (D := D) (ci := 3) (v := .int (pt 10)) (C := RX3) (T := TX3) (N := 13) hx hb hts inlX3 hown hG.K hP 0 rfl rfl 10 (by decide) (hts _ mF_X3_48) (fun _ h9 => h9) rfl dX3_strength_49 ?_
    refine lv_if_ne (tgt := 85) hx hb dX3_strength_52 (by decide) (fun c52 => ?_) (fun c52 => ?_)
    · skip
      refine lv_iload_n hx hb dX3_strength_85 rfl (lv_at hl 1 rfl) ?_
      have hE1 : ∀ w : Int32, (¬ pt 11 ≤ x - pt 1 ∧ w = minI (pt 8) (rnd (pt 8 * (x - pt 1)).toInt64 (pt 11).toInt64)) ∨ (pt 11 ≤ x - pt 1 ∧ w = pt 8) → w = str1 pt x := fun w h => by
        rcases h with ⟨h, rfl⟩ | ⟨h, rfl⟩
        · rw [str1, if_pos (Int32.not_le.mp h)]
        · rw [str1, if_neg (Int32.not_lt.mpr h)]
      refine Ri hx hb hr hlk ?_ dX3_strength_86
      show _ = strS len pt x
      rw [strS, if_neg (fun h => c52 h.1), ← hE1 _ (Or.inl ⟨Int32.not_le.mpr c17, rfl⟩)]
    · skip
      refine lv_iload hx hb dX3_strength_55 (lv_at hl 0 rfl) ?_
      refine lv_aload_n hx hb dX3_strength_57 rfl (lv_at hl 3 rfl) ?_
      refine va_get (D := D) (ci := 3) (v := .int (pt 12)) (C := RX3) (T := TX3) (N := 13) hx hb hts inlX3 hown hG.K hP 0 rfl rfl 12 (by decide) (hts _ mF_X3_54) (fun _ h9 => h9) rfl dX3_strength_58 ?_
      refine lv_icmp_ge (tgt := 85) hx hb dX3_strength_61 (by decide) (fun c61 => ?_) (fun c61 => ?_)
      · skip
        refine lv_iload_n hx hb dX3_strength_85 rfl (lv_at hl 1 rfl) ?_
        have hE1 : ∀ w : Int32, (¬ pt 11 ≤ x - pt 1 ∧ w = minI (pt 8) (rnd (pt 8 * (x - pt 1)).toInt64 (pt 11).toInt64)) ∨ (pt 11 ≤ x - pt 1 ∧ w = pt 8) → w = str1 pt x := fun w h => by
          rcases h with ⟨h, rfl⟩ | ⟨h, rfl⟩
          · rw [str1, if_pos (Int32.not_le.mp h)]
          · rw [str1, if_neg (Int32.not_lt.mpr h)]
        refine Ri hx hb hr hlk ?_ dX3_strength_86
        show _ = strS len pt x
        rw [strS, if_neg (fun h => absurd c61 (Int32.not_le.mpr h.2)), ← hE1 _ (Or.inl ⟨Int32.not_le.mpr c17, rfl⟩)]
      · skip
        have c61 := Int32.not_le.mp c61
        refine lv_iload_n hx hb dX3_strength_64 rfl (lv_at hl 1 rfl) ?_
        refine lv_aload_n hx hb dX3_strength_65 rfl (lv_at hl 3 rfl) ?_
        refine va_get (D := D) (ci := 3) (v := .int (pt 8)) (C := RX3) (T := TX3) (N := 13) hx hb hts inlX3 hown hG.K hP 0 rfl rfl 8 (by decide) (hts _ mF_X3_18) (fun _ h9 => h9) rfl dX3_strength_66 ?_
        refine lv_iload hx hb dX3_strength_69 (lv_at hl 0 rfl) ?_
        refine lv_imul hx hb dX3_strength_71 ?_
        refine lv_i2l hx hb dX3_strength_72 rfl ?_
        refine lv_aload_n hx hb dX3_strength_73 rfl (lv_at hl 3 rfl) ?_
        refine va_get (D := D) (ci := 3) (v := .int (pt 12)) (C := RX3) (T := TX3) (N := 13) hx hb hts inlX3 hown hG.K hP 0 rfl rfl 12 (by decide) (hts _ mF_X3_54) (fun _ h9 => h9) rfl dX3_strength_74 ?_
        refine lv_i2l hx hb dX3_strength_77 rfl ?_
        have hP9 : va_P D cls [] s.heap := fun k q h => by simp at h
        refine vp_callSi (pSN (rest := [.int (minI (pt 8) (rnd (pt 8 * (x - pt 1)).toInt64 (pt 11).toInt64))]) [.long (((pt 8) * ((endS len pt) - x)).toInt64), .long ((pt 12).toInt64)] 2 hC (c_rounded l D (x := ((pt 8) * ((endS len pt) - x)).toInt64) (y := (pt 12).toInt64) ((dp1 (hF.2 c52 c61)).1) ((dp1 (hF.2 c52 c61)).2)) (nM_KeyStage_Strip_85 hG) mT_X5_rounded mN_X5 mC_X5_rounded (by decide +kernel) rfl rfl ⟨Nat.le_of_ble_eq_true rfl, Nat.le_of_ble_eq_true rfl⟩ hG hP9 rfl hl.1 rfl (Nat.le_of_ble_eq_true rfl) dX3_strength_78 ⟨Nat.le_of_ble_eq_true rfl, Nat.le_of_ble_eq_true rfl⟩) (fun r78 h78 => ?_)
        obtain rfl : r78 = (rnd (((pt 8) * ((endS len pt) - x)).toInt64) ((pt 12).toInt64)) := h78
        refine va_mmin hx hb (by rw [hml]; exact hl.1.symm) hown (hts _ mM_X3_76) (hts _ mT_Lib_Math_min_name) (hts _ mN__java_lang_Math_) (hts _ mC_Lib_Math_min_name) (Nat.le_of_ble_eq_true rfl) (Nat.le_of_ble_eq_true rfl) (Nat.le_of_ble_eq_true rfl) (Nat.le_of_ble_eq_true rfl) dX3_strength_81 ?_
        refine tpi (y := minI (minI (pt 8) (rnd (pt 8 * (x - pt 1)).toInt64 (pt 11).toInt64)) (rnd (pt 8 * (endS len pt - x)).toInt64 (pt 12).toInt64)) (rfl) ?_
        refine lv_istore_n (lv' := [(2, .int (minI (minI (pt 8) (rnd (pt 8 * (x - pt 1)).toInt64 (pt 11).toInt64)) (rnd (pt 8 * (endS len pt - x)).toInt64 (pt 12).toInt64))), (4, .int ((endS len pt) - x)), (3, .int (x - (pt 1))), (0, .ref so), (1, .int x)]) hx hb dX3_strength_84 rfl hl (by decide) rfl (fun ls hl => ?_)
        refine lv_iload_n hx hb dX3_strength_85 rfl (lv_at hl 0 rfl) ?_
        have hE1 : ∀ w : Int32, (¬ pt 11 ≤ x - pt 1 ∧ w = minI (pt 8) (rnd (pt 8 * (x - pt 1)).toInt64 (pt 11).toInt64)) ∨ (pt 11 ≤ x - pt 1 ∧ w = pt 8) → w = str1 pt x := fun w h => by
          rcases h with ⟨h, rfl⟩ | ⟨h, rfl⟩
          · rw [str1, if_pos (Int32.not_le.mp h)]
          · rw [str1, if_neg (Int32.not_lt.mpr h)]
        refine Ri hx hb hr hlk ?_ dX3_strength_86
        show _ = strS len pt x
        rw [strS, if_pos (And.intro c52 c61), ← hE1 _ (Or.inl ⟨Int32.not_le.mpr c17, rfl⟩)]
set_option maxHeartbeats 4000000 in
set_option maxRecDepth 100000 in
theorem c_meetingTime (l : Launch) (D : va_G) {so co ta : Nat} {q : Nat → Nat} {len : Int32} {pt : Nat → Int32} {x y : Int32} (hp : 0 < pt 5) : Met l yX3_meetingTime (ws_ yX3_meetingTime cX3_meetingTime 4 (some .int)) ({ frames := 2, cells := 0, slots := 0, locals := 42 } : Room) (va_Pc [.ref so, .int x, .int y] (PW D [oO so 3 [.ref co, .int (pt 0), .int (pt 1), .int (pt 3), .int (pt 4), .int (pt 5), .int (pt 6), .int (pt 7), .int (pt 8), .int (pt 9), .int (pt 10), .int (pt 11), .int (pt 12)], oO co 0 [.int len, .ref ta, .ref (q 0), .ref (q 1)]])) (vp_Si (fun v => v = meetS len pt x y)) 0 0 (fun _ => False) := by
  refine Met.ofW (cc := cX3_meetingTime) (maxL := 4) (ret := (some .int)) (by decide) rfl ?_
  intro p e s m args below meth c s₁ B hml hv
  obtain ⟨rfl, hG, hP⟩ := hv
  have hx := B.exec
  have hb := B.bytes
  have hr := B.returns
  have hts : ∀ w ∈ wsL_law, w.before _ s = true := fun w h => atoms_spec (ws := (ws_ yX3_meetingTime cX3_meetingTime 4 (some .int))) B.pre w (List.mem_cons_of_mem _ h)
  have hown : s.vm.findClass RX3 = some m.cls := findClass_of_methodNamed B.named
  have hlk := B.notSynchronized
  have hC : CallFix p m c cX3_meetingTime 4 s _ wsL_law RX3 := ⟨hx, hb, hml, hown, hts⟩
  have hl := lv_entry ([.ref so, .int x, .int y]) (n := 4) (Nat.le_of_ble_eq_true rfl)
  rw [lg_entry_eq]
  generalize (lg_sl ([.ref so, .int x, .int y]) ++ List.replicate (4 - (lg_sl ([.ref so, .int x, .int y])).length) Slot.unset).toArray = ls at hl ⊢
  have hl : lv_has ls 4 [(0, .ref so), (1, .int x), (2, .int y)] := hl
  refine lv_aload_n hx hb dX3_meetingTime_0 rfl (lv_at hl 0 rfl) ?_
  refine lv_iload_n hx hb dX3_meetingTime_1 rfl (lv_at hl 1 rfl) ?_
  have hP9 := hP
  refine vp_callSi (pV (rest := []) (qc := (RX3, TX3, 13)) [.int x] 1 hC (c_isBackwards l D (so := so) (x := x) (co := co) (len := len) (ta := ta) ) rfl (hP 0 _ rfl) (gV mM_X3_81 mI_X3_isBackwards mS_X3_isBackwards mN_X3 mC_X3_isBackwards) (by decide +kernel) rfl rfl ⟨Nat.le_of_ble_eq_true rfl, Nat.le_of_ble_eq_true rfl⟩ hG hP9 rfl hl.1 rfl (Nat.le_of_ble_eq_true rfl) dX3_meetingTime_2 ⟨Nat.le_of_ble_eq_true rfl, Nat.le_of_ble_eq_true rfl⟩) (fun r2 h2 => ?_)
  rcases h2 with ⟨rfl, hb2⟩ | ⟨rfl, hb2⟩
  · skip
    refine lv_if_eq (tgt := 20) hx hb dX3_meetingTime_5 (by decide) (fun h9 => absurd h9 (by decide)) (fun _ => ?_)
    refine lv_aload_n hx hb dX3_meetingTime_8 rfl (lv_at hl 0 rfl) ?_
    refine va_get (D := D) (ci := 3) (v := .ref co) (C := RX3) (T := TX3) (N := 13) hx hb hts inlX3 hown hG.K hP 0 rfl rfl 0 (by decide) (hts _ mF_X3_21) (fun _ h9 => h9) rfl dX3_meetingTime_9 ?_
    refine va_getN (D := D) (ci := 0) (v := .int len) (C := RX0) (T := TX0) (N := 4) hx hb hts inlX0 hown hG.K hP 1 rfl rfl 0 (by decide) (va_Nw.use rfl (nF_KeyStage_Strip_57 hG)) (fun _ h9 => h9) rfl dX3_meetingTime_12 ?_
    refine lv_iload_n hx hb dX3_meetingTime_15 rfl (lv_at hl 2 rfl) ?_
    refine lv_isub hx hb dX3_meetingTime_16 ?_
    refine lv_goto (tgt := 21) hx hb dX3_meetingTime_17 (by decide) ?_
    refine lv_istore_n (lv' := [(3, .int (len - y)), (0, .ref so), (1, .int x), (2, .int y)]) hx hb dX3_meetingTime_21 rfl hl (by decide) rfl (fun ls hl => ?_)
    refine lv_aload_n hx hb dX3_meetingTime_22 rfl (lv_at hl 1 rfl) ?_
    refine lv_iload_n hx hb dX3_meetingTime_23 rfl (lv_at hl 2 rfl) ?_
    refine lv_aload_n hx hb dX3_meetingTime_24 rfl (lv_at hl 1 rfl) ?_
    refine va_get (D := D) (ci := 3) (v := .ref co) (C := RX3) (T := TX3) (N := 13) hx hb hts inlX3 hown hG.K hP 0 rfl rfl 0 (by decide) (hts _ mF_X3_21) (fun _ h9 => h9) rfl dX3_meetingTime_25 ?_
    refine va_getN (D := D) (ci := 0) (v := .int len) (C := RX0) (T := TX0) (N := 4) hx hb hts inlX0 hown hG.K hP 1 rfl rfl 0 (by decide) (va_Nw.use rfl (nF_KeyStage_Strip_57 hG)) (fun _ h9 => h9) rfl dX3_meetingTime_28 ?_
    refine lv_imul hx hb dX3_meetingTime_31 ?_
    refine lv_iload_n hx hb dX3_meetingTime_32 rfl (lv_at hl 0 rfl) ?_
    refine lv_iadd hx hb dX3_meetingTime_33 ?_
    have hP9 := hP
    refine vp_callSi (pV (rest := []) (qc := (RX3, TX3, 13)) [.int ((x * len) + (len - y))] 1 hC (c_timeOfTick l D (so := so) (x := (x * len) + (len - y)) (co := co) (len := len) (ta := ta) (hp)) rfl (hP 0 _ rfl) (gV mM_X3_69 mI_X3_timeOfTick mS_X3_timeOfTick mN_X3 mC_X3_timeOfTick) (by decide +kernel) rfl rfl ⟨Nat.le_of_ble_eq_true rfl, Nat.le_of_ble_eq_true rfl⟩ hG hP9 rfl hl.1 rfl (Nat.le_of_ble_eq_true rfl) dX3_meetingTime_34 ⟨Nat.le_of_ble_eq_true rfl, Nat.le_of_ble_eq_true rfl⟩) (fun r34 h34 => ?_)
    obtain rfl : r34 = (timeOfS pt ((x * len) + (len - y))) := h34
    refine Ri hx hb hr hlk ?_ dX3_meetingTime_37
    show _ = meetS len pt x y
    first | rw [meetS, if_pos hb2] | rw [meetS, if_neg hb2]
  · skip
    refine lv_if_eq (tgt := 20) hx hb dX3_meetingTime_5 (by decide) (fun _ => ?_) (fun h9 => (h9 (by decide)).elim)
    refine lv_iload_n hx hb dX3_meetingTime_20 rfl (lv_at hl 2 rfl) ?_
    refine lv_istore_n (lv' := [(3, .int y), (0, .ref so), (1, .int x), (2, .int y)]) hx hb dX3_meetingTime_21 rfl hl (by decide) rfl (fun ls hl => ?_)
    refine lv_aload_n hx hb dX3_meetingTime_22 rfl (lv_at hl 1 rfl) ?_
    refine lv_iload_n hx hb dX3_meetingTime_23 rfl (lv_at hl 2 rfl) ?_
    refine lv_aload_n hx hb dX3_meetingTime_24 rfl (lv_at hl 1 rfl) ?_
    refine va_get (D := D) (ci := 3) (v := .ref co) (C := RX3) (T := TX3) (N := 13) hx hb hts inlX3 hown hG.K hP 0 rfl rfl 0 (by decide) (hts _ mF_X3_21) (fun _ h9 => h9) rfl dX3_meetingTime_25 ?_
    refine va_getN (D := D) (ci := 0) (v := .int len) (C := RX0) (T := TX0) (N := 4) hx hb hts inlX0 hown hG.K hP 1 rfl rfl 0 (by decide) (va_Nw.use rfl (nF_KeyStage_Strip_57 hG)) (fun _ h9 => h9) rfl dX3_meetingTime_28 ?_
    refine lv_imul hx hb dX3_meetingTime_31 ?_
    refine lv_iload_n hx hb dX3_meetingTime_32 rfl (lv_at hl 0 rfl) ?_
    refine lv_iadd hx hb dX3_meetingTime_33 ?_
    have hP9 := hP
    refine vp_callSi (pV (rest := []) (qc := (RX3, TX3, 13)) [.int ((x * len) + y)] 1 hC (c_timeOfTick l D (so := so) (x := (x * len) + y) (co := co) (len := len) (ta := ta) (hp)) rfl (hP 0 _ rfl) (gV mM_X3_69 mI_X3_timeOfTick mS_X3_timeOfTick mN_X3 mC_X3_timeOfTick) (by decide +kernel) rfl rfl ⟨Nat.le_of_ble_eq_true rfl, Nat.le_of_ble_eq_true rfl⟩ hG hP9 rfl hl.1 rfl (Nat.le_of_ble_eq_true rfl) dX3_meetingTime_34 ⟨Nat.le_of_ble_eq_true rfl, Nat.le_of_ble_eq_true rfl⟩) (fun r34 h34 => ?_)
    obtain rfl : r34 = (timeOfS pt ((x * len) + y)) := h34
    refine Ri hx hb hr hlk ?_ dX3_meetingTime_37
    show _ = meetS len pt x y
    first | rw [meetS, if_pos hb2] | rw [meetS, if_neg hb2]
set_option maxHeartbeats 4000000 in
set_option maxRecDepth 100000 in
theorem c_blended (l : Launch) (D : va_G) {so co ta : Nat} {q : Nat → Nat} {len : Int32} {pt : Nat → Int32} {j r1 r2 r3 a1 a2 a3 sz : Nat} {t : Nat → Nat} {ft fv fe : Nat → Int32} {v x : Int32} (hp : 0 < pt 5) (hq : 0 < pt 6) (hln : 0 < len) (hj : j < 4) (hs : sz ≤ 16) (hT : tOK ft sz) (hF : isOnS len pt x → fadesOK len pt x) : Met l yX3_blended (ws_ yX3_blended cX3_blended 7 (some .int)) ({ frames := 4, cells := 0, slots := 0, locals := 101 } : Room) (va_Pc [.ref so, .int v, .int (nI j), .int x] (PW D [oO so 3 [.ref co, .int (pt 0), .int (pt 1), .int (pt 3), .int (pt 4), .int (pt 5), .int (pt 6), .int (pt 7), .int (pt 8), .int (pt 9), .int (pt 10), .int (pt 11), .int (pt 12)], oO co 0 [.int len, .ref ta, .ref (q 0), .ref (q 1)], aT D ta 4 (tkF t), oO (t j) 4 [.ref r1, .ref r2, .ref r3], oO r1 2 [.ref a1, .int (nI sz)], oO r2 2 [.ref a2, .int (nI sz)], oO r3 2 [.ref a3, .int (nI sz)], aI D a1 16 ft, aI D a2 16 fv, aI D a3 16 fe])) (vp_Si (fun w => w = blendS len pt sz ft fv fe v x)) 0 0 (fun _ => False) := by
  refine Met.ofW (cc := cX3_blended) (maxL := 7) (ret := (some .int)) (by decide) rfl ?_
  intro p e s m args below meth c s₁ B hml hv
  obtain ⟨rfl, hG, hP⟩ := hv
  have hx := B.exec
  have hb := B.bytes
  have hr := B.returns
  have hts : ∀ w ∈ wsL_law, w.before _ s = true := fun w h => atoms_spec (ws := (ws_ yX3_blended cX3_blended 7 (some .int))) B.pre w (List.mem_cons_of_mem _ h)
  have hown : s.vm.findClass RX3 = some m.cls := findClass_of_methodNamed B.named
  have hlk := B.notSynchronized
  have hC : CallFix p m c cX3_blended 7 s _ wsL_law RX3 := ⟨hx, hb, hml, hown, hts⟩
  have hl := lv_entry ([.ref so, .int v, .int (nI j), .int x]) (n := 7) (Nat.le_of_ble_eq_true rfl)
  rw [lg_entry_eq]
  generalize (lg_sl ([.ref so, .int v, .int (nI j), .int x]) ++ List.replicate (7 - (lg_sl ([.ref so, .int v, .int (nI j), .int x])).length) Slot.unset).toArray = ls at hl ⊢
  have hl : lv_has ls 7 [(0, .ref so), (1, .int v), (2, .int (nI j)), (3, .int x)] := hl
  refine lv_aload_n hx hb dX3_blended_0 rfl (lv_at hl 0 rfl) ?_
  refine va_get (D := D) (ci := 3) (v := .ref co) (C := RX3) (T := TX3) (N := 13) hx hb hts inlX3 hown hG.K hP 0 rfl rfl 0 (by decide) (hts _ mF_X3_21) (fun _ h9 => h9) rfl dX3_blended_1 ?_
  refine lv_iload_n hx hb dX3_blended_4 rfl (lv_at hl 2 rfl) ?_
  have hP9 := hP.sub (ws' := [oO co 0 [.int len, .ref ta, .ref (q 0), .ref (q 1)], aT D ta 4 (tkF t)]) [1, 2] rfl
  refine va_csq (pV (rest := []) (qc := (RX0, TX0, 4)) [.int (nI j)] 1 hC (c_trackOrNull l D (co := co) (j := j) (len := len) (ta := ta) (by omega)) rfl (hP 1 _ rfl) (gV mM_X3_89 mI_X0_trackOrNull mS_X0_trackOrNull mN_X0 mC_X0_trackOrNull) (by decide +kernel) rfl rfl ⟨Nat.le_of_ble_eq_true rfl, Nat.le_of_ble_eq_true rfl⟩ hG hP9 rfl hl.1 rfl (Nat.le_of_ble_eq_true rfl) dX3_blended_5 ⟨Nat.le_of_ble_eq_true rfl, Nat.le_of_ble_eq_true rfl⟩) (fun r5 h5 => ?_)
  obtain rfl : r5 = (some (t j)) := h5
  refine tpv (y := .ref (t j)) rfl ?_
  refine lv_astore (lv' := [(4, .ref (t j)), (0, .ref so), (1, .int v), (2, .int (nI j)), (3, .int x)]) hx hb dX3_blended_8 hl (by decide) rfl (fun ls hl => ?_)
  refine lv_aload hx hb dX3_blended_10 (lv_at hl 0 rfl) ?_
  refine lv_ifnull hx hb dX3_blended_12 ?_
  refine lv_aload hx hb dX3_blended_15 (lv_at hl 0 rfl) ?_
  have hP9 := hP.sub (ws' := [oO (t j) 4 [.ref r1, .ref r2, .ref r3], oO r1 2 [.ref a1, .int (nI sz)], oO r2 2 [.ref a2, .int (nI sz)], oO r3 2 [.ref a3, .int (nI sz)], aI D a1 16 ft, aI D a2 16 fv, aI D a3 16 fe]) [3, 4, 5, 6, 7, 8, 9] rfl
  refine vp_callSi (pV (rest := []) (qc := (RX4, TX4, 3)) [] 0 hC (c_count l D (t := t j) (r1 := r1) (r2 := r2) (r3 := r3) (a1 := a1) (sz := sz) (a2 := a2) (a3 := a3) (ft := ft) (fv := fv) (fe := fe) ) rfl (hP 3 _ rfl) (gV mM_X3_93 mI_X4_count mS_X4_count mN_X4 mC_X4_count) (by decide +kernel) rfl rfl ⟨Nat.le_of_ble_eq_true rfl, Nat.le_of_ble_eq_true rfl⟩ hG hP9 rfl hl.1 rfl (Nat.le_of_ble_eq_true rfl) dX3_blended_17 ⟨Nat.le_of_ble_eq_true rfl, Nat.le_of_ble_eq_true rfl⟩) (fun r17 h17 => ?_)
  obtain rfl : r17 = (nI sz) := h17
  refine lv_if_eq (tgt := 31) hx hb dX3_blended_20 (by decide) (fun c20 => ?_) (fun c20 => ?_)
  · skip
    have n20 := (nI_eq (a := sz) (b := 0) (by omega) (by omega)).mp c20
    refine lv_iload_n hx hb dX3_blended_31 rfl (lv_at hl 2 rfl) ?_
    refine Ri hx hb hr hlk ?_ dX3_blended_32
    show _ = blendS _ _ _ _ _ _ _ _
    first | rw [blendS, if_pos n20] | rw [blendS, if_neg n20, if_neg hb25]
  · skip
    have n20 := mt (nI_eq (a := sz) (b := 0) (by omega) (by omega)).mpr c20
    refine lv_aload_n hx hb dX3_blended_23 rfl (lv_at hl 1 rfl) ?_
    refine lv_iload_n hx hb dX3_blended_24 rfl (lv_at hl 4 rfl) ?_
    have hP9 := hP.sub (ws' := [oO so 3 [.ref co, .int (pt 0), .int (pt 1), .int (pt 3), .int (pt 4), .int (pt 5), .int (pt 6), .int (pt 7), .int (pt 8), .int (pt 9), .int (pt 10), .int (pt 11), .int (pt 12)], oO co 0 [.int len, .ref ta, .ref (q 0), .ref (q 1)]]) [0, 1] rfl
    refine vp_callSi (pV (rest := []) (qc := (RX3, TX3, 13)) [.int x] 1 hC (c_isOn l D (so := so) (x := x) (co := co) (len := len) (ta := ta) (hp)) rfl (hP 0 _ rfl) (gV mM_X3_98 mI_X3_isOn mS_X3_isOn mN_X3 mC_X3_isOn) (by decide +kernel) rfl rfl ⟨Nat.le_of_ble_eq_true rfl, Nat.le_of_ble_eq_true rfl⟩ hG hP9 rfl hl.1 rfl (Nat.le_of_ble_eq_true rfl) dX3_blended_25 ⟨Nat.le_of_ble_eq_true rfl, Nat.le_of_ble_eq_true rfl⟩) (fun r25 h25 => ?_)
    rcases h25 with ⟨rfl, hb25⟩ | ⟨rfl, hb25⟩
    · skip
      refine lv_if_ne (tgt := 33) hx hb dX3_blended_28 (by decide) (fun _ => ?_) (fun h9 => absurd h9 (by decide))
      refine lv_aload hx hb dX3_blended_33 (lv_at hl 0 rfl) ?_
      refine lv_aload_n hx hb dX3_blended_35 rfl (lv_at hl 1 rfl) ?_
      refine lv_iload_n hx hb dX3_blended_36 rfl (lv_at hl 4 rfl) ?_
      have hP9 := hP.sub (ws' := [oO so 3 [.ref co, .int (pt 0), .int (pt 1), .int (pt 3), .int (pt 4), .int (pt 5), .int (pt 6), .int (pt 7), .int (pt 8), .int (pt 9), .int (pt 10), .int (pt 11), .int (pt 12)], oO co 0 [.int len, .ref ta, .ref (q 0), .ref (q 1)]]) [0, 1] rfl
      refine vp_callSi (pV (rest := [.ref (t j)]) (qc := (RX3, TX3, 13)) [.int x] 1 hC (c_localTime l D (so := so) (x := x) (co := co) (len := len) (ta := ta) (hq) (hln)) rfl (hP 0 _ rfl) (gV mM_X3_101 mI_X3_localTime mS_X3_localTime mN_X3 mC_X3_localTime) (by decide +kernel) rfl rfl ⟨Nat.le_of_ble_eq_true rfl, Nat.le_of_ble_eq_true rfl⟩ hG hP9 rfl hl.1 rfl (Nat.le_of_ble_eq_true rfl) dX3_blended_37 ⟨Nat.le_of_ble_eq_true rfl, Nat.le_of_ble_eq_true rfl⟩) (fun r37 h37 => ?_)
      obtain rfl : r37 = (localS len pt x) := h37
      have hP9 := hP.sub (ws' := [oO (t j) 4 [.ref r1, .ref r2, .ref r3], oO r1 2 [.ref a1, .int (nI sz)], oO r2 2 [.ref a2, .int (nI sz)], oO r3 2 [.ref a3, .int (nI sz)], aI D a1 16 ft, aI D a2 16 fv, aI D a3 16 fe]) [3, 4, 5, 6, 7, 8, 9] rfl
      refine vp_callSi (pV (rest := []) (qc := (RX4, TX4, 3)) [.int (localS len pt x)] 1 hC (c_valueAt l D (t := t j) (x := localS len pt x) (r1 := r1) (r2 := r2) (r3 := r3) (a1 := a1) (sz := sz) (a2 := a2) (a3 := a3) (ft := ft) (fv := fv) (fe := fe) (by omega) (by omega) (hT)) rfl (hP 3 _ rfl) (gV mM_X3_104 mI_X4_valueAt mS_X4_valueAt mN_X4 mC_X4_valueAt) (by decide +kernel) rfl rfl ⟨Nat.le_of_ble_eq_true rfl, Nat.le_of_ble_eq_true rfl⟩ hG hP9 rfl hl.1 rfl (Nat.le_of_ble_eq_true rfl) dX3_blended_40 ⟨Nat.le_of_ble_eq_true rfl, Nat.le_of_ble_eq_true rfl⟩) (fun r40 h40 => ?_)
      obtain rfl : r40 = (evT sz ft fv fe (localS len pt x)) := h40
      refine lv_istore (lv' := [(5, .int (evT sz ft fv fe (localS len pt x))), (4, .ref (t j)), (0, .ref so), (1, .int v), (2, .int (nI j)), (3, .int x)]) hx hb dX3_blended_43 hl (by decide) rfl (fun ls hl => ?_)
      refine lv_aload_n hx hb dX3_blended_45 rfl (lv_at hl 2 rfl) ?_
      refine va_get (D := D) (ci := 3) (v := .int (pt 9)) (C := RX3) (T := TX3) (N := 13) hx hb hts inlX3 hown hG.K hP 0 rfl rfl 9 (by decide) (hts _ mF_X3_44) (fun _ h9 => h9) rfl dX3_blended_46 ?_
      refine lv_if_eq (tgt := 57) hx hb dX3_blended_49 (by decide) (fun c49 => ?_) (fun c49 => ?_)
      · skip
        refine lv_iload hx hb dX3_blended_57 (lv_at hl 0 rfl) ?_
        refine lv_iload_n hx hb dX3_blended_59 rfl (lv_at hl 3 rfl) ?_
        refine lv_isub hx hb dX3_blended_60 ?_
        refine lv_istore (lv' := [(6, .int ((evT sz ft fv fe (localS len pt x)) - v)), (5, .int (evT sz ft fv fe (localS len pt x))), (4, .ref (t j)), (0, .ref so), (1, .int v), (2, .int (nI j)), (3, .int x)]) hx hb dX3_blended_61 hl (by decide) rfl (fun ls hl => ?_)
        refine lv_iload_n hx hb dX3_blended_63 rfl (lv_at hl 4 rfl) ?_
        refine lv_iload hx hb dX3_blended_64 (lv_at hl 0 rfl) ?_
        refine lv_i2l hx hb dX3_blended_66 rfl ?_
        refine lv_aload_n hx hb dX3_blended_67 rfl (lv_at hl 3 rfl) ?_
        refine lv_iload_n hx hb dX3_blended_68 rfl (lv_at hl 6 rfl) ?_
        have hP9 := hP.sub (ws' := [oO so 3 [.ref co, .int (pt 0), .int (pt 1), .int (pt 3), .int (pt 4), .int (pt 5), .int (pt 6), .int (pt 7), .int (pt 8), .int (pt 9), .int (pt 10), .int (pt 11), .int (pt 12)], oO co 0 [.int len, .ref ta, .ref (q 0), .ref (q 1)]]) [0, 1] rfl
        refine vp_callSi (pV (rest := [.long (((evT sz ft fv fe (localS len pt x)) - v).toInt64), .int v]) (qc := (RX3, TX3, 13)) [.int x] 1 hC (c_strength l D (so := so) (x := x) (co := co) (len := len) (ta := ta) (hp) (hF hb25)) rfl (hP 0 _ rfl) (gV mM_X3_107 mI_X3_strength mS_X3_strength mN_X3 mC_X3_strength) (by decide +kernel) rfl rfl ⟨Nat.le_of_ble_eq_true rfl, Nat.le_of_ble_eq_true rfl⟩ hG hP9 rfl hl.1 rfl (Nat.le_of_ble_eq_true rfl) dX3_blended_69 ⟨Nat.le_of_ble_eq_true rfl, Nat.le_of_ble_eq_true rfl⟩) (fun r69 h69 => ?_)
        obtain rfl : r69 = (strS len pt x) := h69
        refine lv_i2l hx hb dX3_blended_72 rfl ?_
        refine lv_lmul hx hb dX3_blended_73 ?_
        refine lv_ldc2 hx hb hown (hts _ mH_X3_110) dX3_blended_74 ?_
        have hP9 : va_P D cls [] s.heap := fun k q h => by simp at h
        refine vp_callSi (pSN (rest := [.int v]) [.long ((((evT sz ft fv fe (localS len pt x)) - v).toInt64) * ((strS len pt x).toInt64)), .long 100] 2 hC (c_rounded l D (x := (((evT sz ft fv fe (localS len pt x)) - v).toInt64) * ((strS len pt x).toInt64)) (y := 100) (by decide) (by decide)) (nM_KeyStage_Strip_85 hG) mT_X5_rounded mN_X5 mC_X5_rounded (by decide +kernel) rfl rfl ⟨Nat.le_of_ble_eq_true rfl, Nat.le_of_ble_eq_true rfl⟩ hG hP9 rfl hl.1 rfl (Nat.le_of_ble_eq_true rfl) dX3_blended_77 ⟨Nat.le_of_ble_eq_true rfl, Nat.le_of_ble_eq_true rfl⟩) (fun r77 h77 => ?_)
        obtain rfl : r77 = (rnd ((((evT sz ft fv fe (localS len pt x)) - v).toInt64) * ((strS len pt x).toInt64)) 100) := h77
        refine lv_iadd hx hb dX3_blended_80 ?_
        refine Ri hx hb hr hlk ?_ dX3_blended_81
        show _ = blendS _ _ _ _ _ _ _ _
        first | rw [blendS, if_neg n20, if_pos hb25, if_pos c49] | rw [blendS, if_neg n20, if_pos hb25, if_neg c49]
      · skip
        refine lv_iload hx hb dX3_blended_52 (lv_at hl 0 rfl) ?_
        refine lv_goto (tgt := 61) hx hb dX3_blended_54 (by decide) ?_
        refine lv_istore (lv' := [(6, .int (evT sz ft fv fe (localS len pt x))), (5, .int (evT sz ft fv fe (localS len pt x))), (4, .ref (t j)), (0, .ref so), (1, .int v), (2, .int (nI j)), (3, .int x)]) hx hb dX3_blended_61 hl (by decide) rfl (fun ls hl => ?_)
        refine lv_iload_n hx hb dX3_blended_63 rfl (lv_at hl 4 rfl) ?_
        refine lv_iload hx hb dX3_blended_64 (lv_at hl 0 rfl) ?_
        refine lv_i2l hx hb dX3_blended_66 rfl ?_
        refine lv_aload_n hx hb dX3_blended_67 rfl (lv_at hl 3 rfl) ?_
        refine lv_iload_n hx hb dX3_blended_68 rfl (lv_at hl 6 rfl) ?_
        have hP9 := hP.sub (ws' := [oO so 3 [.ref co, .int (pt 0), .int (pt 1), .int (pt 3), .int (pt 4), .int (pt 5), .int (pt 6), .int (pt 7), .int (pt 8), .int (pt 9), .int (pt 10), .int (pt 11), .int (pt 12)], oO co 0 [.int len, .ref ta, .ref (q 0), .ref (q 1)]]) [0, 1] rfl
        refine vp_callSi (pV (rest := [.long ((evT sz ft fv fe (localS len pt x)).toInt64), .int v]) (qc := (RX3, TX3, 13)) [.int x] 1 hC (c_strength l D (so := so) (x := x) (co := co) (len := len) (ta := ta) (hp) (hF hb25)) rfl (hP 0 _ rfl) (gV mM_X3_107 mI_X3_strength mS_X3_strength mN_X3 mC_X3_strength) (by decide +kernel) rfl rfl ⟨Nat.le_of_ble_eq_true rfl, Nat.le_of_ble_eq_true rfl⟩ hG hP9 rfl hl.1 rfl (Nat.le_of_ble_eq_true rfl) dX3_blended_69 ⟨Nat.le_of_ble_eq_true rfl, Nat.le_of_ble_eq_true rfl⟩) (fun r69 h69 => ?_)
        obtain rfl : r69 = (strS len pt x) := h69
        refine lv_i2l hx hb dX3_blended_72 rfl ?_
        refine lv_lmul hx hb dX3_blended_73 ?_
        refine lv_ldc2 hx hb hown (hts _ mH_X3_110) dX3_blended_74 ?_
        have hP9 : va_P D cls [] s.heap := fun k q h => by simp at h
        refine vp_callSi (pSN (rest := [.int v]) [.long (((evT sz ft fv fe (localS len pt x)).toInt64) * ((strS len pt x).toInt64)), .long 100] 2 hC (c_rounded l D (x := ((evT sz ft fv fe (localS len pt x)).toInt64) * ((strS len pt x).toInt64)) (y := 100) (by decide) (by decide)) (nM_KeyStage_Strip_85 hG) mT_X5_rounded mN_X5 mC_X5_rounded (by decide +kernel) rfl rfl ⟨Nat.le_of_ble_eq_true rfl, Nat.le_of_ble_eq_true rfl⟩ hG hP9 rfl hl.1 rfl (Nat.le_of_ble_eq_true rfl) dX3_blended_77 ⟨Nat.le_of_ble_eq_true rfl, Nat.le_of_ble_eq_true rfl⟩) (fun r77 h77 => ?_)
        obtain rfl : r77 = (rnd (((evT sz ft fv fe (localS len pt x)).toInt64) * ((strS len pt x).toInt64)) 100) := h77
        refine lv_iadd hx hb dX3_blended_80 ?_
        refine Ri hx hb hr hlk ?_ dX3_blended_81
        show _ = blendS _ _ _ _ _ _ _ _
        first | rw [blendS, if_neg n20, if_pos hb25, if_pos c49] | rw [blendS, if_neg n20, if_pos hb25, if_neg c49]
    · skip
      refine lv_if_ne (tgt := 33) hx hb dX3_blended_28 (by decide) (fun h9 => (h9 (by decide)).elim) (fun _ => ?_)
      refine lv_iload_n hx hb dX3_blended_31 rfl (lv_at hl 2 rfl) ?_
      refine Ri hx hb hr hlk ?_ dX3_blended_32
      show _ = blendS _ _ _ _ _ _ _ _
      first | rw [blendS, if_pos n20] | rw [blendS, if_neg n20, if_neg hb25]
set_option maxHeartbeats 4000000 in
set_option maxRecDepth 100000 in
theorem c_Notes_init (l : Launch) (D : va_G) {no : Nat} (hz0 : Nat)  : Met l yX1_init (ws_ yX1_init cX1_init 1 none) ({ frames := 2, cells := 8, slots := 408, locals := 41 } : Room) (va_Pc [.ref no] (SW D [oO no 1 [.null, .null, .null, .null, .int 0]] hz0)) (va_Qv (fun _ => True) (AT D (va_A [oO no 1 [.null, .null, .null, .null, .int 0]] hz0) (fun ((g, h) : (Nat → Nat) × (Nat → Nat)) => [oO no 1 [.ref (g 0), .ref (g 1), .ref (g 2), .ref (g 3), .int 0], oO (g 0) 2 [.ref (h 0), .int (nI 0)], oO (g 1) 2 [.ref (h 1), .int (nI 0)], oO (g 2) 2 [.ref (h 2), .int (nI 0)], oO (g 3) 2 [.ref (h 3), .int (nI 0)], aI D (h 0) 100 (fun _ => 0), aI D (h 1) 100 (fun _ => 0), aI D (h 2) 100 (fun _ => 0), aI D (h 3) 100 (fun _ => 0)])) (va_A [oO no 1 [.null, .null, .null, .null, .int 0]] hz0)) 8 408 (va_A [oO no 1 [.null, .null, .null, .null, .int 0]] hz0) := by
  refine Met.ofW (cc := cX1_init) (maxL := 1) (ret := none) (by decide) rfl ?_
  intro p e s m args below meth c s₁ B hml hv
  obtain ⟨rfl, hsz, hG, hP, hD0⟩ := hv
  have hx := B.exec
  have hb := B.bytes
  have hr := B.returns
  have hts : ∀ w ∈ wsL_law, w.before _ s = true := fun w h => atoms_spec (ws := (ws_ yX1_init cX1_init 1 none)) B.pre w (List.mem_cons_of_mem _ h)
  have hown : s.vm.findClass RX1 = some m.cls := findClass_of_methodNamed B.named
  have hlk := B.notSynchronized
  have hC : CallFix p m c cX1_init 1 s _ wsL_law RX1 := ⟨hx, hb, hml, hown, hts⟩
  have hin : meth.name = "<init>" := (name_of_methodNamed B.named B.method).1
  subst hsz
  have hD := hD0.self (sz := s.heap.size)
  generalize hAe : va_A [oO no 1 [.null, .null, .null, .null, .int 0]] s.heap.size = A at hD ⊢
  have hA : ∀ q : Nat, s.heap.size ≤ q → A q := fun q h => by rw [← hAe]; exact Or.inr h
  have hS : va_S A s.heap s.heap [] := va_S.rf
  obtain ⟨H, hHe⟩ : ∃ H, H = s.heap := ⟨_, rfl⟩
  rw [← hHe] at hP
  have hS : va_S A s.heap H [] := by rw [hHe]; exact hS
  have hl := lv_entry ([.ref no]) (n := 1) (Nat.le_of_ble_eq_true rfl)
  rw [lg_entry_eq]
  generalize (lg_sl ([.ref no]) ++ List.replicate (1 - (lg_sl ([.ref no])).length) Slot.unset).toArray = ls at hl ⊢
  have hl : lv_has ls 1 [(0, .ref no)] := hl
  rw [← hHe]
  refine lv_aload_n hx hb dX1_init_0 rfl (lv_at hl 0 rfl) ?_
  refine W.objInit hx hb hown (hts _ mM_X1_3) (hts _ mI_objectInit) (hts _ mC_objectInit) rfl (by rw [hml]; exact hl.1) rfl dX1_init_1 (Nat.le_of_ble_eq_true rfl) (Nat.le_of_ble_eq_true rfl) ?_
  refine W.eq (g2 := F0 m 4 ls []) rfl ?_
  refine lv_aload_n hx hb dX1_init_4 rfl (lv_at hl 0 rfl) ?_
  refine va_new (ci := 2) (fs := [.null, .int 0]) (C := RX2) (T := TX2) (N := 2) hx hb hts inlX2 tyX2 tyX2_ok hown (hts _ mK_X1_9) (hts _ mB_X2) (hts _ mN_X2) hG.K hP hD hS hA rfl (fun j hj => by rcases (show j = 0 ∨ j = 1 by omega) with rfl | rfl <;> rfl) (Nat.le_of_ble_eq_true rfl) (Nat.le_of_ble_eq_true rfl) dX1_init_5 (fun g0 H hP hD hS => ?_)
  have hP : va_P D cls [oO no 1 [.null, .null, .null, .null, .int 0], oO g0 2 [.null, .int 0]] H := hP
  have hD : va_D A [oO no 1 [.null, .null, .null, .null, .int 0], oO g0 2 [.null, .int 0]] := hD
  refine lv_dup hx hb dX1_init_8 rfl ?_
  refine lv_bipush (v := 100) hx hb dX1_init_9 (by decide) ?_
  have hP9 := hP.sub (ws' := [oO g0 2 [.null, .int 0]]) [1] rfl
  have hD9 := (hD.sub (ws' := [oO g0 2 [.null, .int 0]]) [1] (by decide) rfl).weaken (B := fun _ => True) (fun _ _ _ _ => trivial)
  refine kv (wr := [oO no 1 [.null, .null, .null, .null, .int 0]]) (rI (rest := [.ref g0, .ref no]) [.int 100] 1 1 100 hC (c_Row_init l D (r := g0) (n := 100) (hz0 := H.size) (by omega) (by omega)) mM_X1_11 mI_X2_init mN_X2 mC_X2_init rfl (by decide +kernel) rfl rfl ⟨Nat.le_of_ble_eq_true rfl, Nat.le_of_ble_eq_true rfl⟩ hG hP9 hD9 rfl hl.1 rfl (Nat.le_of_ble_eq_true rfl) dX1_init_11 ⟨Nat.le_of_ble_eq_true rfl, Nat.le_of_ble_eq_true rfl⟩) hP hD hS hA [1] [0] rfl rfl (by decide) (by decide) (fun u11 H locs h11 hP hD hS hz hfr => ?_)
  obtain ⟨h0, rfl⟩ : ∃ z, z = u11 := ⟨_, rfl⟩
  have hP : va_P D cls [oO no 1 [.null, .null, .null, .null, .int 0], oO g0 2 [.ref h0, .int (nI 0)], aI D h0 100 (fun _ => 0)] H := hP
  have hD : va_D A [oO no 1 [.null, .null, .null, .null, .int 0], oO g0 2 [.ref h0, .int (nI 0)], aI D h0 100 (fun _ => 0)] := hD
  refine va_putF (D := D) (ci := 1) (v := .ref g0) (ty := .object "KeyStage$Row") (C := RX1) (T := TX1) (N := 5) hx hb hts inlX1 tyX1 tyX1_ok nmX1 hown hG.K hP hD hS 0 rfl rfl 0 (by decide) (hts _ mF_X1_14) (fun _ h9 => h9) rfl hin rfl (by decide +kernel) rfl rfl (Nat.le_of_ble_eq_true rfl) dX1_init_14 (fun H locs hP hD hS => ?_)
  have hP : va_P D cls [oO no 1 [.ref g0, .null, .null, .null, .int 0], oO g0 2 [.ref h0, .int (nI 0)], aI D h0 100 (fun _ => 0)] H := hP
  have hD : va_D A [oO no 1 [.ref g0, .null, .null, .null, .int 0], oO g0 2 [.ref h0, .int (nI 0)], aI D h0 100 (fun _ => 0)] := hD
  refine lv_aload_n hx hb dX1_init_17 rfl (lv_at hl 0 rfl) ?_
  refine va_new (ci := 2) (fs := [.null, .int 0]) (C := RX2) (T := TX2) (N := 2) hx hb hts inlX2 tyX2 tyX2_ok hown (hts _ mK_X1_9) (hts _ mB_X2) (hts _ mN_X2) hG.K hP hD hS hA rfl (fun j hj => by rcases (show j = 0 ∨ j = 1 by omega) with rfl | rfl <;> rfl) (Nat.le_of_ble_eq_true rfl) (Nat.le_of_ble_eq_true rfl) dX1_init_18 (fun g1 H hP hD hS => ?_)
  have hP : va_P D cls [oO no 1 [.ref g0, .null, .null, .null, .int 0], oO g0 2 [.ref h0, .int (nI 0)], aI D h0 100 (fun _ => 0), oO g1 2 [.null, .int 0]] H := hP
  have hD : va_D A [oO no 1 [.ref g0, .null, .null, .null, .int 0], oO g0 2 [.ref h0, .int (nI 0)], aI D h0 100 (fun _ => 0), oO g1 2 [.null, .int 0]] := hD
  refine lv_dup hx hb dX1_init_21 rfl ?_
  refine lv_bipush (v := 100) hx hb dX1_init_22 (by decide) ?_
  have hP9 := hP.sub (ws' := [oO g1 2 [.null, .int 0]]) [3] rfl
  have hD9 := (hD.sub (ws' := [oO g1 2 [.null, .int 0]]) [3] (by decide) rfl).weaken (B := fun _ => True) (fun _ _ _ _ => trivial)
  refine kv (wr := [oO no 1 [.ref g0, .null, .null, .null, .int 0], oO g0 2 [.ref h0, .int (nI 0)], aI D h0 100 (fun _ => 0)]) (rI (rest := [.ref g1, .ref no]) [.int 100] 1 1 100 hC (c_Row_init l D (r := g1) (n := 100) (hz0 := H.size) (by omega) (by omega)) mM_X1_11 mI_X2_init mN_X2 mC_X2_init rfl (by decide +kernel) rfl rfl ⟨Nat.le_of_ble_eq_true rfl, Nat.le_of_ble_eq_true rfl⟩ hG hP9 hD9 rfl hl.1 rfl (Nat.le_of_ble_eq_true rfl) dX1_init_24 ⟨Nat.le_of_ble_eq_true rfl, Nat.le_of_ble_eq_true rfl⟩) hP hD hS hA [3] [0, 1, 2] rfl rfl (by decide) (by decide) (fun u24 H locs h24 hP hD hS hz hfr => ?_)
  obtain ⟨h1, rfl⟩ : ∃ z, z = u24 := ⟨_, rfl⟩
  have hP : va_P D cls [oO no 1 [.ref g0, .null, .null, .null, .int 0], oO g0 2 [.ref h0, .int (nI 0)], aI D h0 100 (fun _ => 0), oO g1 2 [.ref h1, .int (nI 0)], aI D h1 100 (fun _ => 0)] H := hP
  have hD : va_D A [oO no 1 [.ref g0, .null, .null, .null, .int 0], oO g0 2 [.ref h0, .int (nI 0)], aI D h0 100 (fun _ => 0), oO g1 2 [.ref h1, .int (nI 0)], aI D h1 100 (fun _ => 0)] := hD
  refine va_putF (D := D) (ci := 1) (v := .ref g1) (ty := .object "KeyStage$Row") (C := RX1) (T := TX1) (N := 5) hx hb hts inlX1 tyX1 tyX1_ok nmX1 hown hG.K hP hD hS 0 rfl rfl 1 (by decide) (hts _ mF_X1_20) (fun _ h9 => h9) rfl hin rfl (by decide +kernel) rfl rfl (Nat.le_of_ble_eq_true rfl) dX1_init_27 (fun H locs hP hD hS => ?_)
  have hP : va_P D cls [oO no 1 [.ref g0, .ref g1, .null, .null, .int 0], oO g0 2 [.ref h0, .int (nI 0)], aI D h0 100 (fun _ => 0), oO g1 2 [.ref h1, .int (nI 0)], aI D h1 100 (fun _ => 0)] H := hP
  have hD : va_D A [oO no 1 [.ref g0, .ref g1, .null, .null, .int 0], oO g0 2 [.ref h0, .int (nI 0)], aI D h0 100 (fun _ => 0), oO g1 2 [.ref h1, .int (nI 0)], aI D h1 100 (fun _ => 0)] := hD
  refine lv_aload_n hx hb dX1_init_30 rfl (lv_at hl 0 rfl) ?_
  refine va_new (ci := 2) (fs := [.null, .int 0]) (C := RX2) (T := TX2) (N := 2) hx hb hts inlX2 tyX2 tyX2_ok hown (hts _ mK_X1_9) (hts _ mB_X2) (hts _ mN_X2) hG.K hP hD hS hA rfl (fun j hj => by rcases (show j = 0 ∨ j = 1 by omega) with rfl | rfl <;> rfl) (Nat.le_of_ble_eq_true rfl) (Nat.le_of_ble_eq_true rfl) dX1_init_31 (fun g2 H hP hD hS => ?_)
  have hP : va_P D cls [oO no 1 [.ref g0, .ref g1, .null, .null, .int 0], oO g0 2 [.ref h0, .int (nI 0)], aI D h0 100 (fun _ => 0), oO g1 2 [.ref h1, .int (nI 0)], aI D h1 100 (fun _ => 0), oO g2 2 [.null, .int 0]] H := hP
  have hD : va_D A [oO no 1 [.ref g0, .ref g1, .null, .null, .int 0], oO g0 2 [.ref h0, .int (nI 0)], aI D h0 100 (fun _ => 0), oO g1 2 [.ref h1, .int (nI 0)], aI D h1 100 (fun _ => 0), oO g2 2 [.null, .int 0]] := hD
  refine lv_dup hx hb dX1_init_34 rfl ?_
  refine lv_bipush (v := 100) hx hb dX1_init_35 (by decide) ?_
  have hP9 := hP.sub (ws' := [oO g2 2 [.null, .int 0]]) [5] rfl
  have hD9 := (hD.sub (ws' := [oO g2 2 [.null, .int 0]]) [5] (by decide) rfl).weaken (B := fun _ => True) (fun _ _ _ _ => trivial)
  refine kv (wr := [oO no 1 [.ref g0, .ref g1, .null, .null, .int 0], oO g0 2 [.ref h0, .int (nI 0)], aI D h0 100 (fun _ => 0), oO g1 2 [.ref h1, .int (nI 0)], aI D h1 100 (fun _ => 0)]) (rI (rest := [.ref g2, .ref no]) [.int 100] 1 1 100 hC (c_Row_init l D (r := g2) (n := 100) (hz0 := H.size) (by omega) (by omega)) mM_X1_11 mI_X2_init mN_X2 mC_X2_init rfl (by decide +kernel) rfl rfl ⟨Nat.le_of_ble_eq_true rfl, Nat.le_of_ble_eq_true rfl⟩ hG hP9 hD9 rfl hl.1 rfl (Nat.le_of_ble_eq_true rfl) dX1_init_37 ⟨Nat.le_of_ble_eq_true rfl, Nat.le_of_ble_eq_true rfl⟩) hP hD hS hA [5] [0, 1, 2, 3, 4] rfl rfl (by decide) (by decide) (fun u37 H locs h37 hP hD hS hz hfr => ?_)
  obtain ⟨h2, rfl⟩ : ∃ z, z = u37 := ⟨_, rfl⟩
  have hP : va_P D cls [oO no 1 [.ref g0, .ref g1, .null, .null, .int 0], oO g0 2 [.ref h0, .int (nI 0)], aI D h0 100 (fun _ => 0), oO g1 2 [.ref h1, .int (nI 0)], aI D h1 100 (fun _ => 0), oO g2 2 [.ref h2, .int (nI 0)], aI D h2 100 (fun _ => 0)] H := hP
  have hD : va_D A [oO no 1 [.ref g0, .ref g1, .null, .null, .int 0], oO g0 2 [.ref h0, .int (nI 0)], aI D h0 100 (fun _ => 0), oO g1 2 [.ref h1, .int (nI 0)], aI D h1 100 (fun _ => 0), oO g2 2 [.ref h2, .int (nI 0)], aI D h2 100 (fun _ => 0)] := hD
  refine va_putF (D := D) (ci := 1) (v := .ref g2) (ty := .object "KeyStage$Row") (C := RX1) (T := TX1) (N := 5) hx hb hts inlX1 tyX1 tyX1_ok nmX1 hown hG.K hP hD hS 0 rfl rfl 2 (by decide) (hts _ mF_X1_23) (fun _ h9 => h9) rfl hin rfl (by decide +kernel) rfl rfl (Nat.le_of_ble_eq_true rfl) dX1_init_40 (fun H locs hP hD hS => ?_)
  have hP : va_P D cls [oO no 1 [.ref g0, .ref g1, .ref g2, .null, .int 0], oO g0 2 [.ref h0, .int (nI 0)], aI D h0 100 (fun _ => 0), oO g1 2 [.ref h1, .int (nI 0)], aI D h1 100 (fun _ => 0), oO g2 2 [.ref h2, .int (nI 0)], aI D h2 100 (fun _ => 0)] H := hP
  have hD : va_D A [oO no 1 [.ref g0, .ref g1, .ref g2, .null, .int 0], oO g0 2 [.ref h0, .int (nI 0)], aI D h0 100 (fun _ => 0), oO g1 2 [.ref h1, .int (nI 0)], aI D h1 100 (fun _ => 0), oO g2 2 [.ref h2, .int (nI 0)], aI D h2 100 (fun _ => 0)] := hD
  refine lv_aload_n hx hb dX1_init_43 rfl (lv_at hl 0 rfl) ?_
  refine va_new (ci := 2) (fs := [.null, .int 0]) (C := RX2) (T := TX2) (N := 2) hx hb hts inlX2 tyX2 tyX2_ok hown (hts _ mK_X1_9) (hts _ mB_X2) (hts _ mN_X2) hG.K hP hD hS hA rfl (fun j hj => by rcases (show j = 0 ∨ j = 1 by omega) with rfl | rfl <;> rfl) (Nat.le_of_ble_eq_true rfl) (Nat.le_of_ble_eq_true rfl) dX1_init_44 (fun g3 H hP hD hS => ?_)
  have hP : va_P D cls [oO no 1 [.ref g0, .ref g1, .ref g2, .null, .int 0], oO g0 2 [.ref h0, .int (nI 0)], aI D h0 100 (fun _ => 0), oO g1 2 [.ref h1, .int (nI 0)], aI D h1 100 (fun _ => 0), oO g2 2 [.ref h2, .int (nI 0)], aI D h2 100 (fun _ => 0), oO g3 2 [.null, .int 0]] H := hP
  have hD : va_D A [oO no 1 [.ref g0, .ref g1, .ref g2, .null, .int 0], oO g0 2 [.ref h0, .int (nI 0)], aI D h0 100 (fun _ => 0), oO g1 2 [.ref h1, .int (nI 0)], aI D h1 100 (fun _ => 0), oO g2 2 [.ref h2, .int (nI 0)], aI D h2 100 (fun _ => 0), oO g3 2 [.null, .int 0]] := hD
  refine lv_dup hx hb dX1_init_47 rfl ?_
  refine lv_bipush (v := 100) hx hb dX1_init_48 (by decide) ?_
  have hP9 := hP.sub (ws' := [oO g3 2 [.null, .int 0]]) [7] rfl
  have hD9 := (hD.sub (ws' := [oO g3 2 [.null, .int 0]]) [7] (by decide) rfl).weaken (B := fun _ => True) (fun _ _ _ _ => trivial)
  refine kv (wr := [oO no 1 [.ref g0, .ref g1, .ref g2, .null, .int 0], oO g0 2 [.ref h0, .int (nI 0)], aI D h0 100 (fun _ => 0), oO g1 2 [.ref h1, .int (nI 0)], aI D h1 100 (fun _ => 0), oO g2 2 [.ref h2, .int (nI 0)], aI D h2 100 (fun _ => 0)]) (rI (rest := [.ref g3, .ref no]) [.int 100] 1 1 100 hC (c_Row_init l D (r := g3) (n := 100) (hz0 := H.size) (by omega) (by omega)) mM_X1_11 mI_X2_init mN_X2 mC_X2_init rfl (by decide +kernel) rfl rfl ⟨Nat.le_of_ble_eq_true rfl, Nat.le_of_ble_eq_true rfl⟩ hG hP9 hD9 rfl hl.1 rfl (Nat.le_of_ble_eq_true rfl) dX1_init_50 ⟨Nat.le_of_ble_eq_true rfl, Nat.le_of_ble_eq_true rfl⟩) hP hD hS hA [7] [0, 1, 2, 3, 4, 5, 6] rfl rfl (by decide) (by decide) (fun u50 H locs h50 hP hD hS hz hfr => ?_)
  obtain ⟨h3, rfl⟩ : ∃ z, z = u50 := ⟨_, rfl⟩
  have hP : va_P D cls [oO no 1 [.ref g0, .ref g1, .ref g2, .null, .int 0], oO g0 2 [.ref h0, .int (nI 0)], aI D h0 100 (fun _ => 0), oO g1 2 [.ref h1, .int (nI 0)], aI D h1 100 (fun _ => 0), oO g2 2 [.ref h2, .int (nI 0)], aI D h2 100 (fun _ => 0), oO g3 2 [.ref h3, .int (nI 0)], aI D h3 100 (fun _ => 0)] H := hP
  have hD : va_D A [oO no 1 [.ref g0, .ref g1, .ref g2, .null, .int 0], oO g0 2 [.ref h0, .int (nI 0)], aI D h0 100 (fun _ => 0), oO g1 2 [.ref h1, .int (nI 0)], aI D h1 100 (fun _ => 0), oO g2 2 [.ref h2, .int (nI 0)], aI D h2 100 (fun _ => 0), oO g3 2 [.ref h3, .int (nI 0)], aI D h3 100 (fun _ => 0)] := hD
  refine va_putF (D := D) (ci := 1) (v := .ref g3) (ty := .object "KeyStage$Row") (C := RX1) (T := TX1) (N := 5) hx hb hts inlX1 tyX1 tyX1_ok nmX1 hown hG.K hP hD hS 0 rfl rfl 3 (by decide) (hts _ mF_X1_26) (fun _ h9 => h9) rfl hin rfl (by decide +kernel) rfl rfl (Nat.le_of_ble_eq_true rfl) dX1_init_53 (fun H locs hP hD hS => ?_)
  have hP : va_P D cls [oO no 1 [.ref g0, .ref g1, .ref g2, .ref g3, .int 0], oO g0 2 [.ref h0, .int (nI 0)], aI D h0 100 (fun _ => 0), oO g1 2 [.ref h1, .int (nI 0)], aI D h1 100 (fun _ => 0), oO g2 2 [.ref h2, .int (nI 0)], aI D h2 100 (fun _ => 0), oO g3 2 [.ref h3, .int (nI 0)], aI D h3 100 (fun _ => 0)] H := hP
  have hD : va_D A [oO no 1 [.ref g0, .ref g1, .ref g2, .ref g3, .int 0], oO g0 2 [.ref h0, .int (nI 0)], aI D h0 100 (fun _ => 0), oO g1 2 [.ref h1, .int (nI 0)], aI D h1 100 (fun _ => 0), oO g2 2 [.ref h2, .int (nI 0)], aI D h2 100 (fun _ => 0), oO g3 2 [.ref h3, .int (nI 0)], aI D h3 100 (fun _ => 0)] := hD
  refine Wv ((fun j => [g0, g1, g2, g3].getD j 0), (fun j => [h0, h1, h2, h3].getD j 0)) hx hb hr hlk ?_ (hP.sub [0, 1, 3, 5, 7, 2, 4, 6, 8] rfl) (hD.sub [0, 1, 3, 5, 7, 2, 4, 6, 8] (by decide) rfl) hS (Nat.le_of_ble_eq_true rfl) (by first | exact Nat.le_of_ble_eq_true rfl | exact Nat.le_of_eq (Nat.zero_add _)) dX1_init_56
  exact trivial
set_option maxHeartbeats 4000000 in
set_option maxRecDepth 100000 in
theorem c_keptCount (l : Launch) (D : va_G) {no k : Nat} {g h : Nat → Nat} {f : Nat → Nat → Int32} {cnt : Int32}  : Met l yX1_keptCount (ws_ yX1_keptCount cX1_keptCount 1 (some .int)) ({ frames := 1, cells := 0, slots := 0, locals := 20 } : Room) (va_Pc [.ref no] (PW D [oO no 1 [.ref (g 0), .ref (g 1), .ref (g 2), .ref (g 3), .int cnt], oO (g 0) 2 [.ref (h 0), .int (nI k)], oO (g 1) 2 [.ref (h 1), .int (nI k)], oO (g 2) 2 [.ref (h 2), .int (nI k)], oO (g 3) 2 [.ref (h 3), .int (nI k)], aI D (h 0) 100 (f 0), aI D (h 1) 100 (f 1), aI D (h 2) 100 (f 2), aI D (h 3) 100 (f 3)])) (vp_Si (fun v => v = nI k)) 0 0 (fun _ => False) := by
  refine Met.ofW (cc := cX1_keptCount) (maxL := 1) (ret := (some .int)) (by decide) rfl ?_
  intro p e s m args below meth c s₁ B hml hv
  obtain ⟨rfl, hG, hP⟩ := hv
  have hx := B.exec
  have hb := B.bytes
  have hr := B.returns
  have hts : ∀ w ∈ wsL_law, w.before _ s = true := fun w h => atoms_spec (ws := (ws_ yX1_keptCount cX1_keptCount 1 (some .int))) B.pre w (List.mem_cons_of_mem _ h)
  have hown : s.vm.findClass RX1 = some m.cls := findClass_of_methodNamed B.named
  have hlk := B.notSynchronized
  have hC : CallFix p m c cX1_keptCount 1 s _ wsL_law RX1 := ⟨hx, hb, hml, hown, hts⟩
  have hl := lv_entry ([.ref no]) (n := 1) (Nat.le_of_ble_eq_true rfl)
  rw [lg_entry_eq]
  generalize (lg_sl ([.ref no]) ++ List.replicate (1 - (lg_sl ([.ref no])).length) Slot.unset).toArray = ls at hl ⊢
  have hl : lv_has ls 1 [(0, .ref no)] := hl
  refine lv_aload_n hx hb dX1_keptCount_0 rfl (lv_at hl 0 rfl) ?_
  refine va_get (D := D) (ci := 1) (v := .ref (g 0)) (C := RX1) (T := TX1) (N := 5) hx hb hts inlX1 hown hG.K hP 0 rfl rfl 0 (by decide) (hts _ mF_X1_14) (fun _ h9 => h9) rfl dX1_keptCount_1 ?_
  have hP9 := hP.sub (ws' := [oO (g 0) 2 [.ref (h 0), .int (nI k)], aI D (h 0) 100 (f 0)]) [1, 5] rfl
  refine vp_callSi (pV (rest := []) (qc := (RX2, TX2, 2)) [] 0 hC (c_size l D (r := g 0) (a := h 0) (sz := k) (n := 100) (f := f 0) ) rfl (hP 1 _ rfl) (gV mM_X1_29 mI_X2_size mS_X2_size mN_X2 mC_X2_size) (by decide +kernel) rfl rfl ⟨Nat.le_of_ble_eq_true rfl, Nat.le_of_ble_eq_true rfl⟩ hG hP9 rfl hl.1 rfl (Nat.le_of_ble_eq_true rfl) dX1_keptCount_4 ⟨Nat.le_of_ble_eq_true rfl, Nat.le_of_ble_eq_true rfl⟩) (fun r4 h4 => ?_)
  obtain rfl : r4 = (nI k) := h4
  refine Ri hx hb hr hlk ?_ dX1_keptCount_7
  exact rfl
set_option maxHeartbeats 4000000 in
set_option maxRecDepth 100000 in
theorem c_Notes_shorten (l : Launch) (D : va_G) {no k : Nat} {g h : Nat → Nat} {f : Nat → Nat → Int32} {cnt : Int32} {j : Nat} (hz0 : Nat) (hk : k ≤ 100) (hj : j < 2 ^ 31) : Met l yX1_shorten (ws_ yX1_shorten cX1_shorten 2 none) ({ frames := 1, cells := 0, slots := 0, locals := 21 } : Room) (va_Pc [.ref no, .int (nI j)] (SW D [oO no 1 [.ref (g 0), .ref (g 1), .ref (g 2), .ref (g 3), .int cnt], oO (g 0) 2 [.ref (h 0), .int (nI k)], oO (g 1) 2 [.ref (h 1), .int (nI k)], oO (g 2) 2 [.ref (h 2), .int (nI k)], oO (g 3) 2 [.ref (h 3), .int (nI k)], aI D (h 0) 100 (f 0), aI D (h 1) 100 (f 1), aI D (h 2) 100 (f 2), aI D (h 3) 100 (f 3)] hz0)) (va_Qv (fun _ => True) (AT D (va_A [oO no 1 [.ref (g 0), .ref (g 1), .ref (g 2), .ref (g 3), .int cnt], oO (g 0) 2 [.ref (h 0), .int (nI k)], oO (g 1) 2 [.ref (h 1), .int (nI k)], oO (g 2) 2 [.ref (h 2), .int (nI k)], oO (g 3) 2 [.ref (h 3), .int (nI k)], aI D (h 0) 100 (f 0), aI D (h 1) 100 (f 1), aI D (h 2) 100 (f 2), aI D (h 3) 100 (f 3)] hz0) (fun _ : Unit => [oO no 1 [.ref (g 0), .ref (g 1), .ref (g 2), .ref (g 3), .int cnt], oO (g 0) 2 [.ref (h 0), .int (nI (min j k))], oO (g 1) 2 [.ref (h 1), .int (nI (min j k))], oO (g 2) 2 [.ref (h 2), .int (nI (min j k))], oO (g 3) 2 [.ref (h 3), .int (nI (min j k))], aI D (h 0) 100 (f 0), aI D (h 1) 100 (f 1), aI D (h 2) 100 (f 2), aI D (h 3) 100 (f 3)])) (va_A [oO no 1 [.ref (g 0), .ref (g 1), .ref (g 2), .ref (g 3), .int cnt], oO (g 0) 2 [.ref (h 0), .int (nI k)], oO (g 1) 2 [.ref (h 1), .int (nI k)], oO (g 2) 2 [.ref (h 2), .int (nI k)], oO (g 3) 2 [.ref (h 3), .int (nI k)], aI D (h 0) 100 (f 0), aI D (h 1) 100 (f 1), aI D (h 2) 100 (f 2), aI D (h 3) 100 (f 3)] hz0)) 0 0 (va_A [oO no 1 [.ref (g 0), .ref (g 1), .ref (g 2), .ref (g 3), .int cnt], oO (g 0) 2 [.ref (h 0), .int (nI k)], oO (g 1) 2 [.ref (h 1), .int (nI k)], oO (g 2) 2 [.ref (h 2), .int (nI k)], oO (g 3) 2 [.ref (h 3), .int (nI k)], aI D (h 0) 100 (f 0), aI D (h 1) 100 (f 1), aI D (h 2) 100 (f 2), aI D (h 3) 100 (f 3)] hz0) := by
  refine Met.ofW (cc := cX1_shorten) (maxL := 2) (ret := none) (by decide) rfl ?_
  intro p e s m args below meth c s₁ B hml hv
  obtain ⟨rfl, hsz, hG, hP, hD0⟩ := hv
  have hx := B.exec
  have hb := B.bytes
  have hr := B.returns
  have hts : ∀ w ∈ wsL_law, w.before _ s = true := fun w h => atoms_spec (ws := (ws_ yX1_shorten cX1_shorten 2 none)) B.pre w (List.mem_cons_of_mem _ h)
  have hown : s.vm.findClass RX1 = some m.cls := findClass_of_methodNamed B.named
  have hlk := B.notSynchronized
  have hC : CallFix p m c cX1_shorten 2 s _ wsL_law RX1 := ⟨hx, hb, hml, hown, hts⟩
  subst hsz
  have hD := hD0.self (sz := s.heap.size)
  generalize hAe : va_A [oO no 1 [.ref (g 0), .ref (g 1), .ref (g 2), .ref (g 3), .int cnt], oO (g 0) 2 [.ref (h 0), .int (nI k)], oO (g 1) 2 [.ref (h 1), .int (nI k)], oO (g 2) 2 [.ref (h 2), .int (nI k)], oO (g 3) 2 [.ref (h 3), .int (nI k)], aI D (h 0) 100 (f 0), aI D (h 1) 100 (f 1), aI D (h 2) 100 (f 2), aI D (h 3) 100 (f 3)] s.heap.size = A at hD ⊢
  have hA : ∀ q : Nat, s.heap.size ≤ q → A q := fun q h => by rw [← hAe]; exact Or.inr h
  have hS : va_S A s.heap s.heap [] := va_S.rf
  obtain ⟨H, hHe⟩ : ∃ H, H = s.heap := ⟨_, rfl⟩
  rw [← hHe] at hP
  have hS : va_S A s.heap H [] := by rw [hHe]; exact hS
  have hl := lv_entry ([.ref no, .int (nI j)]) (n := 2) (Nat.le_of_ble_eq_true rfl)
  rw [lg_entry_eq]
  generalize (lg_sl ([.ref no, .int (nI j)]) ++ List.replicate (2 - (lg_sl ([.ref no, .int (nI j)])).length) Slot.unset).toArray = ls at hl ⊢
  have hl : lv_has ls 2 [(0, .ref no), (1, .int (nI j))] := hl
  rw [← hHe]
  refine lv_aload_n hx hb dX1_shorten_0 rfl (lv_at hl 0 rfl) ?_
  refine va_get (D := D) (ci := 1) (v := .ref (g 0)) (C := RX1) (T := TX1) (N := 5) hx hb hts inlX1 hown hG.K hP 0 rfl rfl 0 (by decide) (hts _ mF_X1_14) (fun _ h9 => h9) rfl dX1_shorten_1 ?_
  refine lv_iload_n hx hb dX1_shorten_4 rfl (lv_at hl 1 rfl) ?_
  have hP9 := hP.sub (ws' := [oO (g 0) 2 [.ref (h 0), .int (nI k)], aI D (h 0) 100 (f 0)]) [1, 5] rfl
  have hD9 := (hD.sub (ws' := [oO (g 0) 2 [.ref (h 0), .int (nI k)], aI D (h 0) 100 (f 0)]) [1, 5] (by decide) rfl).weaken (B := fun _ => True) (fun _ _ _ _ => trivial)
  refine kv (wr := [oO no 1 [.ref (g 0), .ref (g 1), .ref (g 2), .ref (g 3), .int cnt], oO (g 1) 2 [.ref (h 1), .int (nI k)], oO (g 2) 2 [.ref (h 2), .int (nI k)], oO (g 3) 2 [.ref (h 3), .int (nI k)], aI D (h 1) 100 (f 1), aI D (h 2) 100 (f 2), aI D (h 3) 100 (f 3)]) (rV (rest := []) (qc := (RX2, TX2, 2)) [.int (nI j)] 1 0 0 hC (c_shorten l D (r := g 0) (j := j) (a := h 0) (sz := k) (n := 100) (f := f 0) (hz0 := H.size) (by omega) (by omega) (by omega)) rfl (hP 1 _ rfl) (gV mM_X1_40 mI_X2_shorten mS_X2_shorten mN_X2 mC_X2_shorten) (by decide +kernel) rfl rfl ⟨Nat.le_of_ble_eq_true rfl, Nat.le_of_ble_eq_true rfl⟩ hG hP9 hD9 rfl hl.1 rfl (Nat.le_of_ble_eq_true rfl) dX1_shorten_5 ⟨Nat.le_of_ble_eq_true rfl, Nat.le_of_ble_eq_true rfl⟩) hP hD hS hA [1, 5] [0, 2, 3, 4, 6, 7, 8] rfl rfl (by decide) (by decide) (fun u5 H locs h5 hP hD hS hz hfr => ?_)
  have hP : va_P D cls [oO no 1 [.ref (g 0), .ref (g 1), .ref (g 2), .ref (g 3), .int cnt], oO (g 1) 2 [.ref (h 1), .int (nI k)], oO (g 2) 2 [.ref (h 2), .int (nI k)], oO (g 3) 2 [.ref (h 3), .int (nI k)], aI D (h 1) 100 (f 1), aI D (h 2) 100 (f 2), aI D (h 3) 100 (f 3), oO (g 0) 2 [.ref (h 0), .int (nI (min j k))], aI D (h 0) 100 (f 0)] H := hP
  have hD : va_D A [oO no 1 [.ref (g 0), .ref (g 1), .ref (g 2), .ref (g 3), .int cnt], oO (g 1) 2 [.ref (h 1), .int (nI k)], oO (g 2) 2 [.ref (h 2), .int (nI k)], oO (g 3) 2 [.ref (h 3), .int (nI k)], aI D (h 1) 100 (f 1), aI D (h 2) 100 (f 2), aI D (h 3) 100 (f 3), oO (g 0) 2 [.ref (h 0), .int (nI (min j k))], aI D (h 0) 100 (f 0)] := hD
  refine lv_aload_n hx hb dX1_shorten_8 rfl (lv_at hl 0 rfl) ?_
  refine va_get (D := D) (ci := 1) (v := .ref (g 1)) (C := RX1) (T := TX1) (N := 5) hx hb hts inlX1 hown hG.K hP 0 rfl rfl 1 (by decide) (hts _ mF_X1_20) (fun _ h9 => h9) rfl dX1_shorten_9 ?_
  refine lv_iload_n hx hb dX1_shorten_12 rfl (lv_at hl 1 rfl) ?_
  have hP9 := hP.sub (ws' := [oO (g 1) 2 [.ref (h 1), .int (nI k)], aI D (h 1) 100 (f 1)]) [1, 4] rfl
  have hD9 := (hD.sub (ws' := [oO (g 1) 2 [.ref (h 1), .int (nI k)], aI D (h 1) 100 (f 1)]) [1, 4] (by decide) rfl).weaken (B := fun _ => True) (fun _ _ _ _ => trivial)
  refine kv (wr := [oO no 1 [.ref (g 0), .ref (g 1), .ref (g 2), .ref (g 3), .int cnt], oO (g 2) 2 [.ref (h 2), .int (nI k)], oO (g 3) 2 [.ref (h 3), .int (nI k)], aI D (h 2) 100 (f 2), aI D (h 3) 100 (f 3), oO (g 0) 2 [.ref (h 0), .int (nI (min j k))], aI D (h 0) 100 (f 0)]) (rV (rest := []) (qc := (RX2, TX2, 2)) [.int (nI j)] 1 0 0 hC (c_shorten l D (r := g 1) (j := j) (a := h 1) (sz := k) (n := 100) (f := f 1) (hz0 := H.size) (by omega) (by omega) (by omega)) rfl (hP 1 _ rfl) (gV mM_X1_40 mI_X2_shorten mS_X2_shorten mN_X2 mC_X2_shorten) (by decide +kernel) rfl rfl ⟨Nat.le_of_ble_eq_true rfl, Nat.le_of_ble_eq_true rfl⟩ hG hP9 hD9 rfl hl.1 rfl (Nat.le_of_ble_eq_true rfl) dX1_shorten_13 ⟨Nat.le_of_ble_eq_true rfl, Nat.le_of_ble_eq_true rfl⟩) hP hD hS hA [1, 4] [0, 2, 3, 5, 6, 7, 8] rfl rfl (by decide) (by decide) (fun u13 H locs h13 hP hD hS hz hfr => ?_)
  have hP : va_P D cls [oO no 1 [.ref (g 0), .ref (g 1), .ref (g 2), .ref (g 3), .int cnt], oO (g 2) 2 [.ref (h 2), .int (nI k)], oO (g 3) 2 [.ref (h 3), .int (nI k)], aI D (h 2) 100 (f 2), aI D (h 3) 100 (f 3), oO (g 0) 2 [.ref (h 0), .int (nI (min j k))], aI D (h 0) 100 (f 0), oO (g 1) 2 [.ref (h 1), .int (nI (min j k))], aI D (h 1) 100 (f 1)] H := hP
  have hD : va_D A [oO no 1 [.ref (g 0), .ref (g 1), .ref (g 2), .ref (g 3), .int cnt], oO (g 2) 2 [.ref (h 2), .int (nI k)], oO (g 3) 2 [.ref (h 3), .int (nI k)], aI D (h 2) 100 (f 2), aI D (h 3) 100 (f 3), oO (g 0) 2 [.ref (h 0), .int (nI (min j k))], aI D (h 0) 100 (f 0), oO (g 1) 2 [.ref (h 1), .int (nI (min j k))], aI D (h 1) 100 (f 1)] := hD
  refine lv_aload_n hx hb dX1_shorten_16 rfl (lv_at hl 0 rfl) ?_
  refine va_get (D := D) (ci := 1) (v := .ref (g 2)) (C := RX1) (T := TX1) (N := 5) hx hb hts inlX1 hown hG.K hP 0 rfl rfl 2 (by decide) (hts _ mF_X1_23) (fun _ h9 => h9) rfl dX1_shorten_17 ?_
  refine lv_iload_n hx hb dX1_shorten_20 rfl (lv_at hl 1 rfl) ?_
  have hP9 := hP.sub (ws' := [oO (g 2) 2 [.ref (h 2), .int (nI k)], aI D (h 2) 100 (f 2)]) [1, 3] rfl
  have hD9 := (hD.sub (ws' := [oO (g 2) 2 [.ref (h 2), .int (nI k)], aI D (h 2) 100 (f 2)]) [1, 3] (by decide) rfl).weaken (B := fun _ => True) (fun _ _ _ _ => trivial)
  refine kv (wr := [oO no 1 [.ref (g 0), .ref (g 1), .ref (g 2), .ref (g 3), .int cnt], oO (g 3) 2 [.ref (h 3), .int (nI k)], aI D (h 3) 100 (f 3), oO (g 0) 2 [.ref (h 0), .int (nI (min j k))], aI D (h 0) 100 (f 0), oO (g 1) 2 [.ref (h 1), .int (nI (min j k))], aI D (h 1) 100 (f 1)]) (rV (rest := []) (qc := (RX2, TX2, 2)) [.int (nI j)] 1 0 0 hC (c_shorten l D (r := g 2) (j := j) (a := h 2) (sz := k) (n := 100) (f := f 2) (hz0 := H.size) (by omega) (by omega) (by omega)) rfl (hP 1 _ rfl) (gV mM_X1_40 mI_X2_shorten mS_X2_shorten mN_X2 mC_X2_shorten) (by decide +kernel) rfl rfl ⟨Nat.le_of_ble_eq_true rfl, Nat.le_of_ble_eq_true rfl⟩ hG hP9 hD9 rfl hl.1 rfl (Nat.le_of_ble_eq_true rfl) dX1_shorten_21 ⟨Nat.le_of_ble_eq_true rfl, Nat.le_of_ble_eq_true rfl⟩) hP hD hS hA [1, 3] [0, 2, 4, 5, 6, 7, 8] rfl rfl (by decide) (by decide) (fun u21 H locs h21 hP hD hS hz hfr => ?_)
  have hP : va_P D cls [oO no 1 [.ref (g 0), .ref (g 1), .ref (g 2), .ref (g 3), .int cnt], oO (g 3) 2 [.ref (h 3), .int (nI k)], aI D (h 3) 100 (f 3), oO (g 0) 2 [.ref (h 0), .int (nI (min j k))], aI D (h 0) 100 (f 0), oO (g 1) 2 [.ref (h 1), .int (nI (min j k))], aI D (h 1) 100 (f 1), oO (g 2) 2 [.ref (h 2), .int (nI (min j k))], aI D (h 2) 100 (f 2)] H := hP
  have hD : va_D A [oO no 1 [.ref (g 0), .ref (g 1), .ref (g 2), .ref (g 3), .int cnt], oO (g 3) 2 [.ref (h 3), .int (nI k)], aI D (h 3) 100 (f 3), oO (g 0) 2 [.ref (h 0), .int (nI (min j k))], aI D (h 0) 100 (f 0), oO (g 1) 2 [.ref (h 1), .int (nI (min j k))], aI D (h 1) 100 (f 1), oO (g 2) 2 [.ref (h 2), .int (nI (min j k))], aI D (h 2) 100 (f 2)] := hD
  refine lv_aload_n hx hb dX1_shorten_24 rfl (lv_at hl 0 rfl) ?_
  refine va_get (D := D) (ci := 1) (v := .ref (g 3)) (C := RX1) (T := TX1) (N := 5) hx hb hts inlX1 hown hG.K hP 0 rfl rfl 3 (by decide) (hts _ mF_X1_26) (fun _ h9 => h9) rfl dX1_shorten_25 ?_
  refine lv_iload_n hx hb dX1_shorten_28 rfl (lv_at hl 1 rfl) ?_
  have hP9 := hP.sub (ws' := [oO (g 3) 2 [.ref (h 3), .int (nI k)], aI D (h 3) 100 (f 3)]) [1, 2] rfl
  have hD9 := (hD.sub (ws' := [oO (g 3) 2 [.ref (h 3), .int (nI k)], aI D (h 3) 100 (f 3)]) [1, 2] (by decide) rfl).weaken (B := fun _ => True) (fun _ _ _ _ => trivial)
  refine kv (wr := [oO no 1 [.ref (g 0), .ref (g 1), .ref (g 2), .ref (g 3), .int cnt], oO (g 0) 2 [.ref (h 0), .int (nI (min j k))], aI D (h 0) 100 (f 0), oO (g 1) 2 [.ref (h 1), .int (nI (min j k))], aI D (h 1) 100 (f 1), oO (g 2) 2 [.ref (h 2), .int (nI (min j k))], aI D (h 2) 100 (f 2)]) (rV (rest := []) (qc := (RX2, TX2, 2)) [.int (nI j)] 1 0 0 hC (c_shorten l D (r := g 3) (j := j) (a := h 3) (sz := k) (n := 100) (f := f 3) (hz0 := H.size) (by omega) (by omega) (by omega)) rfl (hP 1 _ rfl) (gV mM_X1_40 mI_X2_shorten mS_X2_shorten mN_X2 mC_X2_shorten) (by decide +kernel) rfl rfl ⟨Nat.le_of_ble_eq_true rfl, Nat.le_of_ble_eq_true rfl⟩ hG hP9 hD9 rfl hl.1 rfl (Nat.le_of_ble_eq_true rfl) dX1_shorten_29 ⟨Nat.le_of_ble_eq_true rfl, Nat.le_of_ble_eq_true rfl⟩) hP hD hS hA [1, 2] [0, 3, 4, 5, 6, 7, 8] rfl rfl (by decide) (by decide) (fun u29 H locs h29 hP hD hS hz hfr => ?_)
  have hP : va_P D cls [oO no 1 [.ref (g 0), .ref (g 1), .ref (g 2), .ref (g 3), .int cnt], oO (g 0) 2 [.ref (h 0), .int (nI (min j k))], aI D (h 0) 100 (f 0), oO (g 1) 2 [.ref (h 1), .int (nI (min j k))], aI D (h 1) 100 (f 1), oO (g 2) 2 [.ref (h 2), .int (nI (min j k))], aI D (h 2) 100 (f 2), oO (g 3) 2 [.ref (h 3), .int (nI (min j k))], aI D (h 3) 100 (f 3)] H := hP
  have hD : va_D A [oO no 1 [.ref (g 0), .ref (g 1), .ref (g 2), .ref (g 3), .int cnt], oO (g 0) 2 [.ref (h 0), .int (nI (min j k))], aI D (h 0) 100 (f 0), oO (g 1) 2 [.ref (h 1), .int (nI (min j k))], aI D (h 1) 100 (f 1), oO (g 2) 2 [.ref (h 2), .int (nI (min j k))], aI D (h 2) 100 (f 2), oO (g 3) 2 [.ref (h 3), .int (nI (min j k))], aI D (h 3) 100 (f 3)] := hD
  refine Wv () hx hb hr hlk ?_ (hP.sub [0, 1, 3, 5, 7, 2, 4, 6, 8] rfl) (hD.sub [0, 1, 3, 5, 7, 2, 4, 6, 8] (by decide) rfl) hS (Nat.le_of_ble_eq_true rfl) (by first | exact Nat.le_of_ble_eq_true rfl | exact Nat.le_of_eq (Nat.zero_add _)) dX1_shorten_32
  exact trivial
set_option maxHeartbeats 4000000 in
set_option maxRecDepth 100000 in
theorem c_clear (l : Launch) (D : va_G) {no k : Nat} {g h : Nat → Nat} {f : Nat → Nat → Int32} {cnt : Int32} (hz0 : Nat) (hk : k ≤ 100) : Met l yX1_clear (ws_ yX1_clear cX1_clear 1 none) ({ frames := 2, cells := 0, slots := 0, locals := 42 } : Room) (va_Pc [.ref no] (SW D [oO no 1 [.ref (g 0), .ref (g 1), .ref (g 2), .ref (g 3), .int cnt], oO (g 0) 2 [.ref (h 0), .int (nI k)], oO (g 1) 2 [.ref (h 1), .int (nI k)], oO (g 2) 2 [.ref (h 2), .int (nI k)], oO (g 3) 2 [.ref (h 3), .int (nI k)], aI D (h 0) 100 (f 0), aI D (h 1) 100 (f 1), aI D (h 2) 100 (f 2), aI D (h 3) 100 (f 3)] hz0)) (va_Qv (fun _ => True) (AT D (va_A [oO no 1 [.ref (g 0), .ref (g 1), .ref (g 2), .ref (g 3), .int cnt], oO (g 0) 2 [.ref (h 0), .int (nI k)], oO (g 1) 2 [.ref (h 1), .int (nI k)], oO (g 2) 2 [.ref (h 2), .int (nI k)], oO (g 3) 2 [.ref (h 3), .int (nI k)], aI D (h 0) 100 (f 0), aI D (h 1) 100 (f 1), aI D (h 2) 100 (f 2), aI D (h 3) 100 (f 3)] hz0) (fun _ : Unit => [oO no 1 [.ref (g 0), .ref (g 1), .ref (g 2), .ref (g 3), .int 0], oO (g 0) 2 [.ref (h 0), .int (nI 0)], oO (g 1) 2 [.ref (h 1), .int (nI 0)], oO (g 2) 2 [.ref (h 2), .int (nI 0)], oO (g 3) 2 [.ref (h 3), .int (nI 0)], aI D (h 0) 100 (f 0), aI D (h 1) 100 (f 1), aI D (h 2) 100 (f 2), aI D (h 3) 100 (f 3)])) (va_A [oO no 1 [.ref (g 0), .ref (g 1), .ref (g 2), .ref (g 3), .int cnt], oO (g 0) 2 [.ref (h 0), .int (nI k)], oO (g 1) 2 [.ref (h 1), .int (nI k)], oO (g 2) 2 [.ref (h 2), .int (nI k)], oO (g 3) 2 [.ref (h 3), .int (nI k)], aI D (h 0) 100 (f 0), aI D (h 1) 100 (f 1), aI D (h 2) 100 (f 2), aI D (h 3) 100 (f 3)] hz0)) 0 0 (va_A [oO no 1 [.ref (g 0), .ref (g 1), .ref (g 2), .ref (g 3), .int cnt], oO (g 0) 2 [.ref (h 0), .int (nI k)], oO (g 1) 2 [.ref (h 1), .int (nI k)], oO (g 2) 2 [.ref (h 2), .int (nI k)], oO (g 3) 2 [.ref (h 3), .int (nI k)], aI D (h 0) 100 (f 0), aI D (h 1) 100 (f 1), aI D (h 2) 100 (f 2), aI D (h 3) 100 (f 3)] hz0) := by
  refine Met.ofW (cc := cX1_clear) (maxL := 1) (ret := none) (by decide) rfl ?_
  intro p e s m args below meth c s₁ B hml hv
  obtain ⟨rfl, hsz, hG, hP, hD0⟩ := hv
  have hx := B.exec
  have hb := B.bytes
  have hr := B.returns
  have hts : ∀ w ∈ wsL_law, w.before _ s = true := fun w h => atoms_spec (ws := (ws_ yX1_clear cX1_clear 1 none)) B.pre w (List.mem_cons_of_mem _ h)
  have hown : s.vm.findClass RX1 = some m.cls := findClass_of_methodNamed B.named
  have hlk := B.notSynchronized
  have hC : CallFix p m c cX1_clear 1 s _ wsL_law RX1 := ⟨hx, hb, hml, hown, hts⟩
  subst hsz
  have hD := hD0.self (sz := s.heap.size)
  generalize hAe : va_A [oO no 1 [.ref (g 0), .ref (g 1), .ref (g 2), .ref (g 3), .int cnt], oO (g 0) 2 [.ref (h 0), .int (nI k)], oO (g 1) 2 [.ref (h 1), .int (nI k)], oO (g 2) 2 [.ref (h 2), .int (nI k)], oO (g 3) 2 [.ref (h 3), .int (nI k)], aI D (h 0) 100 (f 0), aI D (h 1) 100 (f 1), aI D (h 2) 100 (f 2), aI D (h 3) 100 (f 3)] s.heap.size = A at hD ⊢
  have hA : ∀ q : Nat, s.heap.size ≤ q → A q := fun q h => by rw [← hAe]; exact Or.inr h
  have hS : va_S A s.heap s.heap [] := va_S.rf
  obtain ⟨H, hHe⟩ : ∃ H, H = s.heap := ⟨_, rfl⟩
  rw [← hHe] at hP
  have hS : va_S A s.heap H [] := by rw [hHe]; exact hS
  have hl := lv_entry ([.ref no]) (n := 1) (Nat.le_of_ble_eq_true rfl)
  rw [lg_entry_eq]
  generalize (lg_sl ([.ref no]) ++ List.replicate (1 - (lg_sl ([.ref no])).length) Slot.unset).toArray = ls at hl ⊢
  have hl : lv_has ls 1 [(0, .ref no)] := hl
  rw [← hHe]
  refine lv_aload_n hx hb dX1_clear_0 rfl (lv_at hl 0 rfl) ?_
  refine lv_iconst (v := 0) hx hb dX1_clear_1 (by decide) ?_
  have hP9 := hP.sub (ws' := [oO no 1 [.ref (g 0), .ref (g 1), .ref (g 2), .ref (g 3), .int cnt], oO (g 0) 2 [.ref (h 0), .int (nI k)], oO (g 1) 2 [.ref (h 1), .int (nI k)], oO (g 2) 2 [.ref (h 2), .int (nI k)], oO (g 3) 2 [.ref (h 3), .int (nI k)], aI D (h 0) 100 (f 0), aI D (h 1) 100 (f 1), aI D (h 2) 100 (f 2), aI D (h 3) 100 (f 3)]) [0, 1, 2, 3, 4, 5, 6, 7, 8] rfl
  have hD9 := (hD.sub (ws' := [oO no 1 [.ref (g 0), .ref (g 1), .ref (g 2), .ref (g 3), .int cnt], oO (g 0) 2 [.ref (h 0), .int (nI k)], oO (g 1) 2 [.ref (h 1), .int (nI k)], oO (g 2) 2 [.ref (h 2), .int (nI k)], oO (g 3) 2 [.ref (h 3), .int (nI k)], aI D (h 0) 100 (f 0), aI D (h 1) 100 (f 1), aI D (h 2) 100 (f 2), aI D (h 3) 100 (f 3)]) [0, 1, 2, 3, 4, 5, 6, 7, 8] (by decide) rfl).weaken (B := fun _ => True) (fun _ _ _ _ => trivial)
  refine kv (wr := []) (rV (rest := []) (qc := (RX1, TX1, 5)) [.int 0] 1 0 0 hC (c_Notes_shorten l D (no := no) (j := 0) (cnt := cnt) (k := k) (hz0 := H.size) (by omega) (by omega)) rfl (hP 0 _ rfl) (gV mM_X1_33 mI_X1_shorten mS_X1_shorten mN_X1 mC_X1_shorten) (by decide +kernel) rfl rfl ⟨Nat.le_of_ble_eq_true rfl, Nat.le_of_ble_eq_true rfl⟩ hG hP9 hD9 rfl hl.1 rfl (Nat.le_of_ble_eq_true rfl) dX1_clear_2 ⟨Nat.le_of_ble_eq_true rfl, Nat.le_of_ble_eq_true rfl⟩) hP hD hS hA [0, 1, 2, 3, 4, 5, 6, 7, 8] [] rfl rfl (by decide) (by decide) (fun u2 H locs h2 hP hD hS hz hfr => ?_)
  have hP : va_P D cls [oO no 1 [.ref (g 0), .ref (g 1), .ref (g 2), .ref (g 3), .int cnt], oO (g 0) 2 [.ref (h 0), .int (nI (min 0 k))], oO (g 1) 2 [.ref (h 1), .int (nI (min 0 k))], oO (g 2) 2 [.ref (h 2), .int (nI (min 0 k))], oO (g 3) 2 [.ref (h 3), .int (nI (min 0 k))], aI D (h 0) 100 (f 0), aI D (h 1) 100 (f 1), aI D (h 2) 100 (f 2), aI D (h 3) 100 (f 3)] H := hP
  have hD : va_D A [oO no 1 [.ref (g 0), .ref (g 1), .ref (g 2), .ref (g 3), .int cnt], oO (g 0) 2 [.ref (h 0), .int (nI (min 0 k))], oO (g 1) 2 [.ref (h 1), .int (nI (min 0 k))], oO (g 2) 2 [.ref (h 2), .int (nI (min 0 k))], oO (g 3) 2 [.ref (h 3), .int (nI (min 0 k))], aI D (h 0) 100 (f 0), aI D (h 1) 100 (f 1), aI D (h 2) 100 (f 2), aI D (h 3) 100 (f 3)] := hD
  have hcv1 : (.int (nI 0) : Value) = (.int (nI (min 0 k))) := by rw [Nat.zero_min]
  have hP := Eq.mpr (congrArg (fun z9 => va_P D cls [oO no 1 [.ref (g 0), .ref (g 1), .ref (g 2), .ref (g 3), .int cnt], oO (g 0) 2 [.ref (h 0), z9], oO (g 1) 2 [.ref (h 1), .int (nI (min 0 k))], oO (g 2) 2 [.ref (h 2), .int (nI (min 0 k))], oO (g 3) 2 [.ref (h 3), .int (nI (min 0 k))], aI D (h 0) 100 (f 0), aI D (h 1) 100 (f 1), aI D (h 2) 100 (f 2), aI D (h 3) 100 (f 3)] H) hcv1) hP
  have hD := Eq.mpr (congrArg (fun z9 => va_D A [oO no 1 [.ref (g 0), .ref (g 1), .ref (g 2), .ref (g 3), .int cnt], oO (g 0) 2 [.ref (h 0), z9], oO (g 1) 2 [.ref (h 1), .int (nI (min 0 k))], oO (g 2) 2 [.ref (h 2), .int (nI (min 0 k))], oO (g 3) 2 [.ref (h 3), .int (nI (min 0 k))], aI D (h 0) 100 (f 0), aI D (h 1) 100 (f 1), aI D (h 2) 100 (f 2), aI D (h 3) 100 (f 3)]) hcv1) hD
  have hP : va_P D cls [oO no 1 [.ref (g 0), .ref (g 1), .ref (g 2), .ref (g 3), .int cnt], oO (g 0) 2 [.ref (h 0), .int (nI 0)], oO (g 1) 2 [.ref (h 1), .int (nI (min 0 k))], oO (g 2) 2 [.ref (h 2), .int (nI (min 0 k))], oO (g 3) 2 [.ref (h 3), .int (nI (min 0 k))], aI D (h 0) 100 (f 0), aI D (h 1) 100 (f 1), aI D (h 2) 100 (f 2), aI D (h 3) 100 (f 3)] H := hP
  have hD : va_D A [oO no 1 [.ref (g 0), .ref (g 1), .ref (g 2), .ref (g 3), .int cnt], oO (g 0) 2 [.ref (h 0), .int (nI 0)], oO (g 1) 2 [.ref (h 1), .int (nI (min 0 k))], oO (g 2) 2 [.ref (h 2), .int (nI (min 0 k))], oO (g 3) 2 [.ref (h 3), .int (nI (min 0 k))], aI D (h 0) 100 (f 0), aI D (h 1) 100 (f 1), aI D (h 2) 100 (f 2), aI D (h 3) 100 (f 3)] := hD
  have hcv2 : (.int (nI 0) : Value) = (.int (nI (min 0 k))) := by rw [Nat.zero_min]
  have hP := Eq.mpr (congrArg (fun z9 => va_P D cls [oO no 1 [.ref (g 0), .ref (g 1), .ref (g 2), .ref (g 3), .int cnt], oO (g 0) 2 [.ref (h 0), .int (nI 0)], oO (g 1) 2 [.ref (h 1), z9], oO (g 2) 2 [.ref (h 2), .int (nI (min 0 k))], oO (g 3) 2 [.ref (h 3), .int (nI (min 0 k))], aI D (h 0) 100 (f 0), aI D (h 1) 100 (f 1), aI D (h 2) 100 (f 2), aI D (h 3) 100 (f 3)] H) hcv2) hP
  have hD := Eq.mpr (congrArg (fun z9 => va_D A [oO no 1 [.ref (g 0), .ref (g 1), .ref (g 2), .ref (g 3), .int cnt], oO (g 0) 2 [.ref (h 0), .int (nI 0)], oO (g 1) 2 [.ref (h 1), z9], oO (g 2) 2 [.ref (h 2), .int (nI (min 0 k))], oO (g 3) 2 [.ref (h 3), .int (nI (min 0 k))], aI D (h 0) 100 (f 0), aI D (h 1) 100 (f 1), aI D (h 2) 100 (f 2), aI D (h 3) 100 (f 3)]) hcv2) hD
  have hP : va_P D cls [oO no 1 [.ref (g 0), .ref (g 1), .ref (g 2), .ref (g 3), .int cnt], oO (g 0) 2 [.ref (h 0), .int (nI 0)], oO (g 1) 2 [.ref (h 1), .int (nI 0)], oO (g 2) 2 [.ref (h 2), .int (nI (min 0 k))], oO (g 3) 2 [.ref (h 3), .int (nI (min 0 k))], aI D (h 0) 100 (f 0), aI D (h 1) 100 (f 1), aI D (h 2) 100 (f 2), aI D (h 3) 100 (f 3)] H := hP
  have hD : va_D A [oO no 1 [.ref (g 0), .ref (g 1), .ref (g 2), .ref (g 3), .int cnt], oO (g 0) 2 [.ref (h 0), .int (nI 0)], oO (g 1) 2 [.ref (h 1), .int (nI 0)], oO (g 2) 2 [.ref (h 2), .int (nI (min 0 k))], oO (g 3) 2 [.ref (h 3), .int (nI (min 0 k))], aI D (h 0) 100 (f 0), aI D (h 1) 100 (f 1), aI D (h 2) 100 (f 2), aI D (h 3) 100 (f 3)] := hD
  have hcv3 : (.int (nI 0) : Value) = (.int (nI (min 0 k))) := by rw [Nat.zero_min]
  have hP := Eq.mpr (congrArg (fun z9 => va_P D cls [oO no 1 [.ref (g 0), .ref (g 1), .ref (g 2), .ref (g 3), .int cnt], oO (g 0) 2 [.ref (h 0), .int (nI 0)], oO (g 1) 2 [.ref (h 1), .int (nI 0)], oO (g 2) 2 [.ref (h 2), z9], oO (g 3) 2 [.ref (h 3), .int (nI (min 0 k))], aI D (h 0) 100 (f 0), aI D (h 1) 100 (f 1), aI D (h 2) 100 (f 2), aI D (h 3) 100 (f 3)] H) hcv3) hP
  have hD := Eq.mpr (congrArg (fun z9 => va_D A [oO no 1 [.ref (g 0), .ref (g 1), .ref (g 2), .ref (g 3), .int cnt], oO (g 0) 2 [.ref (h 0), .int (nI 0)], oO (g 1) 2 [.ref (h 1), .int (nI 0)], oO (g 2) 2 [.ref (h 2), z9], oO (g 3) 2 [.ref (h 3), .int (nI (min 0 k))], aI D (h 0) 100 (f 0), aI D (h 1) 100 (f 1), aI D (h 2) 100 (f 2), aI D (h 3) 100 (f 3)]) hcv3) hD
  have hP : va_P D cls [oO no 1 [.ref (g 0), .ref (g 1), .ref (g 2), .ref (g 3), .int cnt], oO (g 0) 2 [.ref (h 0), .int (nI 0)], oO (g 1) 2 [.ref (h 1), .int (nI 0)], oO (g 2) 2 [.ref (h 2), .int (nI 0)], oO (g 3) 2 [.ref (h 3), .int (nI (min 0 k))], aI D (h 0) 100 (f 0), aI D (h 1) 100 (f 1), aI D (h 2) 100 (f 2), aI D (h 3) 100 (f 3)] H := hP
  have hD : va_D A [oO no 1 [.ref (g 0), .ref (g 1), .ref (g 2), .ref (g 3), .int cnt], oO (g 0) 2 [.ref (h 0), .int (nI 0)], oO (g 1) 2 [.ref (h 1), .int (nI 0)], oO (g 2) 2 [.ref (h 2), .int (nI 0)], oO (g 3) 2 [.ref (h 3), .int (nI (min 0 k))], aI D (h 0) 100 (f 0), aI D (h 1) 100 (f 1), aI D (h 2) 100 (f 2), aI D (h 3) 100 (f 3)] := hD
  have hcv4 : (.int (nI 0) : Value) = (.int (nI (min 0 k))) := by rw [Nat.zero_min]
  have hP := Eq.mpr (congrArg (fun z9 => va_P D cls [oO no 1 [.ref (g 0), .ref (g 1), .ref (g 2), .ref (g 3), .int cnt], oO (g 0) 2 [.ref (h 0), .int (nI 0)], oO (g 1) 2 [.ref (h 1), .int (nI 0)], oO (g 2) 2 [.ref (h 2), .int (nI 0)], oO (g 3) 2 [.ref (h 3), z9], aI D (h 0) 100 (f 0), aI D (h 1) 100 (f 1), aI D (h 2) 100 (f 2), aI D (h 3) 100 (f 3)] H) hcv4) hP
  have hD := Eq.mpr (congrArg (fun z9 => va_D A [oO no 1 [.ref (g 0), .ref (g 1), .ref (g 2), .ref (g 3), .int cnt], oO (g 0) 2 [.ref (h 0), .int (nI 0)], oO (g 1) 2 [.ref (h 1), .int (nI 0)], oO (g 2) 2 [.ref (h 2), .int (nI 0)], oO (g 3) 2 [.ref (h 3), z9], aI D (h 0) 100 (f 0), aI D (h 1) 100 (f 1), aI D (h 2) 100 (f 2), aI D (h 3) 100 (f 3)]) hcv4) hD
  have hP : va_P D cls [oO no 1 [.ref (g 0), .ref (g 1), .ref (g 2), .ref (g 3), .int cnt], oO (g 0) 2 [.ref (h 0), .int (nI 0)], oO (g 1) 2 [.ref (h 1), .int (nI 0)], oO (g 2) 2 [.ref (h 2), .int (nI 0)], oO (g 3) 2 [.ref (h 3), .int (nI 0)], aI D (h 0) 100 (f 0), aI D (h 1) 100 (f 1), aI D (h 2) 100 (f 2), aI D (h 3) 100 (f 3)] H := hP
  have hD : va_D A [oO no 1 [.ref (g 0), .ref (g 1), .ref (g 2), .ref (g 3), .int cnt], oO (g 0) 2 [.ref (h 0), .int (nI 0)], oO (g 1) 2 [.ref (h 1), .int (nI 0)], oO (g 2) 2 [.ref (h 2), .int (nI 0)], oO (g 3) 2 [.ref (h 3), .int (nI 0)], aI D (h 0) 100 (f 0), aI D (h 1) 100 (f 1), aI D (h 2) 100 (f 2), aI D (h 3) 100 (f 3)] := hD
  refine lv_aload_n hx hb dX1_clear_5 rfl (lv_at hl 0 rfl) ?_
  refine lv_iconst (v := 0) hx hb dX1_clear_6 (by decide) ?_
  refine va_put (D := D) (ci := 1) (v := .int 0) (ty := .int) (C := RX1) (T := TX1) (N := 5) hx hb hts inlX1 tyX1 tyX1_ok nmX1 hown hG.K hP hD hS 0 rfl rfl 4 (by decide) (hts _ mF_X1_36) (fun _ h9 => h9) rfl (by decide +kernel) rfl rfl (Nat.le_of_ble_eq_true rfl) dX1_clear_7 (fun H locs hP hD hS => ?_)
  have hP : va_P D cls [oO no 1 [.ref (g 0), .ref (g 1), .ref (g 2), .ref (g 3), .int 0], oO (g 0) 2 [.ref (h 0), .int (nI 0)], oO (g 1) 2 [.ref (h 1), .int (nI 0)], oO (g 2) 2 [.ref (h 2), .int (nI 0)], oO (g 3) 2 [.ref (h 3), .int (nI 0)], aI D (h 0) 100 (f 0), aI D (h 1) 100 (f 1), aI D (h 2) 100 (f 2), aI D (h 3) 100 (f 3)] H := hP
  have hD : va_D A [oO no 1 [.ref (g 0), .ref (g 1), .ref (g 2), .ref (g 3), .int 0], oO (g 0) 2 [.ref (h 0), .int (nI 0)], oO (g 1) 2 [.ref (h 1), .int (nI 0)], oO (g 2) 2 [.ref (h 2), .int (nI 0)], oO (g 3) 2 [.ref (h 3), .int (nI 0)], aI D (h 0) 100 (f 0), aI D (h 1) 100 (f 1), aI D (h 2) 100 (f 2), aI D (h 3) 100 (f 3)] := hD
  refine Wv () hx hb hr hlk ?_ hP hD hS (Nat.le_of_ble_eq_true rfl) (by first | exact Nat.le_of_ble_eq_true rfl | exact Nat.le_of_eq (Nat.zero_add _)) dX1_clear_10
  exact trivial
set_option maxHeartbeats 4000000 in
set_option maxRecDepth 100000 in
theorem c_note_full (l : Launch) (D : va_G) {no k : Nat} {g h : Nat → Nat} {f : Nat → Nat → Int32} {cnt : Int32} {x y z u : Int32} (hz0 : Nat) (hk : k ≤ 100) (hf : 100 ≤ cntLe (f 0) x k) : Met l yX1_note (ws_ yX1_note cX1_note 6 none) ({ frames := 3, cells := 0, slots := 0, locals := 64 } : Room) (va_Pc [.ref no, .int x, .int y, .int z, .int u] (SW D [oO no 1 [.ref (g 0), .ref (g 1), .ref (g 2), .ref (g 3), .int cnt], oO (g 0) 2 [.ref (h 0), .int (nI k)], oO (g 1) 2 [.ref (h 1), .int (nI k)], oO (g 2) 2 [.ref (h 2), .int (nI k)], oO (g 3) 2 [.ref (h 3), .int (nI k)], aI D (h 0) 100 (f 0), aI D (h 1) 100 (f 1), aI D (h 2) 100 (f 2), aI D (h 3) 100 (f 3)] hz0)) (va_Qv (fun _ => True) (AT D (va_A [oO no 1 [.ref (g 0), .ref (g 1), .ref (g 2), .ref (g 3), .int cnt], oO (g 0) 2 [.ref (h 0), .int (nI k)], oO (g 1) 2 [.ref (h 1), .int (nI k)], oO (g 2) 2 [.ref (h 2), .int (nI k)], oO (g 3) 2 [.ref (h 3), .int (nI k)], aI D (h 0) 100 (f 0), aI D (h 1) 100 (f 1), aI D (h 2) 100 (f 2), aI D (h 3) 100 (f 3)] hz0) (fun _ : Unit => [oO no 1 [.ref (g 0), .ref (g 1), .ref (g 2), .ref (g 3), .int (cnt + 1)], oO (g 0) 2 [.ref (h 0), .int (nI k)], oO (g 1) 2 [.ref (h 1), .int (nI k)], oO (g 2) 2 [.ref (h 2), .int (nI k)], oO (g 3) 2 [.ref (h 3), .int (nI k)], aI D (h 0) 100 (f 0), aI D (h 1) 100 (f 1), aI D (h 2) 100 (f 2), aI D (h 3) 100 (f 3)])) (va_A [oO no 1 [.ref (g 0), .ref (g 1), .ref (g 2), .ref (g 3), .int cnt], oO (g 0) 2 [.ref (h 0), .int (nI k)], oO (g 1) 2 [.ref (h 1), .int (nI k)], oO (g 2) 2 [.ref (h 2), .int (nI k)], oO (g 3) 2 [.ref (h 3), .int (nI k)], aI D (h 0) 100 (f 0), aI D (h 1) 100 (f 1), aI D (h 2) 100 (f 2), aI D (h 3) 100 (f 3)] hz0)) 0 0 (va_A [oO no 1 [.ref (g 0), .ref (g 1), .ref (g 2), .ref (g 3), .int cnt], oO (g 0) 2 [.ref (h 0), .int (nI k)], oO (g 1) 2 [.ref (h 1), .int (nI k)], oO (g 2) 2 [.ref (h 2), .int (nI k)], oO (g 3) 2 [.ref (h 3), .int (nI k)], aI D (h 0) 100 (f 0), aI D (h 1) 100 (f 1), aI D (h 2) 100 (f 2), aI D (h 3) 100 (f 3)] hz0) := by
  refine Met.ofW (cc := cX1_note) (maxL := 6) (ret := none) (by decide) rfl ?_
  intro p e s m args below meth c s₁ B hml hv
  obtain ⟨rfl, hsz, hG, hP, hD0⟩ := hv
  have hx := B.exec
  have hb := B.bytes
  have hr := B.returns
  have hts : ∀ w ∈ wsL_law, w.before _ s = true := fun w h => atoms_spec (ws := (ws_ yX1_note cX1_note 6 none)) B.pre w (List.mem_cons_of_mem _ h)
  have hown : s.vm.findClass RX1 = some m.cls := findClass_of_methodNamed B.named
  have hlk := B.notSynchronized
  have hC : CallFix p m c cX1_note 6 s _ wsL_law RX1 := ⟨hx, hb, hml, hown, hts⟩
  subst hsz
  have hD := hD0.self (sz := s.heap.size)
  generalize hAe : va_A [oO no 1 [.ref (g 0), .ref (g 1), .ref (g 2), .ref (g 3), .int cnt], oO (g 0) 2 [.ref (h 0), .int (nI k)], oO (g 1) 2 [.ref (h 1), .int (nI k)], oO (g 2) 2 [.ref (h 2), .int (nI k)], oO (g 3) 2 [.ref (h 3), .int (nI k)], aI D (h 0) 100 (f 0), aI D (h 1) 100 (f 1), aI D (h 2) 100 (f 2), aI D (h 3) 100 (f 3)] s.heap.size = A at hD ⊢
  have hA : ∀ q : Nat, s.heap.size ≤ q → A q := fun q h => by rw [← hAe]; exact Or.inr h
  have hS : va_S A s.heap s.heap [] := va_S.rf
  obtain ⟨H, hHe⟩ : ∃ H, H = s.heap := ⟨_, rfl⟩
  rw [← hHe] at hP
  have hS : va_S A s.heap H [] := by rw [hHe]; exact hS
  have hl := lv_entry ([.ref no, .int x, .int y, .int z, .int u]) (n := 6) (Nat.le_of_ble_eq_true rfl)
  rw [lg_entry_eq]
  generalize (lg_sl ([.ref no, .int x, .int y, .int z, .int u]) ++ List.replicate (6 - (lg_sl ([.ref no, .int x, .int y, .int z, .int u])).length) Slot.unset).toArray = ls at hl ⊢
  have hl : lv_has ls 6 [(0, .ref no), (1, .int x), (2, .int y), (3, .int z), (4, .int u)] := hl
  rw [← hHe]
  have hcl := cntLe_le (f 0) x k
  refine lv_aload_n hx hb dX1_note_0 rfl (lv_at hl 0 rfl) ?_
  refine lv_dup hx hb dX1_note_1 rfl ?_
  refine va_get (D := D) (ci := 1) (v := .int cnt) (C := RX1) (T := TX1) (N := 5) hx hb hts inlX1 hown hG.K hP 0 rfl rfl 4 (by decide) (hts _ mF_X1_36) (fun _ h9 => h9) rfl dX1_note_2 ?_
  refine lv_iconst (v := 1) hx hb dX1_note_5 (by decide) ?_
  refine lv_iadd hx hb dX1_note_6 ?_
  refine va_put (D := D) (ci := 1) (v := .int (cnt + 1)) (ty := .int) (C := RX1) (T := TX1) (N := 5) hx hb hts inlX1 tyX1 tyX1_ok nmX1 hown hG.K hP hD hS 0 rfl rfl 4 (by decide) (hts _ mF_X1_36) (fun _ h9 => h9) rfl (by decide +kernel) rfl rfl (Nat.le_of_ble_eq_true rfl) dX1_note_7 (fun H locs hP hD hS => ?_)
  have hP : va_P D cls [oO no 1 [.ref (g 0), .ref (g 1), .ref (g 2), .ref (g 3), .int (cnt + 1)], oO (g 0) 2 [.ref (h 0), .int (nI k)], oO (g 1) 2 [.ref (h 1), .int (nI k)], oO (g 2) 2 [.ref (h 2), .int (nI k)], oO (g 3) 2 [.ref (h 3), .int (nI k)], aI D (h 0) 100 (f 0), aI D (h 1) 100 (f 1), aI D (h 2) 100 (f 2), aI D (h 3) 100 (f 3)] H := hP
  have hD : va_D A [oO no 1 [.ref (g 0), .ref (g 1), .ref (g 2), .ref (g 3), .int (cnt + 1)], oO (g 0) 2 [.ref (h 0), .int (nI k)], oO (g 1) 2 [.ref (h 1), .int (nI k)], oO (g 2) 2 [.ref (h 2), .int (nI k)], oO (g 3) 2 [.ref (h 3), .int (nI k)], aI D (h 0) 100 (f 0), aI D (h 1) 100 (f 1), aI D (h 2) 100 (f 2), aI D (h 3) 100 (f 3)] := hD
  refine lv_aload_n hx hb dX1_note_10 rfl (lv_at hl 0 rfl) ?_
  refine va_get (D := D) (ci := 1) (v := .ref (g 0)) (C := RX1) (T := TX1) (N := 5) hx hb hts inlX1 hown hG.K hP 0 rfl rfl 0 (by decide) (hts _ mF_X1_14) (fun _ h9 => h9) rfl dX1_note_11 ?_
  refine lv_iload_n hx hb dX1_note_14 rfl (lv_at hl 1 rfl) ?_
  have hP9 := hP.sub (ws' := [oO (g 0) 2 [.ref (h 0), .int (nI k)], aI D (h 0) 100 (f 0)]) [1, 5] rfl
  refine vp_callSi (pV (rest := []) (qc := (RX2, TX2, 2)) [.int x] 1 hC (c_countUpTo l D (r := g 0) (x := x) (a := h 0) (sz := k) (n := 100) (f := f 0) (by omega) (by omega)) rfl (hP 1 _ rfl) (gV mM_X1_41 mI_X2_countUpTo mS_X2_countUpTo mN_X2 mC_X2_countUpTo) (by decide +kernel) rfl rfl ⟨Nat.le_of_ble_eq_true rfl, Nat.le_of_ble_eq_true rfl⟩ hG hP9 rfl hl.1 rfl (Nat.le_of_ble_eq_true rfl) dX1_note_15 ⟨Nat.le_of_ble_eq_true rfl, Nat.le_of_ble_eq_true rfl⟩) (fun r15 h15 => ?_)
  obtain rfl : r15 = (nI (cntLe (f 0) x k)) := h15
  refine lv_istore (lv' := [(5, .int (nI (cntLe (f 0) x k))), (0, .ref no), (1, .int x), (2, .int y), (3, .int z), (4, .int u)]) hx hb dX1_note_18 hl (by decide) rfl (fun ls hl => ?_)
  refine lv_iload hx hb dX1_note_20 (lv_at hl 0 rfl) ?_
  refine lv_bipush (v := 100) hx hb dX1_note_22 (by decide) ?_
  refine lv_icmp_lt (tgt := 28) hx hb dX1_note_24 (by decide) (fun h9 => absurd ((nI_ltI (a := cntLe (f 0) x k) (b := 100) (by omega) (by omega)).mp h9) (by omega)) (fun _ => ?_)
  refine Wv () hx hb hr hlk ?_ hP hD hS (Nat.le_of_ble_eq_true rfl) (by first | exact Nat.le_of_ble_eq_true rfl | exact Nat.le_of_eq (Nat.zero_add _)) dX1_note_27
  exact trivial
set_option maxHeartbeats 4000000 in
set_option maxRecDepth 100000 in
theorem c_note_in (l : Launch) (D : va_G) {no k : Nat} {g h : Nat → Nat} {f : Nat → Nat → Int32} {cnt : Int32} {x y z u : Int32} (hz0 : Nat) (hk : k ≤ 100) (hf : cntLe (f 0) x k < 100) : Met l yX1_note (ws_ yX1_note cX1_note 6 none) ({ frames := 3, cells := 0, slots := 0, locals := 64 } : Room) (va_Pc [.ref no, .int x, .int y, .int z, .int u] (SW D [oO no 1 [.ref (g 0), .ref (g 1), .ref (g 2), .ref (g 3), .int cnt], oO (g 0) 2 [.ref (h 0), .int (nI k)], oO (g 1) 2 [.ref (h 1), .int (nI k)], oO (g 2) 2 [.ref (h 2), .int (nI k)], oO (g 3) 2 [.ref (h 3), .int (nI k)], aI D (h 0) 100 (f 0), aI D (h 1) 100 (f 1), aI D (h 2) 100 (f 2), aI D (h 3) 100 (f 3)] hz0)) (va_Qv (fun _ => True) (AT D (va_A [oO no 1 [.ref (g 0), .ref (g 1), .ref (g 2), .ref (g 3), .int cnt], oO (g 0) 2 [.ref (h 0), .int (nI k)], oO (g 1) 2 [.ref (h 1), .int (nI k)], oO (g 2) 2 [.ref (h 2), .int (nI k)], oO (g 3) 2 [.ref (h 3), .int (nI k)], aI D (h 0) 100 (f 0), aI D (h 1) 100 (f 1), aI D (h 2) 100 (f 2), aI D (h 3) 100 (f 3)] hz0) (fun _ : Unit => [oO no 1 [.ref (g 0), .ref (g 1), .ref (g 2), .ref (g 3), .int (cnt + 1)], oO (g 0) 2 [.ref (h 0), .int (nI (min 99 k + 1))], oO (g 1) 2 [.ref (h 1), .int (nI (min 99 k + 1))], oO (g 2) 2 [.ref (h 2), .int (nI (min 99 k + 1))], oO (g 3) 2 [.ref (h 3), .int (nI (min 99 k + 1))], aI D (h 0) 100 (insF (f 0) (cntLe (f 0) x k) (min 99 k) x), aI D (h 1) 100 (insF (f 1) (cntLe (f 0) x k) (min 99 k) y), aI D (h 2) 100 (insF (f 2) (cntLe (f 0) x k) (min 99 k) z), aI D (h 3) 100 (insF (f 3) (cntLe (f 0) x k) (min 99 k) u)])) (va_A [oO no 1 [.ref (g 0), .ref (g 1), .ref (g 2), .ref (g 3), .int cnt], oO (g 0) 2 [.ref (h 0), .int (nI k)], oO (g 1) 2 [.ref (h 1), .int (nI k)], oO (g 2) 2 [.ref (h 2), .int (nI k)], oO (g 3) 2 [.ref (h 3), .int (nI k)], aI D (h 0) 100 (f 0), aI D (h 1) 100 (f 1), aI D (h 2) 100 (f 2), aI D (h 3) 100 (f 3)] hz0)) 0 0 (va_A [oO no 1 [.ref (g 0), .ref (g 1), .ref (g 2), .ref (g 3), .int cnt], oO (g 0) 2 [.ref (h 0), .int (nI k)], oO (g 1) 2 [.ref (h 1), .int (nI k)], oO (g 2) 2 [.ref (h 2), .int (nI k)], oO (g 3) 2 [.ref (h 3), .int (nI k)], aI D (h 0) 100 (f 0), aI D (h 1) 100 (f 1), aI D (h 2) 100 (f 2), aI D (h 3) 100 (f 3)] hz0) := by
  refine Met.ofW (cc := cX1_note) (maxL := 6) (ret := none) (by decide) rfl ?_
  intro p e s m args below meth c s₁ B hml hv
  obtain ⟨rfl, hsz, hG, hP, hD0⟩ := hv
  have hx := B.exec
  have hb := B.bytes
  have hr := B.returns
  have hts : ∀ w ∈ wsL_law, w.before _ s = true := fun w h => atoms_spec (ws := (ws_ yX1_note cX1_note 6 none)) B.pre w (List.mem_cons_of_mem _ h)
  have hown : s.vm.findClass RX1 = some m.cls := findClass_of_methodNamed B.named
  have hlk := B.notSynchronized
  have hC : CallFix p m c cX1_note 6 s _ wsL_law RX1 := ⟨hx, hb, hml, hown, hts⟩
  subst hsz
  have hD := hD0.self (sz := s.heap.size)
  generalize hAe : va_A [oO no 1 [.ref (g 0), .ref (g 1), .ref (g 2), .ref (g 3), .int cnt], oO (g 0) 2 [.ref (h 0), .int (nI k)], oO (g 1) 2 [.ref (h 1), .int (nI k)], oO (g 2) 2 [.ref (h 2), .int (nI k)], oO (g 3) 2 [.ref (h 3), .int (nI k)], aI D (h 0) 100 (f 0), aI D (h 1) 100 (f 1), aI D (h 2) 100 (f 2), aI D (h 3) 100 (f 3)] s.heap.size = A at hD ⊢
  have hA : ∀ q : Nat, s.heap.size ≤ q → A q := fun q h => by rw [← hAe]; exact Or.inr h
  have hS : va_S A s.heap s.heap [] := va_S.rf
  obtain ⟨H, hHe⟩ : ∃ H, H = s.heap := ⟨_, rfl⟩
  rw [← hHe] at hP
  have hS : va_S A s.heap H [] := by rw [hHe]; exact hS
  have hl := lv_entry ([.ref no, .int x, .int y, .int z, .int u]) (n := 6) (Nat.le_of_ble_eq_true rfl)
  rw [lg_entry_eq]
  generalize (lg_sl ([.ref no, .int x, .int y, .int z, .int u]) ++ List.replicate (6 - (lg_sl ([.ref no, .int x, .int y, .int z, .int u])).length) Slot.unset).toArray = ls at hl ⊢
  have hl : lv_has ls 6 [(0, .ref no), (1, .int x), (2, .int y), (3, .int z), (4, .int u)] := hl
  rw [← hHe]
  have hcl := cntLe_le (f 0) x k
  refine lv_aload_n hx hb dX1_note_0 rfl (lv_at hl 0 rfl) ?_
  refine lv_dup hx hb dX1_note_1 rfl ?_
  refine va_get (D := D) (ci := 1) (v := .int cnt) (C := RX1) (T := TX1) (N := 5) hx hb hts inlX1 hown hG.K hP 0 rfl rfl 4 (by decide) (hts _ mF_X1_36) (fun _ h9 => h9) rfl dX1_note_2 ?_
  refine lv_iconst (v := 1) hx hb dX1_note_5 (by decide) ?_
  refine lv_iadd hx hb dX1_note_6 ?_
  refine va_put (D := D) (ci := 1) (v := .int (cnt + 1)) (ty := .int) (C := RX1) (T := TX1) (N := 5) hx hb hts inlX1 tyX1 tyX1_ok nmX1 hown hG.K hP hD hS 0 rfl rfl 4 (by decide) (hts _ mF_X1_36) (fun _ h9 => h9) rfl (by decide +kernel) rfl rfl (Nat.le_of_ble_eq_true rfl) dX1_note_7 (fun H locs hP hD hS => ?_)
  have hP : va_P D cls [oO no 1 [.ref (g 0), .ref (g 1), .ref (g 2), .ref (g 3), .int (cnt + 1)], oO (g 0) 2 [.ref (h 0), .int (nI k)], oO (g 1) 2 [.ref (h 1), .int (nI k)], oO (g 2) 2 [.ref (h 2), .int (nI k)], oO (g 3) 2 [.ref (h 3), .int (nI k)], aI D (h 0) 100 (f 0), aI D (h 1) 100 (f 1), aI D (h 2) 100 (f 2), aI D (h 3) 100 (f 3)] H := hP
  have hD : va_D A [oO no 1 [.ref (g 0), .ref (g 1), .ref (g 2), .ref (g 3), .int (cnt + 1)], oO (g 0) 2 [.ref (h 0), .int (nI k)], oO (g 1) 2 [.ref (h 1), .int (nI k)], oO (g 2) 2 [.ref (h 2), .int (nI k)], oO (g 3) 2 [.ref (h 3), .int (nI k)], aI D (h 0) 100 (f 0), aI D (h 1) 100 (f 1), aI D (h 2) 100 (f 2), aI D (h 3) 100 (f 3)] := hD
  refine lv_aload_n hx hb dX1_note_10 rfl (lv_at hl 0 rfl) ?_
  refine va_get (D := D) (ci := 1) (v := .ref (g 0)) (C := RX1) (T := TX1) (N := 5) hx hb hts inlX1 hown hG.K hP 0 rfl rfl 0 (by decide) (hts _ mF_X1_14) (fun _ h9 => h9) rfl dX1_note_11 ?_
  refine lv_iload_n hx hb dX1_note_14 rfl (lv_at hl 1 rfl) ?_
  have hP9 := hP.sub (ws' := [oO (g 0) 2 [.ref (h 0), .int (nI k)], aI D (h 0) 100 (f 0)]) [1, 5] rfl
  refine vp_callSi (pV (rest := []) (qc := (RX2, TX2, 2)) [.int x] 1 hC (c_countUpTo l D (r := g 0) (x := x) (a := h 0) (sz := k) (n := 100) (f := f 0) (by omega) (by omega)) rfl (hP 1 _ rfl) (gV mM_X1_41 mI_X2_countUpTo mS_X2_countUpTo mN_X2 mC_X2_countUpTo) (by decide +kernel) rfl rfl ⟨Nat.le_of_ble_eq_true rfl, Nat.le_of_ble_eq_true rfl⟩ hG hP9 rfl hl.1 rfl (Nat.le_of_ble_eq_true rfl) dX1_note_15 ⟨Nat.le_of_ble_eq_true rfl, Nat.le_of_ble_eq_true rfl⟩) (fun r15 h15 => ?_)
  obtain rfl : r15 = (nI (cntLe (f 0) x k)) := h15
  refine lv_istore (lv' := [(5, .int (nI (cntLe (f 0) x k))), (0, .ref no), (1, .int x), (2, .int y), (3, .int z), (4, .int u)]) hx hb dX1_note_18 hl (by decide) rfl (fun ls hl => ?_)
  refine lv_iload hx hb dX1_note_20 (lv_at hl 0 rfl) ?_
  refine lv_bipush (v := 100) hx hb dX1_note_22 (by decide) ?_
  refine lv_icmp_lt (tgt := 28) hx hb dX1_note_24 (by decide) (fun _ => ?_) (fun h9 => absurd ((nI_ltI (a := cntLe (f 0) x k) (b := 100) (by omega) (by omega)).mpr (by omega)) h9)
  refine lv_aload_n hx hb dX1_note_28 rfl (lv_at hl 1 rfl) ?_
  refine lv_bipush (v := 99) hx hb dX1_note_29 (by decide) ?_
  have hP9 := hP.sub (ws' := [oO no 1 [.ref (g 0), .ref (g 1), .ref (g 2), .ref (g 3), .int (cnt + 1)], oO (g 0) 2 [.ref (h 0), .int (nI k)], oO (g 1) 2 [.ref (h 1), .int (nI k)], oO (g 2) 2 [.ref (h 2), .int (nI k)], oO (g 3) 2 [.ref (h 3), .int (nI k)], aI D (h 0) 100 (f 0), aI D (h 1) 100 (f 1), aI D (h 2) 100 (f 2), aI D (h 3) 100 (f 3)]) [0, 1, 2, 3, 4, 5, 6, 7, 8] rfl
  have hD9 := (hD.sub (ws' := [oO no 1 [.ref (g 0), .ref (g 1), .ref (g 2), .ref (g 3), .int (cnt + 1)], oO (g 0) 2 [.ref (h 0), .int (nI k)], oO (g 1) 2 [.ref (h 1), .int (nI k)], oO (g 2) 2 [.ref (h 2), .int (nI k)], oO (g 3) 2 [.ref (h 3), .int (nI k)], aI D (h 0) 100 (f 0), aI D (h 1) 100 (f 1), aI D (h 2) 100 (f 2), aI D (h 3) 100 (f 3)]) [0, 1, 2, 3, 4, 5, 6, 7, 8] (by decide) rfl).weaken (B := fun _ => True) (fun _ _ _ _ => trivial)
  refine kv (wr := []) (rV (rest := []) (qc := (RX1, TX1, 5)) [.int 99] 1 0 0 hC (c_Notes_shorten l D (no := no) (j := 99) (cnt := cnt + 1) (k := k) (hz0 := H.size) (by omega) (by omega)) rfl (hP 0 _ rfl) (gV mM_X1_33 mI_X1_shorten mS_X1_shorten mN_X1 mC_X1_shorten) (by decide +kernel) rfl rfl ⟨Nat.le_of_ble_eq_true rfl, Nat.le_of_ble_eq_true rfl⟩ hG hP9 hD9 rfl hl.1 rfl (Nat.le_of_ble_eq_true rfl) dX1_note_31 ⟨Nat.le_of_ble_eq_true rfl, Nat.le_of_ble_eq_true rfl⟩) hP hD hS hA [0, 1, 2, 3, 4, 5, 6, 7, 8] [] rfl rfl (by decide) (by decide) (fun u31 H locs h31 hP hD hS hz hfr => ?_)
  have hP : va_P D cls [oO no 1 [.ref (g 0), .ref (g 1), .ref (g 2), .ref (g 3), .int (cnt + 1)], oO (g 0) 2 [.ref (h 0), .int (nI (min 99 k))], oO (g 1) 2 [.ref (h 1), .int (nI (min 99 k))], oO (g 2) 2 [.ref (h 2), .int (nI (min 99 k))], oO (g 3) 2 [.ref (h 3), .int (nI (min 99 k))], aI D (h 0) 100 (f 0), aI D (h 1) 100 (f 1), aI D (h 2) 100 (f 2), aI D (h 3) 100 (f 3)] H := hP
  have hD : va_D A [oO no 1 [.ref (g 0), .ref (g 1), .ref (g 2), .ref (g 3), .int (cnt + 1)], oO (g 0) 2 [.ref (h 0), .int (nI (min 99 k))], oO (g 1) 2 [.ref (h 1), .int (nI (min 99 k))], oO (g 2) 2 [.ref (h 2), .int (nI (min 99 k))], oO (g 3) 2 [.ref (h 3), .int (nI (min 99 k))], aI D (h 0) 100 (f 0), aI D (h 1) 100 (f 1), aI D (h 2) 100 (f 2), aI D (h 3) 100 (f 3)] := hD
  refine lv_aload_n hx hb dX1_note_34 rfl (lv_at hl 1 rfl) ?_
  refine va_get (D := D) (ci := 1) (v := .ref (g 0)) (C := RX1) (T := TX1) (N := 5) hx hb hts inlX1 hown hG.K hP 0 rfl rfl 0 (by decide) (hts _ mF_X1_14) (fun _ h9 => h9) rfl dX1_note_35 ?_
  refine lv_iload hx hb dX1_note_38 (lv_at hl 0 rfl) ?_
  refine lv_iload_n hx hb dX1_note_40 rfl (lv_at hl 2 rfl) ?_
  have hP9 := hP.sub (ws' := [oO (g 0) 2 [.ref (h 0), .int (nI (min 99 k))], aI D (h 0) 100 (f 0)]) [1, 5] rfl
  have hD9 := (hD.sub (ws' := [oO (g 0) 2 [.ref (h 0), .int (nI (min 99 k))], aI D (h 0) 100 (f 0)]) [1, 5] (by decide) rfl).weaken (B := fun _ => True) (fun _ _ _ _ => trivial)
  refine kv (wr := [oO no 1 [.ref (g 0), .ref (g 1), .ref (g 2), .ref (g 3), .int (cnt + 1)], oO (g 1) 2 [.ref (h 1), .int (nI (min 99 k))], oO (g 2) 2 [.ref (h 2), .int (nI (min 99 k))], oO (g 3) 2 [.ref (h 3), .int (nI (min 99 k))], aI D (h 1) 100 (f 1), aI D (h 2) 100 (f 2), aI D (h 3) 100 (f 3)]) (rV (rest := []) (qc := (RX2, TX2, 2)) [.int (nI (cntLe (f 0) x k)), .int x] 2 0 0 hC (c_insert l D (r := g 0) (j := cntLe (f 0) x k) (x := x) (a := h 0) (sz := min 99 k) (n := 100) (f := f 0) (hz0 := H.size) (by omega) (by omega) (by omega)) rfl (hP 1 _ rfl) (gV mM_X1_45 mI_X2_insert mS_X2_insert mN_X2 mC_X2_insert) (by decide +kernel) rfl rfl ⟨Nat.le_of_ble_eq_true rfl, Nat.le_of_ble_eq_true rfl⟩ hG hP9 hD9 rfl hl.1 rfl (Nat.le_of_ble_eq_true rfl) dX1_note_41 ⟨Nat.le_of_ble_eq_true rfl, Nat.le_of_ble_eq_true rfl⟩) hP hD hS hA [1, 5] [0, 2, 3, 4, 6, 7, 8] rfl rfl (by decide) (by decide) (fun u41 H locs h41 hP hD hS hz hfr => ?_)
  have hP : va_P D cls [oO no 1 [.ref (g 0), .ref (g 1), .ref (g 2), .ref (g 3), .int (cnt + 1)], oO (g 1) 2 [.ref (h 1), .int (nI (min 99 k))], oO (g 2) 2 [.ref (h 2), .int (nI (min 99 k))], oO (g 3) 2 [.ref (h 3), .int (nI (min 99 k))], aI D (h 1) 100 (f 1), aI D (h 2) 100 (f 2), aI D (h 3) 100 (f 3), oO (g 0) 2 [.ref (h 0), .int (nI ((min 99 k) + 1))], aI D (h 0) 100 (insF (f 0) (cntLe (f 0) x k) (min 99 k) x)] H := hP
  have hD : va_D A [oO no 1 [.ref (g 0), .ref (g 1), .ref (g 2), .ref (g 3), .int (cnt + 1)], oO (g 1) 2 [.ref (h 1), .int (nI (min 99 k))], oO (g 2) 2 [.ref (h 2), .int (nI (min 99 k))], oO (g 3) 2 [.ref (h 3), .int (nI (min 99 k))], aI D (h 1) 100 (f 1), aI D (h 2) 100 (f 2), aI D (h 3) 100 (f 3), oO (g 0) 2 [.ref (h 0), .int (nI ((min 99 k) + 1))], aI D (h 0) 100 (insF (f 0) (cntLe (f 0) x k) (min 99 k) x)] := hD
  refine lv_aload_n hx hb dX1_note_44 rfl (lv_at hl 1 rfl) ?_
  refine va_get (D := D) (ci := 1) (v := .ref (g 1)) (C := RX1) (T := TX1) (N := 5) hx hb hts inlX1 hown hG.K hP 0 rfl rfl 1 (by decide) (hts _ mF_X1_20) (fun _ h9 => h9) rfl dX1_note_45 ?_
  refine lv_iload hx hb dX1_note_48 (lv_at hl 0 rfl) ?_
  refine lv_iload_n hx hb dX1_note_50 rfl (lv_at hl 3 rfl) ?_
  have hP9 := hP.sub (ws' := [oO (g 1) 2 [.ref (h 1), .int (nI (min 99 k))], aI D (h 1) 100 (f 1)]) [1, 4] rfl
  have hD9 := (hD.sub (ws' := [oO (g 1) 2 [.ref (h 1), .int (nI (min 99 k))], aI D (h 1) 100 (f 1)]) [1, 4] (by decide) rfl).weaken (B := fun _ => True) (fun _ _ _ _ => trivial)
  refine kv (wr := [oO no 1 [.ref (g 0), .ref (g 1), .ref (g 2), .ref (g 3), .int (cnt + 1)], oO (g 2) 2 [.ref (h 2), .int (nI (min 99 k))], oO (g 3) 2 [.ref (h 3), .int (nI (min 99 k))], aI D (h 2) 100 (f 2), aI D (h 3) 100 (f 3), oO (g 0) 2 [.ref (h 0), .int (nI ((min 99 k) + 1))], aI D (h 0) 100 (insF (f 0) (cntLe (f 0) x k) (min 99 k) x)]) (rV (rest := []) (qc := (RX2, TX2, 2)) [.int (nI (cntLe (f 0) x k)), .int y] 2 0 0 hC (c_insert l D (r := g 1) (j := cntLe (f 0) x k) (x := y) (a := h 1) (sz := min 99 k) (n := 100) (f := f 1) (hz0 := H.size) (by omega) (by omega) (by omega)) rfl (hP 1 _ rfl) (gV mM_X1_45 mI_X2_insert mS_X2_insert mN_X2 mC_X2_insert) (by decide +kernel) rfl rfl ⟨Nat.le_of_ble_eq_true rfl, Nat.le_of_ble_eq_true rfl⟩ hG hP9 hD9 rfl hl.1 rfl (Nat.le_of_ble_eq_true rfl) dX1_note_51 ⟨Nat.le_of_ble_eq_true rfl, Nat.le_of_ble_eq_true rfl⟩) hP hD hS hA [1, 4] [0, 2, 3, 5, 6, 7, 8] rfl rfl (by decide) (by decide) (fun u51 H locs h51 hP hD hS hz hfr => ?_)
  have hP : va_P D cls [oO no 1 [.ref (g 0), .ref (g 1), .ref (g 2), .ref (g 3), .int (cnt + 1)], oO (g 2) 2 [.ref (h 2), .int (nI (min 99 k))], oO (g 3) 2 [.ref (h 3), .int (nI (min 99 k))], aI D (h 2) 100 (f 2), aI D (h 3) 100 (f 3), oO (g 0) 2 [.ref (h 0), .int (nI ((min 99 k) + 1))], aI D (h 0) 100 (insF (f 0) (cntLe (f 0) x k) (min 99 k) x), oO (g 1) 2 [.ref (h 1), .int (nI ((min 99 k) + 1))], aI D (h 1) 100 (insF (f 1) (cntLe (f 0) x k) (min 99 k) y)] H := hP
  have hD : va_D A [oO no 1 [.ref (g 0), .ref (g 1), .ref (g 2), .ref (g 3), .int (cnt + 1)], oO (g 2) 2 [.ref (h 2), .int (nI (min 99 k))], oO (g 3) 2 [.ref (h 3), .int (nI (min 99 k))], aI D (h 2) 100 (f 2), aI D (h 3) 100 (f 3), oO (g 0) 2 [.ref (h 0), .int (nI ((min 99 k) + 1))], aI D (h 0) 100 (insF (f 0) (cntLe (f 0) x k) (min 99 k) x), oO (g 1) 2 [.ref (h 1), .int (nI ((min 99 k) + 1))], aI D (h 1) 100 (insF (f 1) (cntLe (f 0) x k) (min 99 k) y)] := hD
  refine lv_aload_n hx hb dX1_note_54 rfl (lv_at hl 1 rfl) ?_
  refine va_get (D := D) (ci := 1) (v := .ref (g 2)) (C := RX1) (T := TX1) (N := 5) hx hb hts inlX1 hown hG.K hP 0 rfl rfl 2 (by decide) (hts _ mF_X1_23) (fun _ h9 => h9) rfl dX1_note_55 ?_
  refine lv_iload hx hb dX1_note_58 (lv_at hl 0 rfl) ?_
  refine lv_iload_n hx hb dX1_note_60 rfl (lv_at hl 4 rfl) ?_
  have hP9 := hP.sub (ws' := [oO (g 2) 2 [.ref (h 2), .int (nI (min 99 k))], aI D (h 2) 100 (f 2)]) [1, 3] rfl
  have hD9 := (hD.sub (ws' := [oO (g 2) 2 [.ref (h 2), .int (nI (min 99 k))], aI D (h 2) 100 (f 2)]) [1, 3] (by decide) rfl).weaken (B := fun _ => True) (fun _ _ _ _ => trivial)
  refine kv (wr := [oO no 1 [.ref (g 0), .ref (g 1), .ref (g 2), .ref (g 3), .int (cnt + 1)], oO (g 3) 2 [.ref (h 3), .int (nI (min 99 k))], aI D (h 3) 100 (f 3), oO (g 0) 2 [.ref (h 0), .int (nI ((min 99 k) + 1))], aI D (h 0) 100 (insF (f 0) (cntLe (f 0) x k) (min 99 k) x), oO (g 1) 2 [.ref (h 1), .int (nI ((min 99 k) + 1))], aI D (h 1) 100 (insF (f 1) (cntLe (f 0) x k) (min 99 k) y)]) (rV (rest := []) (qc := (RX2, TX2, 2)) [.int (nI (cntLe (f 0) x k)), .int z] 2 0 0 hC (c_insert l D (r := g 2) (j := cntLe (f 0) x k) (x := z) (a := h 2) (sz := min 99 k) (n := 100) (f := f 2) (hz0 := H.size) (by omega) (by omega) (by omega)) rfl (hP 1 _ rfl) (gV mM_X1_45 mI_X2_insert mS_X2_insert mN_X2 mC_X2_insert) (by decide +kernel) rfl rfl ⟨Nat.le_of_ble_eq_true rfl, Nat.le_of_ble_eq_true rfl⟩ hG hP9 hD9 rfl hl.1 rfl (Nat.le_of_ble_eq_true rfl) dX1_note_61 ⟨Nat.le_of_ble_eq_true rfl, Nat.le_of_ble_eq_true rfl⟩) hP hD hS hA [1, 3] [0, 2, 4, 5, 6, 7, 8] rfl rfl (by decide) (by decide) (fun u61 H locs h61 hP hD hS hz hfr => ?_)
  have hP : va_P D cls [oO no 1 [.ref (g 0), .ref (g 1), .ref (g 2), .ref (g 3), .int (cnt + 1)], oO (g 3) 2 [.ref (h 3), .int (nI (min 99 k))], aI D (h 3) 100 (f 3), oO (g 0) 2 [.ref (h 0), .int (nI ((min 99 k) + 1))], aI D (h 0) 100 (insF (f 0) (cntLe (f 0) x k) (min 99 k) x), oO (g 1) 2 [.ref (h 1), .int (nI ((min 99 k) + 1))], aI D (h 1) 100 (insF (f 1) (cntLe (f 0) x k) (min 99 k) y), oO (g 2) 2 [.ref (h 2), .int (nI ((min 99 k) + 1))], aI D (h 2) 100 (insF (f 2) (cntLe (f 0) x k) (min 99 k) z)] H := hP
  have hD : va_D A [oO no 1 [.ref (g 0), .ref (g 1), .ref (g 2), .ref (g 3), .int (cnt + 1)], oO (g 3) 2 [.ref (h 3), .int (nI (min 99 k))], aI D (h 3) 100 (f 3), oO (g 0) 2 [.ref (h 0), .int (nI ((min 99 k) + 1))], aI D (h 0) 100 (insF (f 0) (cntLe (f 0) x k) (min 99 k) x), oO (g 1) 2 [.ref (h 1), .int (nI ((min 99 k) + 1))], aI D (h 1) 100 (insF (f 1) (cntLe (f 0) x k) (min 99 k) y), oO (g 2) 2 [.ref (h 2), .int (nI ((min 99 k) + 1))], aI D (h 2) 100 (insF (f 2) (cntLe (f 0) x k) (min 99 k) z)] := hD
  refine lv_aload_n hx hb dX1_note_64 rfl (lv_at hl 1 rfl) ?_
  refine va_get (D := D) (ci := 1) (v := .ref (g 3)) (C := RX1) (T := TX1) (N := 5) hx hb hts inlX1 hown hG.K hP 0 rfl rfl 3 (by decide) (hts _ mF_X1_26) (fun _ h9 => h9) rfl dX1_note_65 ?_
  refine lv_iload hx hb dX1_note_68 (lv_at hl 0 rfl) ?_
  refine lv_iload hx hb dX1_note_70 (lv_at hl 5 rfl) ?_
  have hP9 := hP.sub (ws' := [oO (g 3) 2 [.ref (h 3), .int (nI (min 99 k))], aI D (h 3) 100 (f 3)]) [1, 2] rfl
  have hD9 := (hD.sub (ws' := [oO (g 3) 2 [.ref (h 3), .int (nI (min 99 k))], aI D (h 3) 100 (f 3)]) [1, 2] (by decide) rfl).weaken (B := fun _ => True) (fun _ _ _ _ => trivial)
  refine kv (wr := [oO no 1 [.ref (g 0), .ref (g 1), .ref (g 2), .ref (g 3), .int (cnt + 1)], oO (g 0) 2 [.ref (h 0), .int (nI ((min 99 k) + 1))], aI D (h 0) 100 (insF (f 0) (cntLe (f 0) x k) (min 99 k) x), oO (g 1) 2 [.ref (h 1), .int (nI ((min 99 k) + 1))], aI D (h 1) 100 (insF (f 1) (cntLe (f 0) x k) (min 99 k) y), oO (g 2) 2 [.ref (h 2), .int (nI ((min 99 k) + 1))], aI D (h 2) 100 (insF (f 2) (cntLe (f 0) x k) (min 99 k) z)]) (rV (rest := []) (qc := (RX2, TX2, 2)) [.int (nI (cntLe (f 0) x k)), .int u] 2 0 0 hC (c_insert l D (r := g 3) (j := cntLe (f 0) x k) (x := u) (a := h 3) (sz := min 99 k) (n := 100) (f := f 3) (hz0 := H.size) (by omega) (by omega) (by omega)) rfl (hP 1 _ rfl) (gV mM_X1_45 mI_X2_insert mS_X2_insert mN_X2 mC_X2_insert) (by decide +kernel) rfl rfl ⟨Nat.le_of_ble_eq_true rfl, Nat.le_of_ble_eq_true rfl⟩ hG hP9 hD9 rfl hl.1 rfl (Nat.le_of_ble_eq_true rfl) dX1_note_72 ⟨Nat.le_of_ble_eq_true rfl, Nat.le_of_ble_eq_true rfl⟩) hP hD hS hA [1, 2] [0, 3, 4, 5, 6, 7, 8] rfl rfl (by decide) (by decide) (fun u72 H locs h72 hP hD hS hz hfr => ?_)
  have hP : va_P D cls [oO no 1 [.ref (g 0), .ref (g 1), .ref (g 2), .ref (g 3), .int (cnt + 1)], oO (g 0) 2 [.ref (h 0), .int (nI ((min 99 k) + 1))], aI D (h 0) 100 (insF (f 0) (cntLe (f 0) x k) (min 99 k) x), oO (g 1) 2 [.ref (h 1), .int (nI ((min 99 k) + 1))], aI D (h 1) 100 (insF (f 1) (cntLe (f 0) x k) (min 99 k) y), oO (g 2) 2 [.ref (h 2), .int (nI ((min 99 k) + 1))], aI D (h 2) 100 (insF (f 2) (cntLe (f 0) x k) (min 99 k) z), oO (g 3) 2 [.ref (h 3), .int (nI ((min 99 k) + 1))], aI D (h 3) 100 (insF (f 3) (cntLe (f 0) x k) (min 99 k) u)] H := hP
  have hD : va_D A [oO no 1 [.ref (g 0), .ref (g 1), .ref (g 2), .ref (g 3), .int (cnt + 1)], oO (g 0) 2 [.ref (h 0), .int (nI ((min 99 k) + 1))], aI D (h 0) 100 (insF (f 0) (cntLe (f 0) x k) (min 99 k) x), oO (g 1) 2 [.ref (h 1), .int (nI ((min 99 k) + 1))], aI D (h 1) 100 (insF (f 1) (cntLe (f 0) x k) (min 99 k) y), oO (g 2) 2 [.ref (h 2), .int (nI ((min 99 k) + 1))], aI D (h 2) 100 (insF (f 2) (cntLe (f 0) x k) (min 99 k) z), oO (g 3) 2 [.ref (h 3), .int (nI ((min 99 k) + 1))], aI D (h 3) 100 (insF (f 3) (cntLe (f 0) x k) (min 99 k) u)] := hD
  refine Wv () hx hb hr hlk ?_ (hP.sub [0, 1, 3, 5, 7, 2, 4, 6, 8] rfl) (hD.sub [0, 1, 3, 5, 7, 2, 4, 6, 8] (by decide) rfl) hS (Nat.le_of_ble_eq_true rfl) (by first | exact Nat.le_of_ble_eq_true rfl | exact Nat.le_of_eq (Nat.zero_add _)) dX1_note_75
  exact trivial
set_option maxHeartbeats 4000000 in
set_option maxRecDepth 100000 in
theorem c_note_fact (l : Launch) (D : va_G) {no k : Nat} {g h : Nat → Nat} {f : Nat → Nat → Int32} {cnt : Int32} {i w : Nat} (hk : k ≤ 100) (hi : i < k) (hw : w < 4) : Met l yX1_fact (ws_ yX1_fact cX1_fact 3 (some .int)) ({ frames := 2, cells := 0, slots := 0, locals := 42 } : Room) (va_Pc [.ref no, .int (nI i), .int (nI w)] (PW D [oO no 1 [.ref (g 0), .ref (g 1), .ref (g 2), .ref (g 3), .int cnt], oO (g 0) 2 [.ref (h 0), .int (nI k)], oO (g 1) 2 [.ref (h 1), .int (nI k)], oO (g 2) 2 [.ref (h 2), .int (nI k)], oO (g 3) 2 [.ref (h 3), .int (nI k)], aI D (h 0) 100 (f 0), aI D (h 1) 100 (f 1), aI D (h 2) 100 (f 2), aI D (h 3) 100 (f 3)])) (vp_Si (fun v => v = f w i)) 0 0 (fun _ => False) := by
  refine Met.ofW (cc := cX1_fact) (maxL := 3) (ret := (some .int)) (by decide) rfl ?_
  intro p e s m args below meth c s₁ B hml hv
  obtain ⟨rfl, hG, hP⟩ := hv
  have hx := B.exec
  have hb := B.bytes
  have hr := B.returns
  have hts : ∀ w ∈ wsL_law, w.before _ s = true := fun w h => atoms_spec (ws := (ws_ yX1_fact cX1_fact 3 (some .int))) B.pre w (List.mem_cons_of_mem _ h)
  have hown : s.vm.findClass RX1 = some m.cls := findClass_of_methodNamed B.named
  have hlk := B.notSynchronized
  have hC : CallFix p m c cX1_fact 3 s _ wsL_law RX1 := ⟨hx, hb, hml, hown, hts⟩
  have hl := lv_entry ([.ref no, .int (nI i), .int (nI w)]) (n := 3) (Nat.le_of_ble_eq_true rfl)
  rw [lg_entry_eq]
  generalize (lg_sl ([.ref no, .int (nI i), .int (nI w)]) ++ List.replicate (3 - (lg_sl ([.ref no, .int (nI i), .int (nI w)])).length) Slot.unset).toArray = ls at hl ⊢
  have hl : lv_has ls 3 [(0, .ref no), (1, .int (nI i)), (2, .int (nI w))] := hl
  refine lv_iload_n hx hb dX1_fact_0 rfl (lv_at hl 2 rfl) ?_
  rcases (show w = 0 ∨ w = 1 ∨ w = 2 ∨ w = 3 by omega) with rfl | rfl | rfl | rfl
  · skip
    refine tpi (y := 0) (rfl) ?_
    refine lv_tableIn (off := 27) (tgt := 28) hx hb dX1_fact_1 (by decide) (by decide) (by decide) (by decide) ?_
    refine lv_aload_n hx hb dX1_fact_28 rfl (lv_at hl 0 rfl) ?_
    refine va_get (D := D) (ci := 1) (v := .ref (g 0)) (C := RX1) (T := TX1) (N := 5) hx hb hts inlX1 hown hG.K hP 0 rfl rfl 0 (by decide) (hts _ mF_X1_14) (fun _ h9 => h9) rfl dX1_fact_29 ?_
    refine lv_iload_n hx hb dX1_fact_32 rfl (lv_at hl 1 rfl) ?_
    have hP9 := hP.sub (ws' := [oO (g 0) 2 [.ref (h 0), .int (nI k)], aI D (h 0) 100 (f 0)]) [1, 5] rfl
    refine vp_callSi (pV (rest := []) (qc := (RX2, TX2, 2)) [.int (nI i)] 1 hC (c_get l D (r := g 0) (j := i) (a := h 0) (sz := k) (n := 100) (f := f 0) (by omega) (by omega) (by omega)) rfl (hP 1 _ rfl) (gV mM_X1_49 mI_X2_get mS_X2_get mN_X2 mC_X2_get) (by decide +kernel) rfl rfl ⟨Nat.le_of_ble_eq_true rfl, Nat.le_of_ble_eq_true rfl⟩ hG hP9 rfl hl.1 rfl (Nat.le_of_ble_eq_true rfl) dX1_fact_33 ⟨Nat.le_of_ble_eq_true rfl, Nat.le_of_ble_eq_true rfl⟩) (fun r33 h33 => ?_)
    obtain rfl : r33 = ((f 0) i) := h33
    refine Ri hx hb hr hlk ?_ dX1_fact_36
    exact rfl
  · skip
    refine tpi (y := 1) (rfl) ?_
    refine lv_tableIn (off := 36) (tgt := 37) hx hb dX1_fact_1 (by decide) (by decide) (by decide) (by decide) ?_
    refine lv_aload_n hx hb dX1_fact_37 rfl (lv_at hl 0 rfl) ?_
    refine va_get (D := D) (ci := 1) (v := .ref (g 1)) (C := RX1) (T := TX1) (N := 5) hx hb hts inlX1 hown hG.K hP 0 rfl rfl 1 (by decide) (hts _ mF_X1_20) (fun _ h9 => h9) rfl dX1_fact_38 ?_
    refine lv_iload_n hx hb dX1_fact_41 rfl (lv_at hl 1 rfl) ?_
    have hP9 := hP.sub (ws' := [oO (g 1) 2 [.ref (h 1), .int (nI k)], aI D (h 1) 100 (f 1)]) [2, 6] rfl
    refine vp_callSi (pV (rest := []) (qc := (RX2, TX2, 2)) [.int (nI i)] 1 hC (c_get l D (r := g 1) (j := i) (a := h 1) (sz := k) (n := 100) (f := f 1) (by omega) (by omega) (by omega)) rfl (hP 2 _ rfl) (gV mM_X1_49 mI_X2_get mS_X2_get mN_X2 mC_X2_get) (by decide +kernel) rfl rfl ⟨Nat.le_of_ble_eq_true rfl, Nat.le_of_ble_eq_true rfl⟩ hG hP9 rfl hl.1 rfl (Nat.le_of_ble_eq_true rfl) dX1_fact_42 ⟨Nat.le_of_ble_eq_true rfl, Nat.le_of_ble_eq_true rfl⟩) (fun r42 h42 => ?_)
    obtain rfl : r42 = ((f 1) i) := h42
    refine Ri hx hb hr hlk ?_ dX1_fact_45
    exact rfl
  · skip
    refine tpi (y := 2) (rfl) ?_
    refine lv_tableIn (off := 45) (tgt := 46) hx hb dX1_fact_1 (by decide) (by decide) (by decide) (by decide) ?_
    refine lv_aload_n hx hb dX1_fact_46 rfl (lv_at hl 0 rfl) ?_
    refine va_get (D := D) (ci := 1) (v := .ref (g 2)) (C := RX1) (T := TX1) (N := 5) hx hb hts inlX1 hown hG.K hP 0 rfl rfl 2 (by decide) (hts _ mF_X1_23) (fun _ h9 => h9) rfl dX1_fact_47 ?_
    refine lv_iload_n hx hb dX1_fact_50 rfl (lv_at hl 1 rfl) ?_
    have hP9 := hP.sub (ws' := [oO (g 2) 2 [.ref (h 2), .int (nI k)], aI D (h 2) 100 (f 2)]) [3, 7] rfl
    refine vp_callSi (pV (rest := []) (qc := (RX2, TX2, 2)) [.int (nI i)] 1 hC (c_get l D (r := g 2) (j := i) (a := h 2) (sz := k) (n := 100) (f := f 2) (by omega) (by omega) (by omega)) rfl (hP 3 _ rfl) (gV mM_X1_49 mI_X2_get mS_X2_get mN_X2 mC_X2_get) (by decide +kernel) rfl rfl ⟨Nat.le_of_ble_eq_true rfl, Nat.le_of_ble_eq_true rfl⟩ hG hP9 rfl hl.1 rfl (Nat.le_of_ble_eq_true rfl) dX1_fact_51 ⟨Nat.le_of_ble_eq_true rfl, Nat.le_of_ble_eq_true rfl⟩) (fun r51 h51 => ?_)
    obtain rfl : r51 = ((f 2) i) := h51
    refine Ri hx hb hr hlk ?_ dX1_fact_54
    exact rfl
  · skip
    refine lv_tableOut (tgt := 55) hx hb dX1_fact_1 (Or.inr (by decide)) (by decide) ?_
    refine lv_aload_n hx hb dX1_fact_55 rfl (lv_at hl 0 rfl) ?_
    refine va_get (D := D) (ci := 1) (v := .ref (g 3)) (C := RX1) (T := TX1) (N := 5) hx hb hts inlX1 hown hG.K hP 0 rfl rfl 3 (by decide) (hts _ mF_X1_26) (fun _ h9 => h9) rfl dX1_fact_56 ?_
    refine lv_iload_n hx hb dX1_fact_59 rfl (lv_at hl 1 rfl) ?_
    have hP9 := hP.sub (ws' := [oO (g 3) 2 [.ref (h 3), .int (nI k)], aI D (h 3) 100 (f 3)]) [4, 8] rfl
    refine vp_callSi (pV (rest := []) (qc := (RX2, TX2, 2)) [.int (nI i)] 1 hC (c_get l D (r := g 3) (j := i) (a := h 3) (sz := k) (n := 100) (f := f 3) (by omega) (by omega) (by omega)) rfl (hP 4 _ rfl) (gV mM_X1_49 mI_X2_get mS_X2_get mN_X2 mC_X2_get) (by decide +kernel) rfl rfl ⟨Nat.le_of_ble_eq_true rfl, Nat.le_of_ble_eq_true rfl⟩ hG hP9 rfl hl.1 rfl (Nat.le_of_ble_eq_true rfl) dX1_fact_60 ⟨Nat.le_of_ble_eq_true rfl, Nat.le_of_ble_eq_true rfl⟩) (fun r60 h60 => ?_)
    obtain rfl : r60 = ((f 3) i) := h60
    refine Ri hx hb hr hlk ?_ dX1_fact_63
    exact rfl
