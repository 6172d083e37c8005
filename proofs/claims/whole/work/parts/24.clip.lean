set_option maxHeartbeats 4000000 in
set_option maxRecDepth 100000 in
theorem c_trackOrNull (l : Launch) (D : va_G) {co ta j : Nat} {len : Int32} {q t : Nat → Nat} (hj : j < 4) : Met l yX0_trackOrNull (ws_ yX0_trackOrNull cX0_trackOrNull 2 (some (.object "KeyStage$Track"))) ({ frames := 0, cells := 0, slots := 0, locals := 0 } : Room) (va_Pc [.ref co, .int (nI j)] (PW D [oO co 0 [.int len, .ref ta, .ref (q 0), .ref (q 1)], aT D ta 4 (tkF t)])) (va_Sq (fun v => v = some (t j))) 0 0 (fun _ => False) := by
  refine Met.ofW (cc := cX0_trackOrNull) (maxL := 2) (ret := (some (.object "KeyStage$Track"))) (by decide) rfl ?_
  intro p e s m args below meth c s₁ B hml hv
  obtain ⟨rfl, hG, hP⟩ := hv
  have hx := B.exec
  have hb := B.bytes
  have hr := B.returns
  have hts : ∀ w ∈ wsL_law, w.before _ s = true := fun w h => atoms_spec (ws := (ws_ yX0_trackOrNull cX0_trackOrNull 2 (some (.object "KeyStage$Track")))) B.pre w (List.mem_cons_of_mem _ h)
  have hown : s.vm.findClass RX0 = some m.cls := findClass_of_methodNamed B.named
  have hlk := B.notSynchronized
  have hC : CallFix p m c cX0_trackOrNull 2 s _ wsL_law RX0 := ⟨hx, hb, hml, hown, hts⟩
  have hl := lv_entry ([.ref co, .int (nI j)]) (n := 2) (Nat.le_of_ble_eq_true rfl)
  rw [lg_entry_eq]
  generalize (lg_sl ([.ref co, .int (nI j)]) ++ List.replicate (2 - (lg_sl ([.ref co, .int (nI j)])).length) Slot.unset).toArray = ls at hl ⊢
  have hl : lv_has ls 2 [(0, .ref co), (1, .int (nI j))] := hl
  refine lv_iload_n hx hb dX0_trackOrNull_0 rfl (lv_at hl 1 rfl) ?_
  refine lv_if_lt (tgt := 22) hx hb dX0_trackOrNull_1 (by decide) (fun h9 => absurd ((nI_ltI (a := j) (b := 0) (by omega) (by omega)).mp h9) (by omega)) (fun _ => ?_)
  refine lv_iload_n hx hb dX0_trackOrNull_4 rfl (lv_at hl 1 rfl) ?_
  refine lv_aload_n hx hb dX0_trackOrNull_5 rfl (lv_at hl 0 rfl) ?_
  refine va_get (D := D) (ci := 0) (v := .ref ta) (C := RX0) (T := TX0) (N := 4) hx hb hts inlX0 hown hG.K hP 0 rfl rfl 1 (by decide) (hts _ mF_X0_29) (fun _ h9 => h9) rfl dX0_trackOrNull_6 ?_
  refine va_alen (v := nI 4) hx hb hG.K hP 1 3 rfl rfl rfl dX0_trackOrNull_9 ?_
  refine lv_icmp_ge (tgt := 22) hx hb dX0_trackOrNull_10 (by decide) (fun h9 => absurd ((nI_leI (a := 4) (b := j) (by omega) (by omega)).mp h9) (by omega)) (fun _ => ?_)
  refine lv_aload_n hx hb dX0_trackOrNull_13 rfl (lv_at hl 0 rfl) ?_
  refine va_get (D := D) (ci := 0) (v := .ref ta) (C := RX0) (T := TX0) (N := 4) hx hb hts inlX0 hown hG.K hP 0 rfl rfl 1 (by decide) (hts _ mF_X0_29) (fun _ h9 => h9) rfl dX0_trackOrNull_14 ?_
  refine lv_iload_n hx hb dX0_trackOrNull_17 rfl (lv_at hl 1 rfl) ?_
  refine ald (n := 4) (j := j) hx hb hG hP 1 3 rfl rfl (by omega) (by omega) dX0_trackOrNull_18 ?_
  refine tpv (y := .ref (t j)) (tkF_ref (by omega)) ?_
  refine lv_goto (tgt := 23) hx hb dX0_trackOrNull_19 (by decide) ?_
  refine Rq (v := some (t j)) hx hb hr hlk ?_ dX0_trackOrNull_23
  exact rfl
set_option maxHeartbeats 4000000 in
set_option maxRecDepth 100000 in
theorem c_mixed (l : Launch) (D : va_G) {d : Int64} {x : Int32}  : Met l yX5_mixed (ws_ yX5_mixed cX5_mixed 3 (some .long)) ({ frames := 0, cells := 0, slots := 0, locals := 0 } : Room) (va_Pc [.long d, .int x] (PW D [])) (vp_Sl (fun v => v = mix d x)) 0 0 (fun _ => False) := by
  refine Met.ofW (cc := cX5_mixed) (maxL := 3) (ret := (some .long)) (by decide) rfl ?_
  intro p e s m args below meth c s₁ B hml hv
  obtain ⟨rfl, hG, hP⟩ := hv
  have hx := B.exec
  have hb := B.bytes
  have hr := B.returns
  have hts : ∀ w ∈ wsL_law, w.before _ s = true := fun w h => atoms_spec (ws := (ws_ yX5_mixed cX5_mixed 3 (some .long))) B.pre w (List.mem_cons_of_mem _ h)
  have hown : s.vm.findClass RX5 = some m.cls := findClass_of_methodNamed B.named
  have hlk := B.notSynchronized
  have hC : CallFix p m c cX5_mixed 3 s _ wsL_law RX5 := ⟨hx, hb, hml, hown, hts⟩
  have hl := lv_entry ([.long d, .int x]) (n := 3) (Nat.le_of_ble_eq_true rfl)
  rw [lg_entry_eq]
  generalize (lg_sl ([.long d, .int x]) ++ List.replicate (3 - (lg_sl ([.long d, .int x])).length) Slot.unset).toArray = ls at hl ⊢
  have hl : lv_has ls 3 [(0, .long d), (2, .int x)] := hl
  refine lv_lload_n hx hb dX5_mixed_0 rfl (lv_at hl 0 rfl) ?_
  refine lv_ldc2 hx hb hown (hts _ mH_X5_327) dX5_mixed_1 ?_
  refine lv_lmul hx hb dX5_mixed_4 ?_
  refine lv_iload_n hx hb dX5_mixed_5 rfl (lv_at hl 1 rfl) ?_
  refine lv_i2l hx hb dX5_mixed_6 rfl ?_
  refine lv_ladd hx hb dX5_mixed_7 ?_
  refine Rl hx hb hr hlk ?_ dX5_mixed_8
  exact rfl
set_option maxHeartbeats 4000000 in
set_option maxRecDepth 100000 in
theorem c_keyCount (l : Launch) (D : va_G) {co ta nc : Nat} {len : Int32} {q b t r a sz : Nat → Nat} {ct cn : Nat → Int32} {f : Nat → Nat → Int32}  : Met l yX0_keyCount (ws_ yX0_keyCount cX0_keyCount 6 (some .int)) ({ frames := 2, cells := 0, slots := 0, locals := 40 } : Room) (va_Pc [.ref co] (PW D [oO co 0 [.int len, .ref ta, .ref (q 0), .ref (q 1)], aT D ta 4 (tkF t), oO (q 0) 2 [.ref (b 0), .int (nI nc)], oO (q 1) 2 [.ref (b 1), .int (nI nc)], aI D (b 0) 8 ct, aI D (b 1) 8 cn, oO (t 0) 4 [.ref (r 0), .ref (r 1), .ref (r 2)], oO (r 0) 2 [.ref (a 0), .int (nI (sz 0))], oO (r 1) 2 [.ref (a 1), .int (nI (sz 0))], oO (r 2) 2 [.ref (a 2), .int (nI (sz 0))], aI D (a 0) 16 (f 0), aI D (a 1) 16 (f 1), aI D (a 2) 16 (f 2), oO (t 1) 4 [.ref (r 3), .ref (r 4), .ref (r 5)], oO (r 3) 2 [.ref (a 3), .int (nI (sz 1))], oO (r 4) 2 [.ref (a 4), .int (nI (sz 1))], oO (r 5) 2 [.ref (a 5), .int (nI (sz 1))], aI D (a 3) 16 (f 3), aI D (a 4) 16 (f 4), aI D (a 5) 16 (f 5), oO (t 2) 4 [.ref (r 6), .ref (r 7), .ref (r 8)], oO (r 6) 2 [.ref (a 6), .int (nI (sz 2))], oO (r 7) 2 [.ref (a 7), .int (nI (sz 2))], oO (r 8) 2 [.ref (a 8), .int (nI (sz 2))], aI D (a 6) 16 (f 6), aI D (a 7) 16 (f 7), aI D (a 8) 16 (f 8), oO (t 3) 4 [.ref (r 9), .ref (r 10), .ref (r 11)], oO (r 9) 2 [.ref (a 9), .int (nI (sz 3))], oO (r 10) 2 [.ref (a 10), .int (nI (sz 3))], oO (r 11) 2 [.ref (a 11), .int (nI (sz 3))], aI D (a 9) 16 (f 9), aI D (a 10) 16 (f 10), aI D (a 11) 16 (f 11)])) (vp_Si (fun v => v = nI (sz 0 + sz 1 + sz 2 + sz 3))) 0 0 (fun _ => False) := by
  refine Met.ofW (cc := cX0_keyCount) (maxL := 6) (ret := (some .int)) (by decide) rfl ?_
  intro p e s m args below meth c s₁ B hml hv
  obtain ⟨rfl, hG, hP⟩ := hv
  have hx := B.exec
  have hb := B.bytes
  have hr := B.returns
  have hts : ∀ w ∈ wsL_law, w.before _ s = true := fun w h => atoms_spec (ws := (ws_ yX0_keyCount cX0_keyCount 6 (some .int))) B.pre w (List.mem_cons_of_mem _ h)
  have hown : s.vm.findClass RX0 = some m.cls := findClass_of_methodNamed B.named
  have hlk := B.notSynchronized
  have hC : CallFix p m c cX0_keyCount 6 s _ wsL_law RX0 := ⟨hx, hb, hml, hown, hts⟩
  have hl := lv_entry ([.ref co]) (n := 6) (Nat.le_of_ble_eq_true rfl)
  rw [lg_entry_eq]
  generalize (lg_sl ([.ref co]) ++ List.replicate (6 - (lg_sl ([.ref co])).length) Slot.unset).toArray = ls at hl ⊢
  have hl : lv_has ls 6 [(0, .ref co)] := hl
  refine lv_iconst (v := 0) hx hb dX0_keyCount_0 (by decide) ?_
  refine lv_istore_n (lv' := [(1, .int 0), (0, .ref co)]) hx hb dX0_keyCount_1 rfl hl (by decide) rfl (fun ls hl => ?_)
  refine lv_aload_n hx hb dX0_keyCount_2 rfl (lv_at hl 1 rfl) ?_
  refine va_get (D := D) (ci := 0) (v := .ref ta) (C := RX0) (T := TX0) (N := 4) hx hb hts inlX0 hown hG.K hP 0 rfl rfl 1 (by decide) (hts _ mF_X0_29) (fun _ h9 => h9) rfl dX0_keyCount_3 ?_
  refine lv_astore_n (lv' := [(2, .ref ta), (1, .int 0), (0, .ref co)]) hx hb dX0_keyCount_6 rfl hl (by decide) rfl (fun ls hl => ?_)
  refine lv_aload_n hx hb dX0_keyCount_7 rfl (lv_at hl 0 rfl) ?_
  refine va_alen (v := nI 4) hx hb hG.K hP 1 3 rfl rfl rfl dX0_keyCount_8 ?_
  refine lv_istore_n (lv' := [(3, .int (nI 4)), (2, .ref ta), (1, .int 0), (0, .ref co)]) hx hb dX0_keyCount_9 rfl hl (by decide) rfl (fun ls hl => ?_)
  refine lv_iconst (v := 0) hx hb dX0_keyCount_10 (by decide) ?_
  refine lv_istore (lv' := [(4, .int 0), (3, .int (nI 4)), (2, .ref ta), (1, .int 0), (0, .ref co)]) hx hb dX0_keyCount_11 hl (by decide) rfl (fun ls hl => ?_)
  refine lv_iload hx hb dX0_keyCount_13 (lv_at hl 0 rfl) ?_
  refine lv_iload_n hx hb dX0_keyCount_15 rfl (lv_at hl 1 rfl) ?_
  refine lv_icmp_ge (tgt := 39) hx hb dX0_keyCount_16 (by decide) (fun h9 => absurd h9 (by decide)) (fun _ => ?_)
  refine lv_aload_n hx hb dX0_keyCount_19 rfl (lv_at hl 2 rfl) ?_
  refine lv_iload hx hb dX0_keyCount_20 (lv_at hl 0 rfl) ?_
  refine ald (n := 4) (j := 0) hx hb hG hP 1 3 rfl rfl (by omega) (by omega) dX0_keyCount_22 ?_
  refine tpv (y := .ref (t 0)) (tkF_ref (by omega)) ?_
  refine lv_astore (lv' := [(5, .ref (t 0)), (4, .int 0), (3, .int (nI 4)), (2, .ref ta), (1, .int 0), (0, .ref co)]) hx hb dX0_keyCount_23 hl (by decide) rfl (fun ls hl => ?_)
  refine lv_iload_n hx hb dX0_keyCount_25 rfl (lv_at hl 4 rfl) ?_
  refine lv_aload hx hb dX0_keyCount_26 (lv_at hl 0 rfl) ?_
  have hP9 := hP.sub (ws' := [oO (t 0) 4 [.ref (r 0), .ref (r 1), .ref (r 2)], oO (r 0) 2 [.ref (a 0), .int (nI (sz 0))], oO (r 1) 2 [.ref (a 1), .int (nI (sz 0))], oO (r 2) 2 [.ref (a 2), .int (nI (sz 0))], aI D (a 0) 16 (f 0), aI D (a 1) 16 (f 1), aI D (a 2) 16 (f 2)]) [6, 7, 8, 9, 10, 11, 12] rfl
  refine vp_callSi (pV (rest := [.int 0]) (qc := (RX4, TX4, 3)) [] 0 hC (c_count l D (t := t 0) (r1 := r 0) (r2 := r 1) (r3 := r 2) (a1 := a 0) (sz := sz 0) (a2 := a 1) (a3 := a 2) (ft := f 0) (fv := f 1) (fe := f 2) ) rfl (hP 6 _ rfl) (gV mM_X0_34 mI_X4_count mS_X4_count mN_X4 mC_X4_count) (by decide +kernel) rfl rfl ⟨Nat.le_of_ble_eq_true rfl, Nat.le_of_ble_eq_true rfl⟩ hG hP9 rfl hl.1 rfl (Nat.le_of_ble_eq_true rfl) dX0_keyCount_28 ⟨Nat.le_of_ble_eq_true rfl, Nat.le_of_ble_eq_true rfl⟩) (fun r28 h28 => ?_)
  obtain rfl : r28 = (nI (sz 0)) := h28
  refine lv_iadd hx hb dX0_keyCount_31 ?_
  refine tpi (y := nI (0 + (sz 0))) (nI_add 0 (sz 0)) ?_
  refine lv_istore_n (lv' := [(1, .int (nI (0 + (sz 0)))), (5, .ref (t 0)), (4, .int 0), (3, .int (nI 4)), (2, .ref ta), (0, .ref co)]) hx hb dX0_keyCount_32 rfl hl (by decide) rfl (fun ls hl => ?_)
  refine lv_iinc (v := 1) (lv' := [(4, .int 1), (1, .int (nI (0 + (sz 0)))), (5, .ref (t 0)), (3, .int (nI 4)), (2, .ref ta), (0, .ref co)]) hx hb dX0_keyCount_33 hl (k := 2) rfl (by decide) (by decide) rfl (fun ls hl => ?_)
  refine lv_goto (tgt := 13) hx hb dX0_keyCount_36 (by decide) ?_
  refine lv_iload hx hb dX0_keyCount_13 (lv_at hl 0 rfl) ?_
  refine lv_iload_n hx hb dX0_keyCount_15 rfl (lv_at hl 3 rfl) ?_
  refine lv_icmp_ge (tgt := 39) hx hb dX0_keyCount_16 (by decide) (fun h9 => absurd h9 (by decide)) (fun _ => ?_)
  refine lv_aload_n hx hb dX0_keyCount_19 rfl (lv_at hl 4 rfl) ?_
  refine lv_iload hx hb dX0_keyCount_20 (lv_at hl 0 rfl) ?_
  refine ald (n := 4) (j := 1) hx hb hG hP 1 3 rfl rfl (by omega) (by omega) dX0_keyCount_22 ?_
  refine tpv (y := .ref (t 1)) (tkF_ref (by omega)) ?_
  refine lv_astore (lv' := [(5, .ref (t 1)), (4, .int 1), (1, .int (nI (0 + (sz 0)))), (3, .int (nI 4)), (2, .ref ta), (0, .ref co)]) hx hb dX0_keyCount_23 hl (by decide) rfl (fun ls hl => ?_)
  refine lv_iload_n hx hb dX0_keyCount_25 rfl (lv_at hl 2 rfl) ?_
  refine lv_aload hx hb dX0_keyCount_26 (lv_at hl 0 rfl) ?_
  have hP9 := hP.sub (ws' := [oO (t 1) 4 [.ref (r 3), .ref (r 4), .ref (r 5)], oO (r 3) 2 [.ref (a 3), .int (nI (sz 1))], oO (r 4) 2 [.ref (a 4), .int (nI (sz 1))], oO (r 5) 2 [.ref (a 5), .int (nI (sz 1))], aI D (a 3) 16 (f 3), aI D (a 4) 16 (f 4), aI D (a 5) 16 (f 5)]) [13, 14, 15, 16, 17, 18, 19] rfl
  refine vp_callSi (pV (rest := [.int (nI (0 + (sz 0)))]) (qc := (RX4, TX4, 3)) [] 0 hC (c_count l D (t := t 1) (r1 := r 3) (r2 := r 4) (r3 := r 5) (a1 := a 3) (sz := sz 1) (a2 := a 4) (a3 := a 5) (ft := f 3) (fv := f 4) (fe := f 5) ) rfl (hP 13 _ rfl) (gV mM_X0_34 mI_X4_count mS_X4_count mN_X4 mC_X4_count) (by decide +kernel) rfl rfl ⟨Nat.le_of_ble_eq_true rfl, Nat.le_of_ble_eq_true rfl⟩ hG hP9 rfl hl.1 rfl (Nat.le_of_ble_eq_true rfl) dX0_keyCount_28 ⟨Nat.le_of_ble_eq_true rfl, Nat.le_of_ble_eq_true rfl⟩) (fun r28 h28 => ?_)
  obtain rfl : r28 = (nI (sz 1)) := h28
  refine lv_iadd hx hb dX0_keyCount_31 ?_
  refine tpi (y := nI ((0 + (sz 0)) + (sz 1))) (nI_add (0 + (sz 0)) (sz 1)) ?_
  refine lv_istore_n (lv' := [(1, .int (nI ((0 + (sz 0)) + (sz 1)))), (5, .ref (t 1)), (4, .int 1), (3, .int (nI 4)), (2, .ref ta), (0, .ref co)]) hx hb dX0_keyCount_32 rfl hl (by decide) rfl (fun ls hl => ?_)
  refine lv_iinc (v := 2) (lv' := [(4, .int 2), (1, .int (nI ((0 + (sz 0)) + (sz 1)))), (5, .ref (t 1)), (3, .int (nI 4)), (2, .ref ta), (0, .ref co)]) hx hb dX0_keyCount_33 hl (k := 2) rfl (by decide) (by decide) rfl (fun ls hl => ?_)
  refine lv_goto (tgt := 13) hx hb dX0_keyCount_36 (by decide) ?_
  refine lv_iload hx hb dX0_keyCount_13 (lv_at hl 0 rfl) ?_
  refine lv_iload_n hx hb dX0_keyCount_15 rfl (lv_at hl 3 rfl) ?_
  refine lv_icmp_ge (tgt := 39) hx hb dX0_keyCount_16 (by decide) (fun h9 => absurd h9 (by decide)) (fun _ => ?_)
  refine lv_aload_n hx hb dX0_keyCount_19 rfl (lv_at hl 4 rfl) ?_
  refine lv_iload hx hb dX0_keyCount_20 (lv_at hl 0 rfl) ?_
  refine ald (n := 4) (j := 2) hx hb hG hP 1 3 rfl rfl (by omega) (by omega) dX0_keyCount_22 ?_
  refine tpv (y := .ref (t 2)) (tkF_ref (by omega)) ?_
  refine lv_astore (lv' := [(5, .ref (t 2)), (4, .int 2), (1, .int (nI ((0 + (sz 0)) + (sz 1)))), (3, .int (nI 4)), (2, .ref ta), (0, .ref co)]) hx hb dX0_keyCount_23 hl (by decide) rfl (fun ls hl => ?_)
  refine lv_iload_n hx hb dX0_keyCount_25 rfl (lv_at hl 2 rfl) ?_
  refine lv_aload hx hb dX0_keyCount_26 (lv_at hl 0 rfl) ?_
  have hP9 := hP.sub (ws' := [oO (t 2) 4 [.ref (r 6), .ref (r 7), .ref (r 8)], oO (r 6) 2 [.ref (a 6), .int (nI (sz 2))], oO (r 7) 2 [.ref (a 7), .int (nI (sz 2))], oO (r 8) 2 [.ref (a 8), .int (nI (sz 2))], aI D (a 6) 16 (f 6), aI D (a 7) 16 (f 7), aI D (a 8) 16 (f 8)]) [20, 21, 22, 23, 24, 25, 26] rfl
  refine vp_callSi (pV (rest := [.int (nI ((0 + (sz 0)) + (sz 1)))]) (qc := (RX4, TX4, 3)) [] 0 hC (c_count l D (t := t 2) (r1 := r 6) (r2 := r 7) (r3 := r 8) (a1 := a 6) (sz := sz 2) (a2 := a 7) (a3 := a 8) (ft := f 6) (fv := f 7) (fe := f 8) ) rfl (hP 20 _ rfl) (gV mM_X0_34 mI_X4_count mS_X4_count mN_X4 mC_X4_count) (by decide +kernel) rfl rfl ⟨Nat.le_of_ble_eq_true rfl, Nat.le_of_ble_eq_true rfl⟩ hG hP9 rfl hl.1 rfl (Nat.le_of_ble_eq_true rfl) dX0_keyCount_28 ⟨Nat.le_of_ble_eq_true rfl, Nat.le_of_ble_eq_true rfl⟩) (fun r28 h28 => ?_)
  obtain rfl : r28 = (nI (sz 2)) := h28
  refine lv_iadd hx hb dX0_keyCount_31 ?_
  refine tpi (y := nI (((0 + (sz 0)) + (sz 1)) + (sz 2))) (nI_add ((0 + (sz 0)) + (sz 1)) (sz 2)) ?_
  refine lv_istore_n (lv' := [(1, .int (nI (((0 + (sz 0)) + (sz 1)) + (sz 2)))), (5, .ref (t 2)), (4, .int 2), (3, .int (nI 4)), (2, .ref ta), (0, .ref co)]) hx hb dX0_keyCount_32 rfl hl (by decide) rfl (fun ls hl => ?_)
  refine lv_iinc (v := 3) (lv' := [(4, .int 3), (1, .int (nI (((0 + (sz 0)) + (sz 1)) + (sz 2)))), (5, .ref (t 2)), (3, .int (nI 4)), (2, .ref ta), (0, .ref co)]) hx hb dX0_keyCount_33 hl (k := 2) rfl (by decide) (by decide) rfl (fun ls hl => ?_)
  refine lv_goto (tgt := 13) hx hb dX0_keyCount_36 (by decide) ?_
  refine lv_iload hx hb dX0_keyCount_13 (lv_at hl 0 rfl) ?_
  refine lv_iload_n hx hb dX0_keyCount_15 rfl (lv_at hl 3 rfl) ?_
  refine lv_icmp_ge (tgt := 39) hx hb dX0_keyCount_16 (by decide) (fun h9 => absurd h9 (by decide)) (fun _ => ?_)
  refine lv_aload_n hx hb dX0_keyCount_19 rfl (lv_at hl 4 rfl) ?_
  refine lv_iload hx hb dX0_keyCount_20 (lv_at hl 0 rfl) ?_
  refine ald (n := 4) (j := 3) hx hb hG hP 1 3 rfl rfl (by omega) (by omega) dX0_keyCount_22 ?_
  refine tpv (y := .ref (t 3)) (tkF_ref (by omega)) ?_
  refine lv_astore (lv' := [(5, .ref (t 3)), (4, .int 3), (1, .int (nI (((0 + (sz 0)) + (sz 1)) + (sz 2)))), (3, .int (nI 4)), (2, .ref ta), (0, .ref co)]) hx hb dX0_keyCount_23 hl (by decide) rfl (fun ls hl => ?_)
  refine lv_iload_n hx hb dX0_keyCount_25 rfl (lv_at hl 2 rfl) ?_
  refine lv_aload hx hb dX0_keyCount_26 (lv_at hl 0 rfl) ?_
  have hP9 := hP.sub (ws' := [oO (t 3) 4 [.ref (r 9), .ref (r 10), .ref (r 11)], oO (r 9) 2 [.ref (a 9), .int (nI (sz 3))], oO (r 10) 2 [.ref (a 10), .int (nI (sz 3))], oO (r 11) 2 [.ref (a 11), .int (nI (sz 3))], aI D (a 9) 16 (f 9), aI D (a 10) 16 (f 10), aI D (a 11) 16 (f 11)]) [27, 28, 29, 30, 31, 32, 33] rfl
  refine vp_callSi (pV (rest := [.int (nI (((0 + (sz 0)) + (sz 1)) + (sz 2)))]) (qc := (RX4, TX4, 3)) [] 0 hC (c_count l D (t := t 3) (r1 := r 9) (r2 := r 10) (r3 := r 11) (a1 := a 9) (sz := sz 3) (a2 := a 10) (a3 := a 11) (ft := f 9) (fv := f 10) (fe := f 11) ) rfl (hP 27 _ rfl) (gV mM_X0_34 mI_X4_count mS_X4_count mN_X4 mC_X4_count) (by decide +kernel) rfl rfl ⟨Nat.le_of_ble_eq_true rfl, Nat.le_of_ble_eq_true rfl⟩ hG hP9 rfl hl.1 rfl (Nat.le_of_ble_eq_true rfl) dX0_keyCount_28 ⟨Nat.le_of_ble_eq_true rfl, Nat.le_of_ble_eq_true rfl⟩) (fun r28 h28 => ?_)
  obtain rfl : r28 = (nI (sz 3)) := h28
  refine lv_iadd hx hb dX0_keyCount_31 ?_
  refine tpi (y := nI ((((0 + (sz 0)) + (sz 1)) + (sz 2)) + (sz 3))) (nI_add (((0 + (sz 0)) + (sz 1)) + (sz 2)) (sz 3)) ?_
  refine lv_istore_n (lv' := [(1, .int (nI ((((0 + (sz 0)) + (sz 1)) + (sz 2)) + (sz 3)))), (5, .ref (t 3)), (4, .int 3), (3, .int (nI 4)), (2, .ref ta), (0, .ref co)]) hx hb dX0_keyCount_32 rfl hl (by decide) rfl (fun ls hl => ?_)
  refine lv_iinc (v := 4) (lv' := [(4, .int 4), (1, .int (nI ((((0 + (sz 0)) + (sz 1)) + (sz 2)) + (sz 3)))), (5, .ref (t 3)), (3, .int (nI 4)), (2, .ref ta), (0, .ref co)]) hx hb dX0_keyCount_33 hl (k := 2) rfl (by decide) (by decide) rfl (fun ls hl => ?_)
  refine lv_goto (tgt := 13) hx hb dX0_keyCount_36 (by decide) ?_
  refine lv_iload hx hb dX0_keyCount_13 (lv_at hl 0 rfl) ?_
  refine lv_iload_n hx hb dX0_keyCount_15 rfl (lv_at hl 3 rfl) ?_
  refine lv_icmp_ge (tgt := 39) hx hb dX0_keyCount_16 (by decide) (fun _ => ?_) (fun h9 => (h9 (by decide)).elim)
  refine lv_iload_n hx hb dX0_keyCount_39 rfl (lv_at hl 1 rfl) ?_
  refine Ri hx hb hr hlk ?_ dX0_keyCount_40
  show nI _ = nI _
  congr 1
  omega
set_option maxHeartbeats 4000000 in
set_option maxRecDepth 100000 in
theorem c_cueCount (l : Launch) (D : va_G) {co ta nc : Nat} {len : Int32} {q b t : Nat → Nat} {ct cn : Nat → Int32}  : Met l yX0_cueCount (ws_ yX0_cueCount cX0_cueCount 1 (some .int)) ({ frames := 1, cells := 0, slots := 0, locals := 20 } : Room) (va_Pc [.ref co] (PW D [oO co 0 [.int len, .ref ta, .ref (q 0), .ref (q 1)], aT D ta 4 (tkF t), oO (q 0) 2 [.ref (b 0), .int (nI nc)], oO (q 1) 2 [.ref (b 1), .int (nI nc)], aI D (b 0) 8 ct, aI D (b 1) 8 cn])) (vp_Si (fun v => v = nI nc)) 0 0 (fun _ => False) := by
  refine Met.ofW (cc := cX0_cueCount) (maxL := 1) (ret := (some .int)) (by decide) rfl ?_
  intro p e s m args below meth c s₁ B hml hv
  obtain ⟨rfl, hG, hP⟩ := hv
  have hx := B.exec
  have hb := B.bytes
  have hr := B.returns
  have hts : ∀ w ∈ wsL_law, w.before _ s = true := fun w h => atoms_spec (ws := (ws_ yX0_cueCount cX0_cueCount 1 (some .int))) B.pre w (List.mem_cons_of_mem _ h)
  have hown : s.vm.findClass RX0 = some m.cls := findClass_of_methodNamed B.named
  have hlk := B.notSynchronized
  have hC : CallFix p m c cX0_cueCount 1 s _ wsL_law RX0 := ⟨hx, hb, hml, hown, hts⟩
  have hl := lv_entry ([.ref co]) (n := 1) (Nat.le_of_ble_eq_true rfl)
  rw [lg_entry_eq]
  generalize (lg_sl ([.ref co]) ++ List.replicate (1 - (lg_sl ([.ref co])).length) Slot.unset).toArray = ls at hl ⊢
  have hl : lv_has ls 1 [(0, .ref co)] := hl
  refine lv_aload_n hx hb dX0_cueCount_0 rfl (lv_at hl 0 rfl) ?_
  refine va_get (D := D) (ci := 0) (v := .ref (q 0)) (C := RX0) (T := TX0) (N := 4) hx hb hts inlX0 hown hG.K hP 0 rfl rfl 2 (by decide) (hts _ mF_X0_14) (fun _ h9 => h9) rfl dX0_cueCount_1 ?_
  have hP9 := hP.sub (ws' := [oO (q 0) 2 [.ref (b 0), .int (nI nc)], aI D (b 0) 8 ct]) [2, 4] rfl
  refine vp_callSi (pV (rest := []) (qc := (RX2, TX2, 2)) [] 0 hC (c_size l D (r := q 0) (a := b 0) (sz := nc) (n := 8) (f := ct) ) rfl (hP 2 _ rfl) (gV mM_X0_38 mI_X2_size mS_X2_size mN_X2 mC_X2_size) (by decide +kernel) rfl rfl ⟨Nat.le_of_ble_eq_true rfl, Nat.le_of_ble_eq_true rfl⟩ hG hP9 rfl hl.1 rfl (Nat.le_of_ble_eq_true rfl) dX0_cueCount_4 ⟨Nat.le_of_ble_eq_true rfl, Nat.le_of_ble_eq_true rfl⟩) (fun r4 h4 => ?_)
  obtain rfl : r4 = (nI nc) := h4
  refine Ri hx hb hr hlk ?_ dX0_cueCount_7
  exact rfl
set_option maxHeartbeats 4000000 in
set_option maxRecDepth 100000 in
theorem c_cueFact (l : Launch) (D : va_G) {co ta nc : Nat} {len : Int32} {q b t : Nat → Nat} {ct cn : Nat → Int32} {j : Nat} {w : Int32} (hn : nc ≤ 8) (hj : j < nc) : Met l yX0_cueFact (ws_ yX0_cueFact cX0_cueFact 3 (some .int)) ({ frames := 2, cells := 0, slots := 0, locals := 42 } : Room) (va_Pc [.ref co, .int (nI j), .int w] (PW D [oO co 0 [.int len, .ref ta, .ref (q 0), .ref (q 1)], aT D ta 4 (tkF t), oO (q 0) 2 [.ref (b 0), .int (nI nc)], oO (q 1) 2 [.ref (b 1), .int (nI nc)], aI D (b 0) 8 ct, aI D (b 1) 8 cn])) (vp_Si (fun v => v = if w = 0 then ct j else cn j)) 0 0 (fun _ => False) := by
  refine Met.ofW (cc := cX0_cueFact) (maxL := 3) (ret := (some .int)) (by decide) rfl ?_
  intro p e s m args below meth c s₁ B hml hv
  obtain ⟨rfl, hG, hP⟩ := hv
  have hx := B.exec
  have hb := B.bytes
  have hr := B.returns
  have hts : ∀ w ∈ wsL_law, w.before _ s = true := fun w h => atoms_spec (ws := (ws_ yX0_cueFact cX0_cueFact 3 (some .int))) B.pre w (List.mem_cons_of_mem _ h)
  have hown : s.vm.findClass RX0 = some m.cls := findClass_of_methodNamed B.named
  have hlk := B.notSynchronized
  have hC : CallFix p m c cX0_cueFact 3 s _ wsL_law RX0 := ⟨hx, hb, hml, hown, hts⟩
  have hl := lv_entry ([.ref co, .int (nI j), .int w]) (n := 3) (Nat.le_of_ble_eq_true rfl)
  rw [lg_entry_eq]
  generalize (lg_sl ([.ref co, .int (nI j), .int w]) ++ List.replicate (3 - (lg_sl ([.ref co, .int (nI j), .int w])).length) Slot.unset).toArray = ls at hl ⊢
  have hl : lv_has ls 3 [(0, .ref co), (1, .int (nI j)), (2, .int w)] := hl
  refine lv_iload_n hx hb dX0_cueFact_0 rfl (lv_at hl 2 rfl) ?_
  refine lv_if_ne (tgt := 15) hx hb dX0_cueFact_1 (by decide) (fun c1 => ?_) (fun c1 => ?_)
  · skip
    refine lv_aload_n hx hb dX0_cueFact_15 rfl (lv_at hl 0 rfl) ?_
    refine va_get (D := D) (ci := 0) (v := .ref (q 1)) (C := RX0) (T := TX0) (N := 4) hx hb hts inlX0 hown hG.K hP 0 rfl rfl 3 (by decide) (hts _ mF_X0_20) (fun _ h9 => h9) rfl dX0_cueFact_16 ?_
    refine lv_iload_n hx hb dX0_cueFact_19 rfl (lv_at hl 1 rfl) ?_
    have hP9 := hP.sub (ws' := [oO (q 1) 2 [.ref (b 1), .int (nI nc)], aI D (b 1) 8 cn]) [3, 5] rfl
    refine vp_callSi (pV (rest := []) (qc := (RX2, TX2, 2)) [.int (nI j)] 1 hC (c_get l D (r := q 1) (j := j) (a := b 1) (sz := nc) (n := 8) (f := cn) (by omega) (by omega) (by omega)) rfl (hP 3 _ rfl) (gV mM_X0_41 mI_X2_get mS_X2_get mN_X2 mC_X2_get) (by decide +kernel) rfl rfl ⟨Nat.le_of_ble_eq_true rfl, Nat.le_of_ble_eq_true rfl⟩ hG hP9 rfl hl.1 rfl (Nat.le_of_ble_eq_true rfl) dX0_cueFact_20 ⟨Nat.le_of_ble_eq_true rfl, Nat.le_of_ble_eq_true rfl⟩) (fun r20 h20 => ?_)
    obtain rfl : r20 = (cn j) := h20
    refine Ri hx hb hr hlk ?_ dX0_cueFact_23
    show _ = _
    first | rw [if_pos c1] | rw [if_neg c1]
  · skip
    refine lv_aload_n hx hb dX0_cueFact_4 rfl (lv_at hl 0 rfl) ?_
    refine va_get (D := D) (ci := 0) (v := .ref (q 0)) (C := RX0) (T := TX0) (N := 4) hx hb hts inlX0 hown hG.K hP 0 rfl rfl 2 (by decide) (hts _ mF_X0_14) (fun _ h9 => h9) rfl dX0_cueFact_5 ?_
    refine lv_iload_n hx hb dX0_cueFact_8 rfl (lv_at hl 1 rfl) ?_
    have hP9 := hP.sub (ws' := [oO (q 0) 2 [.ref (b 0), .int (nI nc)], aI D (b 0) 8 ct]) [2, 4] rfl
    refine vp_callSi (pV (rest := []) (qc := (RX2, TX2, 2)) [.int (nI j)] 1 hC (c_get l D (r := q 0) (j := j) (a := b 0) (sz := nc) (n := 8) (f := ct) (by omega) (by omega) (by omega)) rfl (hP 2 _ rfl) (gV mM_X0_41 mI_X2_get mS_X2_get mN_X2 mC_X2_get) (by decide +kernel) rfl rfl ⟨Nat.le_of_ble_eq_true rfl, Nat.le_of_ble_eq_true rfl⟩ hG hP9 rfl hl.1 rfl (Nat.le_of_ble_eq_true rfl) dX0_cueFact_9 ⟨Nat.le_of_ble_eq_true rfl, Nat.le_of_ble_eq_true rfl⟩) (fun r9 h9 => ?_)
    obtain rfl : r9 = (ct j) := h9
    refine lv_goto (tgt := 23) hx hb dX0_cueFact_12 (by decide) ?_
    refine Ri hx hb hr hlk ?_ dX0_cueFact_23
    show _ = _
    first | rw [if_pos c1] | rw [if_neg c1]
set_option maxHeartbeats 4000000 in
set_option maxRecDepth 100000 in
theorem c_layCue (l : Launch) (D : va_G) {co ta nc : Nat} {len : Int32} {q b t : Nat → Nat} {ct cn : Nat → Int32} {x y : Int32} (hz0 : Nat) (hn : nc < 8) : Met l yX0_layCue (ws_ yX0_layCue cX0_layCue 4 none) ({ frames := 3, cells := 0, slots := 0, locals := 64 } : Room) (va_Pc [.ref co, .int x, .int y] (SW D [oO co 0 [.int len, .ref ta, .ref (q 0), .ref (q 1)], aT D ta 4 (tkF t), oO (q 0) 2 [.ref (b 0), .int (nI nc)], oO (q 1) 2 [.ref (b 1), .int (nI nc)], aI D (b 0) 8 ct, aI D (b 1) 8 cn] hz0)) (va_Qv (fun _ => True) (AT D (va_A [oO co 0 [.int len, .ref ta, .ref (q 0), .ref (q 1)], aT D ta 4 (tkF t), oO (q 0) 2 [.ref (b 0), .int (nI nc)], oO (q 1) 2 [.ref (b 1), .int (nI nc)], aI D (b 0) 8 ct, aI D (b 1) 8 cn] hz0) (fun _ : Unit => [oO co 0 [.int len, .ref ta, .ref (q 0), .ref (q 1)], aT D ta 4 (tkF t), oO (q 0) 2 [.ref (b 0), .int (nI (nc + 1))], oO (q 1) 2 [.ref (b 1), .int (nI (nc + 1))], aI D (b 0) 8 (insF ct (cntLe ct x nc) nc x), aI D (b 1) 8 (insF cn (cntLe ct x nc) nc y)])) (va_A [oO co 0 [.int len, .ref ta, .ref (q 0), .ref (q 1)], aT D ta 4 (tkF t), oO (q 0) 2 [.ref (b 0), .int (nI nc)], oO (q 1) 2 [.ref (b 1), .int (nI nc)], aI D (b 0) 8 ct, aI D (b 1) 8 cn] hz0)) 0 0 (va_A [oO co 0 [.int len, .ref ta, .ref (q 0), .ref (q 1)], aT D ta 4 (tkF t), oO (q 0) 2 [.ref (b 0), .int (nI nc)], oO (q 1) 2 [.ref (b 1), .int (nI nc)], aI D (b 0) 8 ct, aI D (b 1) 8 cn] hz0) := by
  refine Met.ofW (cc := cX0_layCue) (maxL := 4) (ret := none) (by decide) rfl ?_
  intro p e s m args below meth c s₁ B hml hv
  obtain ⟨rfl, hsz, hG, hP, hD0⟩ := hv
  have hx := B.exec
  have hb := B.bytes
  have hr := B.returns
  have hts : ∀ w ∈ wsL_law, w.before _ s = true := fun w h => atoms_spec (ws := (ws_ yX0_layCue cX0_layCue 4 none)) B.pre w (List.mem_cons_of_mem _ h)
  have hown : s.vm.findClass RX0 = some m.cls := findClass_of_methodNamed B.named
  have hlk := B.notSynchronized
  have hC : CallFix p m c cX0_layCue 4 s _ wsL_law RX0 := ⟨hx, hb, hml, hown, hts⟩
  subst hsz
  have hD := hD0.self (sz := s.heap.size)
  generalize hAe : va_A [oO co 0 [.int len, .ref ta, .ref (q 0), .ref (q 1)], aT D ta 4 (tkF t), oO (q 0) 2 [.ref (b 0), .int (nI nc)], oO (q 1) 2 [.ref (b 1), .int (nI nc)], aI D (b 0) 8 ct, aI D (b 1) 8 cn] s.heap.size = A at hD ⊢
  have hA : ∀ q : Nat, s.heap.size ≤ q → A q := fun q h => by rw [← hAe]; exact Or.inr h
  have hS : va_S A s.heap s.heap [] := va_S.rf
  obtain ⟨H, hHe⟩ : ∃ H, H = s.heap := ⟨_, rfl⟩
  rw [← hHe] at hP
  have hS : va_S A s.heap H [] := by rw [hHe]; exact hS
  have hl := lv_entry ([.ref co, .int x, .int y]) (n := 4) (Nat.le_of_ble_eq_true rfl)
  rw [lg_entry_eq]
  generalize (lg_sl ([.ref co, .int x, .int y]) ++ List.replicate (4 - (lg_sl ([.ref co, .int x, .int y])).length) Slot.unset).toArray = ls at hl ⊢
  have hl : lv_has ls 4 [(0, .ref co), (1, .int x), (2, .int y)] := hl
  rw [← hHe]
  have hcl := cntLe_le ct x nc
  refine lv_aload_n hx hb dX0_layCue_0 rfl (lv_at hl 0 rfl) ?_
  refine va_get (D := D) (ci := 0) (v := .ref (q 0)) (C := RX0) (T := TX0) (N := 4) hx hb hts inlX0 hown hG.K hP 0 rfl rfl 2 (by decide) (hts _ mF_X0_14) (fun _ h9 => h9) rfl dX0_layCue_1 ?_
  refine lv_iload_n hx hb dX0_layCue_4 rfl (lv_at hl 1 rfl) ?_
  have hP9 := hP.sub (ws' := [oO (q 0) 2 [.ref (b 0), .int (nI nc)], aI D (b 0) 8 ct]) [2, 4] rfl
  refine vp_callSi (pV (rest := []) (qc := (RX2, TX2, 2)) [.int x] 1 hC (c_countUpTo l D (r := q 0) (x := x) (a := b 0) (sz := nc) (n := 8) (f := ct) (by omega) (by omega)) rfl (hP 2 _ rfl) (gV mM_X0_45 mI_X2_countUpTo mS_X2_countUpTo mN_X2 mC_X2_countUpTo) (by decide +kernel) rfl rfl ⟨Nat.le_of_ble_eq_true rfl, Nat.le_of_ble_eq_true rfl⟩ hG hP9 rfl hl.1 rfl (Nat.le_of_ble_eq_true rfl) dX0_layCue_5 ⟨Nat.le_of_ble_eq_true rfl, Nat.le_of_ble_eq_true rfl⟩) (fun r5 h5 => ?_)
  obtain rfl : r5 = (nI (cntLe ct x nc)) := h5
  refine lv_istore_n (lv' := [(3, .int (nI (cntLe ct x nc))), (0, .ref co), (1, .int x), (2, .int y)]) hx hb dX0_layCue_8 rfl hl (by decide) rfl (fun ls hl => ?_)
  refine lv_aload_n hx hb dX0_layCue_9 rfl (lv_at hl 1 rfl) ?_
  refine va_get (D := D) (ci := 0) (v := .ref (q 0)) (C := RX0) (T := TX0) (N := 4) hx hb hts inlX0 hown hG.K hP 0 rfl rfl 2 (by decide) (hts _ mF_X0_14) (fun _ h9 => h9) rfl dX0_layCue_10 ?_
  refine lv_iload_n hx hb dX0_layCue_13 rfl (lv_at hl 0 rfl) ?_
  refine lv_iload_n hx hb dX0_layCue_14 rfl (lv_at hl 2 rfl) ?_
  have hP9 := hP.sub (ws' := [oO (q 0) 2 [.ref (b 0), .int (nI nc)], aI D (b 0) 8 ct]) [2, 4] rfl
  have hD9 := (hD.sub (ws' := [oO (q 0) 2 [.ref (b 0), .int (nI nc)], aI D (b 0) 8 ct]) [2, 4] (by decide) rfl).weaken (B := fun _ => True) (fun _ _ _ _ => trivial)
  refine kv (wr := [oO co 0 [.int len, .ref ta, .ref (q 0), .ref (q 1)], aT D ta 4 (tkF t), oO (q 1) 2 [.ref (b 1), .int (nI nc)], aI D (b 1) 8 cn]) (rV (rest := []) (qc := (RX2, TX2, 2)) [.int (nI (cntLe ct x nc)), .int x] 2 0 0 hC (c_insert l D (r := q 0) (j := cntLe ct x nc) (x := x) (a := b 0) (sz := nc) (n := 8) (f := ct) (hz0 := H.size) (by omega) (by omega) (by omega)) rfl (hP 2 _ rfl) (gV mM_X0_48 mI_X2_insert mS_X2_insert mN_X2 mC_X2_insert) (by decide +kernel) rfl rfl ⟨Nat.le_of_ble_eq_true rfl, Nat.le_of_ble_eq_true rfl⟩ hG hP9 hD9 rfl hl.1 rfl (Nat.le_of_ble_eq_true rfl) dX0_layCue_15 ⟨Nat.le_of_ble_eq_true rfl, Nat.le_of_ble_eq_true rfl⟩) hP hD hS hA [2, 4] [0, 1, 3, 5] rfl rfl (by decide) (by decide) (fun u15 H locs h15 hP hD hS hz hfr => ?_)
  have hP : va_P D cls [oO co 0 [.int len, .ref ta, .ref (q 0), .ref (q 1)], aT D ta 4 (tkF t), oO (q 1) 2 [.ref (b 1), .int (nI nc)], aI D (b 1) 8 cn, oO (q 0) 2 [.ref (b 0), .int (nI (nc + 1))], aI D (b 0) 8 (insF ct (cntLe ct x nc) nc x)] H := hP
  have hD : va_D A [oO co 0 [.int len, .ref ta, .ref (q 0), .ref (q 1)], aT D ta 4 (tkF t), oO (q 1) 2 [.ref (b 1), .int (nI nc)], aI D (b 1) 8 cn, oO (q 0) 2 [.ref (b 0), .int (nI (nc + 1))], aI D (b 0) 8 (insF ct (cntLe ct x nc) nc x)] := hD
  refine lv_aload_n hx hb dX0_layCue_18 rfl (lv_at hl 1 rfl) ?_
  refine va_get (D := D) (ci := 0) (v := .ref (q 1)) (C := RX0) (T := TX0) (N := 4) hx hb hts inlX0 hown hG.K hP 0 rfl rfl 3 (by decide) (hts _ mF_X0_20) (fun _ h9 => h9) rfl dX0_layCue_19 ?_
  refine lv_iload_n hx hb dX0_layCue_22 rfl (lv_at hl 0 rfl) ?_
  refine lv_iload_n hx hb dX0_layCue_23 rfl (lv_at hl 3 rfl) ?_
  have hP9 := hP.sub (ws' := [oO (q 1) 2 [.ref (b 1), .int (nI nc)], aI D (b 1) 8 cn]) [2, 3] rfl
  have hD9 := (hD.sub (ws' := [oO (q 1) 2 [.ref (b 1), .int (nI nc)], aI D (b 1) 8 cn]) [2, 3] (by decide) rfl).weaken (B := fun _ => True) (fun _ _ _ _ => trivial)
  refine kv (wr := [oO co 0 [.int len, .ref ta, .ref (q 0), .ref (q 1)], aT D ta 4 (tkF t), oO (q 0) 2 [.ref (b 0), .int (nI (nc + 1))], aI D (b 0) 8 (insF ct (cntLe ct x nc) nc x)]) (rV (rest := []) (qc := (RX2, TX2, 2)) [.int (nI (cntLe ct x nc)), .int y] 2 0 0 hC (c_insert l D (r := q 1) (j := cntLe ct x nc) (x := y) (a := b 1) (sz := nc) (n := 8) (f := cn) (hz0 := H.size) (by omega) (by omega) (by omega)) rfl (hP 2 _ rfl) (gV mM_X0_48 mI_X2_insert mS_X2_insert mN_X2 mC_X2_insert) (by decide +kernel) rfl rfl ⟨Nat.le_of_ble_eq_true rfl, Nat.le_of_ble_eq_true rfl⟩ hG hP9 hD9 rfl hl.1 rfl (Nat.le_of_ble_eq_true rfl) dX0_layCue_24 ⟨Nat.le_of_ble_eq_true rfl, Nat.le_of_ble_eq_true rfl⟩) hP hD hS hA [2, 3] [0, 1, 4, 5] rfl rfl (by decide) (by decide) (fun u24 H locs h24 hP hD hS hz hfr => ?_)
  have hP : va_P D cls [oO co 0 [.int len, .ref ta, .ref (q 0), .ref (q 1)], aT D ta 4 (tkF t), oO (q 0) 2 [.ref (b 0), .int (nI (nc + 1))], aI D (b 0) 8 (insF ct (cntLe ct x nc) nc x), oO (q 1) 2 [.ref (b 1), .int (nI (nc + 1))], aI D (b 1) 8 (insF cn (cntLe ct x nc) nc y)] H := hP
  have hD : va_D A [oO co 0 [.int len, .ref ta, .ref (q 0), .ref (q 1)], aT D ta 4 (tkF t), oO (q 0) 2 [.ref (b 0), .int (nI (nc + 1))], aI D (b 0) 8 (insF ct (cntLe ct x nc) nc x), oO (q 1) 2 [.ref (b 1), .int (nI (nc + 1))], aI D (b 1) 8 (insF cn (cntLe ct x nc) nc y)] := hD
  refine Wv () hx hb hr hlk ?_ (hP.sub [0, 1, 2, 4, 3, 5] rfl) (hD.sub [0, 1, 2, 4, 3, 5] (by decide) rfl) hS (Nat.le_of_ble_eq_true rfl) (by first | exact Nat.le_of_ble_eq_true rfl | exact Nat.le_of_eq (Nat.zero_add _)) dX0_layCue_27
  exact trivial
set_option maxHeartbeats 4000000 in
set_option maxRecDepth 100000 in
theorem c_clip_turn (l : Launch) (D : va_G) {co ta nc : Nat} {len : Int32} {q b t r a sz : Nat → Nat} {ct cn : Nat → Int32} {f : Nat → Nat → Int32} (hz0 : Nat) (hs0 : sz 0 ≤ 16) (hs1 : sz 1 ≤ 16) (hs2 : sz 2 ≤ 16) (hs3 : sz 3 ≤ 16) (hn : nc ≤ 8) : Met l yX0_turnAround (ws_ yX0_turnAround cX0_turnAround 5 none) ({ frames := 5, cells := 0, slots := 0, locals := 110 } : Room) (va_Pc [.ref co] (SW D [oO co 0 [.int len, .ref ta, .ref (q 0), .ref (q 1)], aT D ta 4 (tkF t), oO (q 0) 2 [.ref (b 0), .int (nI nc)], oO (q 1) 2 [.ref (b 1), .int (nI nc)], aI D (b 0) 8 ct, aI D (b 1) 8 cn, oO (t 0) 4 [.ref (r 0), .ref (r 1), .ref (r 2)], oO (r 0) 2 [.ref (a 0), .int (nI (sz 0))], oO (r 1) 2 [.ref (a 1), .int (nI (sz 0))], oO (r 2) 2 [.ref (a 2), .int (nI (sz 0))], aI D (a 0) 16 (f 0), aI D (a 1) 16 (f 1), aI D (a 2) 16 (f 2), oO (t 1) 4 [.ref (r 3), .ref (r 4), .ref (r 5)], oO (r 3) 2 [.ref (a 3), .int (nI (sz 1))], oO (r 4) 2 [.ref (a 4), .int (nI (sz 1))], oO (r 5) 2 [.ref (a 5), .int (nI (sz 1))], aI D (a 3) 16 (f 3), aI D (a 4) 16 (f 4), aI D (a 5) 16 (f 5), oO (t 2) 4 [.ref (r 6), .ref (r 7), .ref (r 8)], oO (r 6) 2 [.ref (a 6), .int (nI (sz 2))], oO (r 7) 2 [.ref (a 7), .int (nI (sz 2))], oO (r 8) 2 [.ref (a 8), .int (nI (sz 2))], aI D (a 6) 16 (f 6), aI D (a 7) 16 (f 7), aI D (a 8) 16 (f 8), oO (t 3) 4 [.ref (r 9), .ref (r 10), .ref (r 11)], oO (r 9) 2 [.ref (a 9), .int (nI (sz 3))], oO (r 10) 2 [.ref (a 10), .int (nI (sz 3))], oO (r 11) 2 [.ref (a 11), .int (nI (sz 3))], aI D (a 9) 16 (f 9), aI D (a 10) 16 (f 10), aI D (a 11) 16 (f 11)] hz0)) (va_Qv (fun _ => True) (AT D (va_A [oO co 0 [.int len, .ref ta, .ref (q 0), .ref (q 1)], aT D ta 4 (tkF t), oO (q 0) 2 [.ref (b 0), .int (nI nc)], oO (q 1) 2 [.ref (b 1), .int (nI nc)], aI D (b 0) 8 ct, aI D (b 1) 8 cn, oO (t 0) 4 [.ref (r 0), .ref (r 1), .ref (r 2)], oO (r 0) 2 [.ref (a 0), .int (nI (sz 0))], oO (r 1) 2 [.ref (a 1), .int (nI (sz 0))], oO (r 2) 2 [.ref (a 2), .int (nI (sz 0))], aI D (a 0) 16 (f 0), aI D (a 1) 16 (f 1), aI D (a 2) 16 (f 2), oO (t 1) 4 [.ref (r 3), .ref (r 4), .ref (r 5)], oO (r 3) 2 [.ref (a 3), .int (nI (sz 1))], oO (r 4) 2 [.ref (a 4), .int (nI (sz 1))], oO (r 5) 2 [.ref (a 5), .int (nI (sz 1))], aI D (a 3) 16 (f 3), aI D (a 4) 16 (f 4), aI D (a 5) 16 (f 5), oO (t 2) 4 [.ref (r 6), .ref (r 7), .ref (r 8)], oO (r 6) 2 [.ref (a 6), .int (nI (sz 2))], oO (r 7) 2 [.ref (a 7), .int (nI (sz 2))], oO (r 8) 2 [.ref (a 8), .int (nI (sz 2))], aI D (a 6) 16 (f 6), aI D (a 7) 16 (f 7), aI D (a 8) 16 (f 8), oO (t 3) 4 [.ref (r 9), .ref (r 10), .ref (r 11)], oO (r 9) 2 [.ref (a 9), .int (nI (sz 3))], oO (r 10) 2 [.ref (a 10), .int (nI (sz 3))], oO (r 11) 2 [.ref (a 11), .int (nI (sz 3))], aI D (a 9) 16 (f 9), aI D (a 10) 16 (f 10), aI D (a 11) 16 (f 11)] hz0) (fun _ : Unit => [oO co 0 [.int len, .ref ta, .ref (q 0), .ref (q 1)], aT D ta 4 (tkF t), oO (q 0) 2 [.ref (b 0), .int (nI nc)], oO (q 1) 2 [.ref (b 1), .int (nI nc)], aI D (b 0) 8 (rvF (mpF (fun z => len - z) ct nc) nc), aI D (b 1) 8 (rvF cn nc), oO (t 0) 4 [.ref (r 0), .ref (r 1), .ref (r 2)], oO (r 0) 2 [.ref (a 0), .int (nI (sz 0))], oO (r 1) 2 [.ref (a 1), .int (nI (sz 0))], oO (r 2) 2 [.ref (a 2), .int (nI (sz 0))], aI D (a 0) 16 (rvF (mpF (fun z => len - z) (f 0) (sz 0)) (sz 0)), aI D (a 1) 16 (rvF (f 1) (sz 0)), aI D (a 2) 16 (teF (f 2) (sz 0)), oO (t 1) 4 [.ref (r 3), .ref (r 4), .ref (r 5)], oO (r 3) 2 [.ref (a 3), .int (nI (sz 1))], oO (r 4) 2 [.ref (a 4), .int (nI (sz 1))], oO (r 5) 2 [.ref (a 5), .int (nI (sz 1))], aI D (a 3) 16 (rvF (mpF (fun z => len - z) (f 3) (sz 1)) (sz 1)), aI D (a 4) 16 (rvF (f 4) (sz 1)), aI D (a 5) 16 (teF (f 5) (sz 1)), oO (t 2) 4 [.ref (r 6), .ref (r 7), .ref (r 8)], oO (r 6) 2 [.ref (a 6), .int (nI (sz 2))], oO (r 7) 2 [.ref (a 7), .int (nI (sz 2))], oO (r 8) 2 [.ref (a 8), .int (nI (sz 2))], aI D (a 6) 16 (rvF (mpF (fun z => len - z) (f 6) (sz 2)) (sz 2)), aI D (a 7) 16 (rvF (f 7) (sz 2)), aI D (a 8) 16 (teF (f 8) (sz 2)), oO (t 3) 4 [.ref (r 9), .ref (r 10), .ref (r 11)], oO (r 9) 2 [.ref (a 9), .int (nI (sz 3))], oO (r 10) 2 [.ref (a 10), .int (nI (sz 3))], oO (r 11) 2 [.ref (a 11), .int (nI (sz 3))], aI D (a 9) 16 (rvF (mpF (fun z => len - z) (f 9) (sz 3)) (sz 3)), aI D (a 10) 16 (rvF (f 10) (sz 3)), aI D (a 11) 16 (teF (f 11) (sz 3))])) (va_A [oO co 0 [.int len, .ref ta, .ref (q 0), .ref (q 1)], aT D ta 4 (tkF t), oO (q 0) 2 [.ref (b 0), .int (nI nc)], oO (q 1) 2 [.ref (b 1), .int (nI nc)], aI D (b 0) 8 ct, aI D (b 1) 8 cn, oO (t 0) 4 [.ref (r 0), .ref (r 1), .ref (r 2)], oO (r 0) 2 [.ref (a 0), .int (nI (sz 0))], oO (r 1) 2 [.ref (a 1), .int (nI (sz 0))], oO (r 2) 2 [.ref (a 2), .int (nI (sz 0))], aI D (a 0) 16 (f 0), aI D (a 1) 16 (f 1), aI D (a 2) 16 (f 2), oO (t 1) 4 [.ref (r 3), .ref (r 4), .ref (r 5)], oO (r 3) 2 [.ref (a 3), .int (nI (sz 1))], oO (r 4) 2 [.ref (a 4), .int (nI (sz 1))], oO (r 5) 2 [.ref (a 5), .int (nI (sz 1))], aI D (a 3) 16 (f 3), aI D (a 4) 16 (f 4), aI D (a 5) 16 (f 5), oO (t 2) 4 [.ref (r 6), .ref (r 7), .ref (r 8)], oO (r 6) 2 [.ref (a 6), .int (nI (sz 2))], oO (r 7) 2 [.ref (a 7), .int (nI (sz 2))], oO (r 8) 2 [.ref (a 8), .int (nI (sz 2))], aI D (a 6) 16 (f 6), aI D (a 7) 16 (f 7), aI D (a 8) 16 (f 8), oO (t 3) 4 [.ref (r 9), .ref (r 10), .ref (r 11)], oO (r 9) 2 [.ref (a 9), .int (nI (sz 3))], oO (r 10) 2 [.ref (a 10), .int (nI (sz 3))], oO (r 11) 2 [.ref (a 11), .int (nI (sz 3))], aI D (a 9) 16 (f 9), aI D (a 10) 16 (f 10), aI D (a 11) 16 (f 11)] hz0)) 0 0 (va_A [oO co 0 [.int len, .ref ta, .ref (q 0), .ref (q 1)], aT D ta 4 (tkF t), oO (q 0) 2 [.ref (b 0), .int (nI nc)], oO (q 1) 2 [.ref (b 1), .int (nI nc)], aI D (b 0) 8 ct, aI D (b 1) 8 cn, oO (t 0) 4 [.ref (r 0), .ref (r 1), .ref (r 2)], oO (r 0) 2 [.ref (a 0), .int (nI (sz 0))], oO (r 1) 2 [.ref (a 1), .int (nI (sz 0))], oO (r 2) 2 [.ref (a 2), .int (nI (sz 0))], aI D (a 0) 16 (f 0), aI D (a 1) 16 (f 1), aI D (a 2) 16 (f 2), oO (t 1) 4 [.ref (r 3), .ref (r 4), .ref (r 5)], oO (r 3) 2 [.ref (a 3), .int (nI (sz 1))], oO (r 4) 2 [.ref (a 4), .int (nI (sz 1))], oO (r 5) 2 [.ref (a 5), .int (nI (sz 1))], aI D (a 3) 16 (f 3), aI D (a 4) 16 (f 4), aI D (a 5) 16 (f 5), oO (t 2) 4 [.ref (r 6), .ref (r 7), .ref (r 8)], oO (r 6) 2 [.ref (a 6), .int (nI (sz 2))], oO (r 7) 2 [.ref (a 7), .int (nI (sz 2))], oO (r 8) 2 [.ref (a 8), .int (nI (sz 2))], aI D (a 6) 16 (f 6), aI D (a 7) 16 (f 7), aI D (a 8) 16 (f 8), oO (t 3) 4 [.ref (r 9), .ref (r 10), .ref (r 11)], oO (r 9) 2 [.ref (a 9), .int (nI (sz 3))], oO (r 10) 2 [.ref (a 10), .int (nI (sz 3))], oO (r 11) 2 [.ref (a 11), .int (nI (sz 3))], aI D (a 9) 16 (f 9), aI D (a 10) 16 (f 10), aI D (a 11) 16 (f 11)] hz0) := by
  refine Met.ofW (cc := cX0_turnAround) (maxL := 5) (ret := none) (by decide) rfl ?_
  intro p e s m args below meth c s₁ B hml hv
  obtain ⟨rfl, hsz, hG, hP, hD0⟩ := hv
  have hx := B.exec
  have hb := B.bytes
  have hr := B.returns
  have hts : ∀ w ∈ wsL_law, w.before _ s = true := fun w h => atoms_spec (ws := (ws_ yX0_turnAround cX0_turnAround 5 none)) B.pre w (List.mem_cons_of_mem _ h)
  have hown : s.vm.findClass RX0 = some m.cls := findClass_of_methodNamed B.named
  have hlk := B.notSynchronized
  have hC : CallFix p m c cX0_turnAround 5 s _ wsL_law RX0 := ⟨hx, hb, hml, hown, hts⟩
  subst hsz
  have hD := hD0.self (sz := s.heap.size)
  generalize hAe : va_A [oO co 0 [.int len, .ref ta, .ref (q 0), .ref (q 1)], aT D ta 4 (tkF t), oO (q 0) 2 [.ref (b 0), .int (nI nc)], oO (q 1) 2 [.ref (b 1), .int (nI nc)], aI D (b 0) 8 ct, aI D (b 1) 8 cn, oO (t 0) 4 [.ref (r 0), .ref (r 1), .ref (r 2)], oO (r 0) 2 [.ref (a 0), .int (nI (sz 0))], oO (r 1) 2 [.ref (a 1), .int (nI (sz 0))], oO (r 2) 2 [.ref (a 2), .int (nI (sz 0))], aI D (a 0) 16 (f 0), aI D (a 1) 16 (f 1), aI D (a 2) 16 (f 2), oO (t 1) 4 [.ref (r 3), .ref (r 4), .ref (r 5)], oO (r 3) 2 [.ref (a 3), .int (nI (sz 1))], oO (r 4) 2 [.ref (a 4), .int (nI (sz 1))], oO (r 5) 2 [.ref (a 5), .int (nI (sz 1))], aI D (a 3) 16 (f 3), aI D (a 4) 16 (f 4), aI D (a 5) 16 (f 5), oO (t 2) 4 [.ref (r 6), .ref (r 7), .ref (r 8)], oO (r 6) 2 [.ref (a 6), .int (nI (sz 2))], oO (r 7) 2 [.ref (a 7), .int (nI (sz 2))], oO (r 8) 2 [.ref (a 8), .int (nI (sz 2))], aI D (a 6) 16 (f 6), aI D (a 7) 16 (f 7), aI D (a 8) 16 (f 8), oO (t 3) 4 [.ref (r 9), .ref (r 10), .ref (r 11)], oO (r 9) 2 [.ref (a 9), .int (nI (sz 3))], oO (r 10) 2 [.ref (a 10), .int (nI (sz 3))], oO (r 11) 2 [.ref (a 11), .int (nI (sz 3))], aI D (a 9) 16 (f 9), aI D (a 10) 16 (f 10), aI D (a 11) 16 (f 11)] s.heap.size = A at hD ⊢
  have hA : ∀ q : Nat, s.heap.size ≤ q → A q := fun q h => by rw [← hAe]; exact Or.inr h
  have hS : va_S A s.heap s.heap [] := va_S.rf
  obtain ⟨H, hHe⟩ : ∃ H, H = s.heap := ⟨_, rfl⟩
  rw [← hHe] at hP
  have hS : va_S A s.heap H [] := by rw [hHe]; exact hS
  have hl := lv_entry ([.ref co]) (n := 5) (Nat.le_of_ble_eq_true rfl)
  rw [lg_entry_eq]
  generalize (lg_sl ([.ref co]) ++ List.replicate (5 - (lg_sl ([.ref co])).length) Slot.unset).toArray = ls at hl ⊢
  have hl : lv_has ls 5 [(0, .ref co)] := hl
  rw [← hHe]
  refine lv_aload_n hx hb dX0_turnAround_0 rfl (lv_at hl 0 rfl) ?_
  refine va_get (D := D) (ci := 0) (v := .ref ta) (C := RX0) (T := TX0) (N := 4) hx hb hts inlX0 hown hG.K hP 0 rfl rfl 1 (by decide) (hts _ mF_X0_29) (fun _ h9 => h9) rfl dX0_turnAround_1 ?_
  refine lv_astore_n (lv' := [(1, .ref ta), (0, .ref co)]) hx hb dX0_turnAround_4 rfl hl (by decide) rfl (fun ls hl => ?_)
  refine lv_aload_n hx hb dX0_turnAround_5 rfl (lv_at hl 0 rfl) ?_
  refine va_alen (v := nI 4) hx hb hG.K hP 1 3 rfl rfl rfl dX0_turnAround_6 ?_
  refine lv_istore_n (lv' := [(2, .int (nI 4)), (1, .ref ta), (0, .ref co)]) hx hb dX0_turnAround_7 rfl hl (by decide) rfl (fun ls hl => ?_)
  refine lv_iconst (v := 0) hx hb dX0_turnAround_8 (by decide) ?_
  refine lv_istore_n (lv' := [(3, .int 0), (2, .int (nI 4)), (1, .ref ta), (0, .ref co)]) hx hb dX0_turnAround_9 rfl hl (by decide) rfl (fun ls hl => ?_)
  refine lv_iload_n hx hb dX0_turnAround_10 rfl (lv_at hl 0 rfl) ?_
  refine lv_iload_n hx hb dX0_turnAround_11 rfl (lv_at hl 1 rfl) ?_
  refine lv_icmp_ge (tgt := 35) hx hb dX0_turnAround_12 (by decide) (fun h9 => absurd h9 (by decide)) (fun _ => ?_)
  refine lv_aload_n hx hb dX0_turnAround_15 rfl (lv_at hl 2 rfl) ?_
  refine lv_iload_n hx hb dX0_turnAround_16 rfl (lv_at hl 0 rfl) ?_
  refine ald (n := 4) (j := 0) hx hb hG hP 1 3 rfl rfl (by omega) (by omega) dX0_turnAround_17 ?_
  refine tpv (y := .ref (t 0)) (tkF_ref (by omega)) ?_
  refine lv_astore (lv' := [(4, .ref (t 0)), (3, .int 0), (2, .int (nI 4)), (1, .ref ta), (0, .ref co)]) hx hb dX0_turnAround_18 hl (by decide) rfl (fun ls hl => ?_)
  refine lv_aload hx hb dX0_turnAround_20 (lv_at hl 0 rfl) ?_
  refine lv_aload_n hx hb dX0_turnAround_22 rfl (lv_at hl 4 rfl) ?_
  refine va_get (D := D) (ci := 0) (v := .int len) (C := RX0) (T := TX0) (N := 4) hx hb hts inlX0 hown hG.K hP 0 rfl rfl 0 (by decide) (hts _ mF_X0_23) (fun _ h9 => h9) rfl dX0_turnAround_23 ?_
  have hP9 := hP.sub (ws' := [oO (t 0) 4 [.ref (r 0), .ref (r 1), .ref (r 2)], oO (r 0) 2 [.ref (a 0), .int (nI (sz 0))], oO (r 1) 2 [.ref (a 1), .int (nI (sz 0))], oO (r 2) 2 [.ref (a 2), .int (nI (sz 0))], aI D (a 0) 16 (f 0), aI D (a 1) 16 (f 1), aI D (a 2) 16 (f 2)]) [6, 7, 8, 9, 10, 11, 12] rfl
  have hD9 := (hD.sub (ws' := [oO (t 0) 4 [.ref (r 0), .ref (r 1), .ref (r 2)], oO (r 0) 2 [.ref (a 0), .int (nI (sz 0))], oO (r 1) 2 [.ref (a 1), .int (nI (sz 0))], oO (r 2) 2 [.ref (a 2), .int (nI (sz 0))], aI D (a 0) 16 (f 0), aI D (a 1) 16 (f 1), aI D (a 2) 16 (f 2)]) [6, 7, 8, 9, 10, 11, 12] (by decide) rfl).weaken (B := fun _ => True) (fun _ _ _ _ => trivial)
  refine kv (wr := [oO co 0 [.int len, .ref ta, .ref (q 0), .ref (q 1)], aT D ta 4 (tkF t), oO (q 0) 2 [.ref (b 0), .int (nI nc)], oO (q 1) 2 [.ref (b 1), .int (nI nc)], aI D (b 0) 8 ct, aI D (b 1) 8 cn, oO (t 1) 4 [.ref (r 3), .ref (r 4), .ref (r 5)], oO (r 3) 2 [.ref (a 3), .int (nI (sz 1))], oO (r 4) 2 [.ref (a 4), .int (nI (sz 1))], oO (r 5) 2 [.ref (a 5), .int (nI (sz 1))], aI D (a 3) 16 (f 3), aI D (a 4) 16 (f 4), aI D (a 5) 16 (f 5), oO (t 2) 4 [.ref (r 6), .ref (r 7), .ref (r 8)], oO (r 6) 2 [.ref (a 6), .int (nI (sz 2))], oO (r 7) 2 [.ref (a 7), .int (nI (sz 2))], oO (r 8) 2 [.ref (a 8), .int (nI (sz 2))], aI D (a 6) 16 (f 6), aI D (a 7) 16 (f 7), aI D (a 8) 16 (f 8), oO (t 3) 4 [.ref (r 9), .ref (r 10), .ref (r 11)], oO (r 9) 2 [.ref (a 9), .int (nI (sz 3))], oO (r 10) 2 [.ref (a 10), .int (nI (sz 3))], oO (r 11) 2 [.ref (a 11), .int (nI (sz 3))], aI D (a 9) 16 (f 9), aI D (a 10) 16 (f 10), aI D (a 11) 16 (f 11)]) (rV (rest := []) (qc := (RX4, TX4, 3)) [.int len] 1 0 0 hC (c_turnAround l D (t := t 0) (x := len) (r1 := r 0) (r2 := r 1) (r3 := r 2) (a1 := a 0) (sz := sz 0) (a2 := a 1) (a3 := a 2) (ft := f 0) (fv := f 1) (fe := f 2) (hz0 := H.size) (by omega)) rfl (hP 6 _ rfl) (gV mM_X0_52 mI_X4_turnAround mS_X4_turnAround mN_X4 mC_X4_turnAround) (by decide +kernel) rfl rfl ⟨Nat.le_of_ble_eq_true rfl, Nat.le_of_ble_eq_true rfl⟩ hG hP9 hD9 rfl hl.1 rfl (Nat.le_of_ble_eq_true rfl) dX0_turnAround_26 ⟨Nat.le_of_ble_eq_true rfl, Nat.le_of_ble_eq_true rfl⟩) hP hD hS hA [6, 7, 8, 9, 10, 11, 12] [0, 1, 2, 3, 4, 5, 13, 14, 15, 16, 17, 18, 19, 20, 21, 22, 23, 24, 25, 26, 27, 28, 29, 30, 31, 32, 33] rfl rfl (by decide) (by decide) (fun u26 H locs h26 hP hD hS hz hfr => ?_)
  have hP : va_P D cls [oO co 0 [.int len, .ref ta, .ref (q 0), .ref (q 1)], aT D ta 4 (tkF t), oO (q 0) 2 [.ref (b 0), .int (nI nc)], oO (q 1) 2 [.ref (b 1), .int (nI nc)], aI D (b 0) 8 ct, aI D (b 1) 8 cn, oO (t 1) 4 [.ref (r 3), .ref (r 4), .ref (r 5)], oO (r 3) 2 [.ref (a 3), .int (nI (sz 1))], oO (r 4) 2 [.ref (a 4), .int (nI (sz 1))], oO (r 5) 2 [.ref (a 5), .int (nI (sz 1))], aI D (a 3) 16 (f 3), aI D (a 4) 16 (f 4), aI D (a 5) 16 (f 5), oO (t 2) 4 [.ref (r 6), .ref (r 7), .ref (r 8)], oO (r 6) 2 [.ref (a 6), .int (nI (sz 2))], oO (r 7) 2 [.ref (a 7), .int (nI (sz 2))], oO (r 8) 2 [.ref (a 8), .int (nI (sz 2))], aI D (a 6) 16 (f 6), aI D (a 7) 16 (f 7), aI D (a 8) 16 (f 8), oO (t 3) 4 [.ref (r 9), .ref (r 10), .ref (r 11)], oO (r 9) 2 [.ref (a 9), .int (nI (sz 3))], oO (r 10) 2 [.ref (a 10), .int (nI (sz 3))], oO (r 11) 2 [.ref (a 11), .int (nI (sz 3))], aI D (a 9) 16 (f 9), aI D (a 10) 16 (f 10), aI D (a 11) 16 (f 11), oO (t 0) 4 [.ref (r 0), .ref (r 1), .ref (r 2)], oO (r 0) 2 [.ref (a 0), .int (nI (sz 0))], oO (r 1) 2 [.ref (a 1), .int (nI (sz 0))], oO (r 2) 2 [.ref (a 2), .int (nI (sz 0))], aI D (a 0) 16 (rvF (mpF (fun z => len - z) (f 0) (sz 0)) (sz 0)), aI D (a 1) 16 (rvF (f 1) (sz 0)), aI D (a 2) 16 (teF (f 2) (sz 0))] H := hP
  have hD : va_D A [oO co 0 [.int len, .ref ta, .ref (q 0), .ref (q 1)], aT D ta 4 (tkF t), oO (q 0) 2 [.ref (b 0), .int (nI nc)], oO (q 1) 2 [.ref (b 1), .int (nI nc)], aI D (b 0) 8 ct, aI D (b 1) 8 cn, oO (t 1) 4 [.ref (r 3), .ref (r 4), .ref (r 5)], oO (r 3) 2 [.ref (a 3), .int (nI (sz 1))], oO (r 4) 2 [.ref (a 4), .int (nI (sz 1))], oO (r 5) 2 [.ref (a 5), .int (nI (sz 1))], aI D (a 3) 16 (f 3), aI D (a 4) 16 (f 4), aI D (a 5) 16 (f 5), oO (t 2) 4 [.ref (r 6), .ref (r 7), .ref (r 8)], oO (r 6) 2 [.ref (a 6), .int (nI (sz 2))], oO (r 7) 2 [.ref (a 7), .int (nI (sz 2))], oO (r 8) 2 [.ref (a 8), .int (nI (sz 2))], aI D (a 6) 16 (f 6), aI D (a 7) 16 (f 7), aI D (a 8) 16 (f 8), oO (t 3) 4 [.ref (r 9), .ref (r 10), .ref (r 11)], oO (r 9) 2 [.ref (a 9), .int (nI (sz 3))], oO (r 10) 2 [.ref (a 10), .int (nI (sz 3))], oO (r 11) 2 [.ref (a 11), .int (nI (sz 3))], aI D (a 9) 16 (f 9), aI D (a 10) 16 (f 10), aI D (a 11) 16 (f 11), oO (t 0) 4 [.ref (r 0), .ref (r 1), .ref (r 2)], oO (r 0) 2 [.ref (a 0), .int (nI (sz 0))], oO (r 1) 2 [.ref (a 1), .int (nI (sz 0))], oO (r 2) 2 [.ref (a 2), .int (nI (sz 0))], aI D (a 0) 16 (rvF (mpF (fun z => len - z) (f 0) (sz 0)) (sz 0)), aI D (a 1) 16 (rvF (f 1) (sz 0)), aI D (a 2) 16 (teF (f 2) (sz 0))] := hD
  refine lv_iinc (v := 1) (lv' := [(3, .int 1), (4, .ref (t 0)), (2, .int (nI 4)), (1, .ref ta), (0, .ref co)]) hx hb dX0_turnAround_29 hl (k := 1) rfl (by decide) (by decide) rfl (fun ls hl => ?_)
  refine lv_goto (tgt := 10) hx hb dX0_turnAround_32 (by decide) ?_
  refine lv_iload_n hx hb dX0_turnAround_10 rfl (lv_at hl 0 rfl) ?_
  refine lv_iload_n hx hb dX0_turnAround_11 rfl (lv_at hl 2 rfl) ?_
  refine lv_icmp_ge (tgt := 35) hx hb dX0_turnAround_12 (by decide) (fun h9 => absurd h9 (by decide)) (fun _ => ?_)
  refine lv_aload_n hx hb dX0_turnAround_15 rfl (lv_at hl 3 rfl) ?_
  refine lv_iload_n hx hb dX0_turnAround_16 rfl (lv_at hl 0 rfl) ?_
  refine ald (n := 4) (j := 1) hx hb hG hP 1 3 rfl rfl (by omega) (by omega) dX0_turnAround_17 ?_
  refine tpv (y := .ref (t 1)) (tkF_ref (by omega)) ?_
  refine lv_astore (lv' := [(4, .ref (t 1)), (3, .int 1), (2, .int (nI 4)), (1, .ref ta), (0, .ref co)]) hx hb dX0_turnAround_18 hl (by decide) rfl (fun ls hl => ?_)
  refine lv_aload hx hb dX0_turnAround_20 (lv_at hl 0 rfl) ?_
  refine lv_aload_n hx hb dX0_turnAround_22 rfl (lv_at hl 4 rfl) ?_
  refine va_get (D := D) (ci := 0) (v := .int len) (C := RX0) (T := TX0) (N := 4) hx hb hts inlX0 hown hG.K hP 0 rfl rfl 0 (by decide) (hts _ mF_X0_23) (fun _ h9 => h9) rfl dX0_turnAround_23 ?_
  have hP9 := hP.sub (ws' := [oO (t 1) 4 [.ref (r 3), .ref (r 4), .ref (r 5)], oO (r 3) 2 [.ref (a 3), .int (nI (sz 1))], oO (r 4) 2 [.ref (a 4), .int (nI (sz 1))], oO (r 5) 2 [.ref (a 5), .int (nI (sz 1))], aI D (a 3) 16 (f 3), aI D (a 4) 16 (f 4), aI D (a 5) 16 (f 5)]) [6, 7, 8, 9, 10, 11, 12] rfl
  have hD9 := (hD.sub (ws' := [oO (t 1) 4 [.ref (r 3), .ref (r 4), .ref (r 5)], oO (r 3) 2 [.ref (a 3), .int (nI (sz 1))], oO (r 4) 2 [.ref (a 4), .int (nI (sz 1))], oO (r 5) 2 [.ref (a 5), .int (nI (sz 1))], aI D (a 3) 16 (f 3), aI D (a 4) 16 (f 4), aI D (a 5) 16 (f 5)]) [6, 7, 8, 9, 10, 11, 12] (by decide) rfl).weaken (B := fun _ => True) (fun _ _ _ _ => trivial)
  refine kv (wr := [oO co 0 [.int len, .ref ta, .ref (q 0), .ref (q 1)], aT D ta 4 (tkF t), oO (q 0) 2 [.ref (b 0), .int (nI nc)], oO (q 1) 2 [.ref (b 1), .int (nI nc)], aI D (b 0) 8 ct, aI D (b 1) 8 cn, oO (t 2) 4 [.ref (r 6), .ref (r 7), .ref (r 8)], oO (r 6) 2 [.ref (a 6), .int (nI (sz 2))], oO (r 7) 2 [.ref (a 7), .int (nI (sz 2))], oO (r 8) 2 [.ref (a 8), .int (nI (sz 2))], aI D (a 6) 16 (f 6), aI D (a 7) 16 (f 7), aI D (a 8) 16 (f 8), oO (t 3) 4 [.ref (r 9), .ref (r 10), .ref (r 11)], oO (r 9) 2 [.ref (a 9), .int (nI (sz 3))], oO (r 10) 2 [.ref (a 10), .int (nI (sz 3))], oO (r 11) 2 [.ref (a 11), .int (nI (sz 3))], aI D (a 9) 16 (f 9), aI D (a 10) 16 (f 10), aI D (a 11) 16 (f 11), oO (t 0) 4 [.ref (r 0), .ref (r 1), .ref (r 2)], oO (r 0) 2 [.ref (a 0), .int (nI (sz 0))], oO (r 1) 2 [.ref (a 1), .int (nI (sz 0))], oO (r 2) 2 [.ref (a 2), .int (nI (sz 0))], aI D (a 0) 16 (rvF (mpF (fun z => len - z) (f 0) (sz 0)) (sz 0)), aI D (a 1) 16 (rvF (f 1) (sz 0)), aI D (a 2) 16 (teF (f 2) (sz 0))]) (rV (rest := []) (qc := (RX4, TX4, 3)) [.int len] 1 0 0 hC (c_turnAround l D (t := t 1) (x := len) (r1 := r 3) (r2 := r 4) (r3 := r 5) (a1 := a 3) (sz := sz 1) (a2 := a 4) (a3 := a 5) (ft := f 3) (fv := f 4) (fe := f 5) (hz0 := H.size) (by omega)) rfl (hP 6 _ rfl) (gV mM_X0_52 mI_X4_turnAround mS_X4_turnAround mN_X4 mC_X4_turnAround) (by decide +kernel) rfl rfl ⟨Nat.le_of_ble_eq_true rfl, Nat.le_of_ble_eq_true rfl⟩ hG hP9 hD9 rfl hl.1 rfl (Nat.le_of_ble_eq_true rfl) dX0_turnAround_26 ⟨Nat.le_of_ble_eq_true rfl, Nat.le_of_ble_eq_true rfl⟩) hP hD hS hA [6, 7, 8, 9, 10, 11, 12] [0, 1, 2, 3, 4, 5, 13, 14, 15, 16, 17, 18, 19, 20, 21, 22, 23, 24, 25, 26, 27, 28, 29, 30, 31, 32, 33] rfl rfl (by decide) (by decide) (fun u26 H locs h26 hP hD hS hz hfr => ?_)
  have hP : va_P D cls [oO co 0 [.int len, .ref ta, .ref (q 0), .ref (q 1)], aT D ta 4 (tkF t), oO (q 0) 2 [.ref (b 0), .int (nI nc)], oO (q 1) 2 [.ref (b 1), .int (nI nc)], aI D (b 0) 8 ct, aI D (b 1) 8 cn, oO (t 2) 4 [.ref (r 6), .ref (r 7), .ref (r 8)], oO (r 6) 2 [.ref (a 6), .int (nI (sz 2))], oO (r 7) 2 [.ref (a 7), .int (nI (sz 2))], oO (r 8) 2 [.ref (a 8), .int (nI (sz 2))], aI D (a 6) 16 (f 6), aI D (a 7) 16 (f 7), aI D (a 8) 16 (f 8), oO (t 3) 4 [.ref (r 9), .ref (r 10), .ref (r 11)], oO (r 9) 2 [.ref (a 9), .int (nI (sz 3))], oO (r 10) 2 [.ref (a 10), .int (nI (sz 3))], oO (r 11) 2 [.ref (a 11), .int (nI (sz 3))], aI D (a 9) 16 (f 9), aI D (a 10) 16 (f 10), aI D (a 11) 16 (f 11), oO (t 0) 4 [.ref (r 0), .ref (r 1), .ref (r 2)], oO (r 0) 2 [.ref (a 0), .int (nI (sz 0))], oO (r 1) 2 [.ref (a 1), .int (nI (sz 0))], oO (r 2) 2 [.ref (a 2), .int (nI (sz 0))], aI D (a 0) 16 (rvF (mpF (fun z => len - z) (f 0) (sz 0)) (sz 0)), aI D (a 1) 16 (rvF (f 1) (sz 0)), aI D (a 2) 16 (teF (f 2) (sz 0)), oO (t 1) 4 [.ref (r 3), .ref (r 4), .ref (r 5)], oO (r 3) 2 [.ref (a 3), .int (nI (sz 1))], oO (r 4) 2 [.ref (a 4), .int (nI (sz 1))], oO (r 5) 2 [.ref (a 5), .int (nI (sz 1))], aI D (a 3) 16 (rvF (mpF (fun z => len - z) (f 3) (sz 1)) (sz 1)), aI D (a 4) 16 (rvF (f 4) (sz 1)), aI D (a 5) 16 (teF (f 5) (sz 1))] H := hP
  have hD : va_D A [oO co 0 [.int len, .ref ta, .ref (q 0), .ref (q 1)], aT D ta 4 (tkF t), oO (q 0) 2 [.ref (b 0), .int (nI nc)], oO (q 1) 2 [.ref (b 1), .int (nI nc)], aI D (b 0) 8 ct, aI D (b 1) 8 cn, oO (t 2) 4 [.ref (r 6), .ref (r 7), .ref (r 8)], oO (r 6) 2 [.ref (a 6), .int (nI (sz 2))], oO (r 7) 2 [.ref (a 7), .int (nI (sz 2))], oO (r 8) 2 [.ref (a 8), .int (nI (sz 2))], aI D (a 6) 16 (f 6), aI D (a 7) 16 (f 7), aI D (a 8) 16 (f 8), oO (t 3) 4 [.ref (r 9), .ref (r 10), .ref (r 11)], oO (r 9) 2 [.ref (a 9), .int (nI (sz 3))], oO (r 10) 2 [.ref (a 10), .int (nI (sz 3))], oO (r 11) 2 [.ref (a 11), .int (nI (sz 3))], aI D (a 9) 16 (f 9), aI D (a 10) 16 (f 10), aI D (a 11) 16 (f 11), oO (t 0) 4 [.ref (r 0), .ref (r 1), .ref (r 2)], oO (r 0) 2 [.ref (a 0), .int (nI (sz 0))], oO (r 1) 2 [.ref (a 1), .int (nI (sz 0))], oO (r 2) 2 [.ref (a 2), .int (nI (sz 0))], aI D (a 0) 16 (rvF (mpF (fun z => len - z) (f 0) (sz 0)) (sz 0)), aI D (a 1) 16 (rvF (f 1) (sz 0)), aI D (a 2) 16 (teF (f 2) (sz 0)), oO (t 1) 4 [.ref (r 3), .ref (r 4), .ref (r 5)], oO (r 3) 2 [.ref (a 3), .int (nI (sz 1))], oO (r 4) 2 [.ref (a 4), .int (nI (sz 1))], oO (r 5) 2 [.ref (a 5), .int (nI (sz 1))], aI D (a 3) 16 (rvF (mpF (fun z => len - z) (f 3) (sz 1)) (sz 1)), aI D (a 4) 16 (rvF (f 4) (sz 1)), aI D (a 5) 16 (teF (f 5) (sz 1))] := hD
  refine lv_iinc (v := 2) (lv' := [(3, .int 2), (4, .ref (t 1)), (2, .int (nI 4)), (1, .ref ta), (0, .ref co)]) hx hb dX0_turnAround_29 hl (k := 1) rfl (by decide) (by decide) rfl (fun ls hl => ?_)
  refine lv_goto (tgt := 10) hx hb dX0_turnAround_32 (by decide) ?_
  refine lv_iload_n hx hb dX0_turnAround_10 rfl (lv_at hl 0 rfl) ?_
  refine lv_iload_n hx hb dX0_turnAround_11 rfl (lv_at hl 2 rfl) ?_
  refine lv_icmp_ge (tgt := 35) hx hb dX0_turnAround_12 (by decide) (fun h9 => absurd h9 (by decide)) (fun _ => ?_)
  refine lv_aload_n hx hb dX0_turnAround_15 rfl (lv_at hl 3 rfl) ?_
  refine lv_iload_n hx hb dX0_turnAround_16 rfl (lv_at hl 0 rfl) ?_
  refine ald (n := 4) (j := 2) hx hb hG hP 1 3 rfl rfl (by omega) (by omega) dX0_turnAround_17 ?_
  refine tpv (y := .ref (t 2)) (tkF_ref (by omega)) ?_
  refine lv_astore (lv' := [(4, .ref (t 2)), (3, .int 2), (2, .int (nI 4)), (1, .ref ta), (0, .ref co)]) hx hb dX0_turnAround_18 hl (by decide) rfl (fun ls hl => ?_)
  refine lv_aload hx hb dX0_turnAround_20 (lv_at hl 0 rfl) ?_
  refine lv_aload_n hx hb dX0_turnAround_22 rfl (lv_at hl 4 rfl) ?_
  refine va_get (D := D) (ci := 0) (v := .int len) (C := RX0) (T := TX0) (N := 4) hx hb hts inlX0 hown hG.K hP 0 rfl rfl 0 (by decide) (hts _ mF_X0_23) (fun _ h9 => h9) rfl dX0_turnAround_23 ?_
  have hP9 := hP.sub (ws' := [oO (t 2) 4 [.ref (r 6), .ref (r 7), .ref (r 8)], oO (r 6) 2 [.ref (a 6), .int (nI (sz 2))], oO (r 7) 2 [.ref (a 7), .int (nI (sz 2))], oO (r 8) 2 [.ref (a 8), .int (nI (sz 2))], aI D (a 6) 16 (f 6), aI D (a 7) 16 (f 7), aI D (a 8) 16 (f 8)]) [6, 7, 8, 9, 10, 11, 12] rfl
  have hD9 := (hD.sub (ws' := [oO (t 2) 4 [.ref (r 6), .ref (r 7), .ref (r 8)], oO (r 6) 2 [.ref (a 6), .int (nI (sz 2))], oO (r 7) 2 [.ref (a 7), .int (nI (sz 2))], oO (r 8) 2 [.ref (a 8), .int (nI (sz 2))], aI D (a 6) 16 (f 6), aI D (a 7) 16 (f 7), aI D (a 8) 16 (f 8)]) [6, 7, 8, 9, 10, 11, 12] (by decide) rfl).weaken (B := fun _ => True) (fun _ _ _ _ => trivial)
  refine kv (wr := [oO co 0 [.int len, .ref ta, .ref (q 0), .ref (q 1)], aT D ta 4 (tkF t), oO (q 0) 2 [.ref (b 0), .int (nI nc)], oO (q 1) 2 [.ref (b 1), .int (nI nc)], aI D (b 0) 8 ct, aI D (b 1) 8 cn, oO (t 3) 4 [.ref (r 9), .ref (r 10), .ref (r 11)], oO (r 9) 2 [.ref (a 9), .int (nI (sz 3))], oO (r 10) 2 [.ref (a 10), .int (nI (sz 3))], oO (r 11) 2 [.ref (a 11), .int (nI (sz 3))], aI D (a 9) 16 (f 9), aI D (a 10) 16 (f 10), aI D (a 11) 16 (f 11), oO (t 0) 4 [.ref (r 0), .ref (r 1), .ref (r 2)], oO (r 0) 2 [.ref (a 0), .int (nI (sz 0))], oO (r 1) 2 [.ref (a 1), .int (nI (sz 0))], oO (r 2) 2 [.ref (a 2), .int (nI (sz 0))], aI D (a 0) 16 (rvF (mpF (fun z => len - z) (f 0) (sz 0)) (sz 0)), aI D (a 1) 16 (rvF (f 1) (sz 0)), aI D (a 2) 16 (teF (f 2) (sz 0)), oO (t 1) 4 [.ref (r 3), .ref (r 4), .ref (r 5)], oO (r 3) 2 [.ref (a 3), .int (nI (sz 1))], oO (r 4) 2 [.ref (a 4), .int (nI (sz 1))], oO (r 5) 2 [.ref (a 5), .int (nI (sz 1))], aI D (a 3) 16 (rvF (mpF (fun z => len - z) (f 3) (sz 1)) (sz 1)), aI D (a 4) 16 (rvF (f 4) (sz 1)), aI D (a 5) 16 (teF (f 5) (sz 1))]) (rV (rest := []) (qc := (RX4, TX4, 3)) [.int len] 1 0 0 hC (c_turnAround l D (t := t 2) (x := len) (r1 := r 6) (r2 := r 7) (r3 := r 8) (a1 := a 6) (sz := sz 2) (a2 := a 7) (a3 := a 8) (ft := f 6) (fv := f 7) (fe := f 8) (hz0 := H.size) (by omega)) rfl (hP 6 _ rfl) (gV mM_X0_52 mI_X4_turnAround mS_X4_turnAround mN_X4 mC_X4_turnAround) (by decide +kernel) rfl rfl ⟨Nat.le_of_ble_eq_true rfl, Nat.le_of_ble_eq_true rfl⟩ hG hP9 hD9 rfl hl.1 rfl (Nat.le_of_ble_eq_true rfl) dX0_turnAround_26 ⟨Nat.le_of_ble_eq_true rfl, Nat.le_of_ble_eq_true rfl⟩) hP hD hS hA [6, 7, 8, 9, 10, 11, 12] [0, 1, 2, 3, 4, 5, 13, 14, 15, 16, 17, 18, 19, 20, 21, 22, 23, 24, 25, 26, 27, 28, 29, 30, 31, 32, 33] rfl rfl (by decide) (by decide) (fun u26 H locs h26 hP hD hS hz hfr => ?_)
  have hP : va_P D cls [oO co 0 [.int len, .ref ta, .ref (q 0), .ref (q 1)], aT D ta 4 (tkF t), oO (q 0) 2 [.ref (b 0), .int (nI nc)], oO (q 1) 2 [.ref (b 1), .int (nI nc)], aI D (b 0) 8 ct, aI D (b 1) 8 cn, oO (t 3) 4 [.ref (r 9), .ref (r 10), .ref (r 11)], oO (r 9) 2 [.ref (a 9), .int (nI (sz 3))], oO (r 10) 2 [.ref (a 10), .int (nI (sz 3))], oO (r 11) 2 [.ref (a 11), .int (nI (sz 3))], aI D (a 9) 16 (f 9), aI D (a 10) 16 (f 10), aI D (a 11) 16 (f 11), oO (t 0) 4 [.ref (r 0), .ref (r 1), .ref (r 2)], oO (r 0) 2 [.ref (a 0), .int (nI (sz 0))], oO (r 1) 2 [.ref (a 1), .int (nI (sz 0))], oO (r 2) 2 [.ref (a 2), .int (nI (sz 0))], aI D (a 0) 16 (rvF (mpF (fun z => len - z) (f 0) (sz 0)) (sz 0)), aI D (a 1) 16 (rvF (f 1) (sz 0)), aI D (a 2) 16 (teF (f 2) (sz 0)), oO (t 1) 4 [.ref (r 3), .ref (r 4), .ref (r 5)], oO (r 3) 2 [.ref (a 3), .int (nI (sz 1))], oO (r 4) 2 [.ref (a 4), .int (nI (sz 1))], oO (r 5) 2 [.ref (a 5), .int (nI (sz 1))], aI D (a 3) 16 (rvF (mpF (fun z => len - z) (f 3) (sz 1)) (sz 1)), aI D (a 4) 16 (rvF (f 4) (sz 1)), aI D (a 5) 16 (teF (f 5) (sz 1)), oO (t 2) 4 [.ref (r 6), .ref (r 7), .ref (r 8)], oO (r 6) 2 [.ref (a 6), .int (nI (sz 2))], oO (r 7) 2 [.ref (a 7), .int (nI (sz 2))], oO (r 8) 2 [.ref (a 8), .int (nI (sz 2))], aI D (a 6) 16 (rvF (mpF (fun z => len - z) (f 6) (sz 2)) (sz 2)), aI D (a 7) 16 (rvF (f 7) (sz 2)), aI D (a 8) 16 (teF (f 8) (sz 2))] H := hP
  have hD : va_D A [oO co 0 [.int len, .ref ta, .ref (q 0), .ref (q 1)], aT D ta 4 (tkF t), oO (q 0) 2 [.ref (b 0), .int (nI nc)], oO (q 1) 2 [.ref (b 1), .int (nI nc)], aI D (b 0) 8 ct, aI D (b 1) 8 cn, oO (t 3) 4 [.ref (r 9), .ref (r 10), .ref (r 11)], oO (r 9) 2 [.ref (a 9), .int (nI (sz 3))], oO (r 10) 2 [.ref (a 10), .int (nI (sz 3))], oO (r 11) 2 [.ref (a 11), .int (nI (sz 3))], aI D (a 9) 16 (f 9), aI D (a 10) 16 (f 10), aI D (a 11) 16 (f 11), oO (t 0) 4 [.ref (r 0), .ref (r 1), .ref (r 2)], oO (r 0) 2 [.ref (a 0), .int (nI (sz 0))], oO (r 1) 2 [.ref (a 1), .int (nI (sz 0))], oO (r 2) 2 [.ref (a 2), .int (nI (sz 0))], aI D (a 0) 16 (rvF (mpF (fun z => len - z) (f 0) (sz 0)) (sz 0)), aI D (a 1) 16 (rvF (f 1) (sz 0)), aI D (a 2) 16 (teF (f 2) (sz 0)), oO (t 1) 4 [.ref (r 3), .ref (r 4), .ref (r 5)], oO (r 3) 2 [.ref (a 3), .int (nI (sz 1))], oO (r 4) 2 [.ref (a 4), .int (nI (sz 1))], oO (r 5) 2 [.ref (a 5), .int (nI (sz 1))], aI D (a 3) 16 (rvF (mpF (fun z => len - z) (f 3) (sz 1)) (sz 1)), aI D (a 4) 16 (rvF (f 4) (sz 1)), aI D (a 5) 16 (teF (f 5) (sz 1)), oO (t 2) 4 [.ref (r 6), .ref (r 7), .ref (r 8)], oO (r 6) 2 [.ref (a 6), .int (nI (sz 2))], oO (r 7) 2 [.ref (a 7), .int (nI (sz 2))], oO (r 8) 2 [.ref (a 8), .int (nI (sz 2))], aI D (a 6) 16 (rvF (mpF (fun z => len - z) (f 6) (sz 2)) (sz 2)), aI D (a 7) 16 (rvF (f 7) (sz 2)), aI D (a 8) 16 (teF (f 8) (sz 2))] := hD
  refine lv_iinc (v := 3) (lv' := [(3, .int 3), (4, .ref (t 2)), (2, .int (nI 4)), (1, .ref ta), (0, .ref co)]) hx hb dX0_turnAround_29 hl (k := 1) rfl (by decide) (by decide) rfl (fun ls hl => ?_)
  refine lv_goto (tgt := 10) hx hb dX0_turnAround_32 (by decide) ?_
  refine lv_iload_n hx hb dX0_turnAround_10 rfl (lv_at hl 0 rfl) ?_
  refine lv_iload_n hx hb dX0_turnAround_11 rfl (lv_at hl 2 rfl) ?_
  refine lv_icmp_ge (tgt := 35) hx hb dX0_turnAround_12 (by decide) (fun h9 => absurd h9 (by decide)) (fun _ => ?_)
  refine lv_aload_n hx hb dX0_turnAround_15 rfl (lv_at hl 3 rfl) ?_
  refine lv_iload_n hx hb dX0_turnAround_16 rfl (lv_at hl 0 rfl) ?_
  refine ald (n := 4) (j := 3) hx hb hG hP 1 3 rfl rfl (by omega) (by omega) dX0_turnAround_17 ?_
  refine tpv (y := .ref (t 3)) (tkF_ref (by omega)) ?_
  refine lv_astore (lv' := [(4, .ref (t 3)), (3, .int 3), (2, .int (nI 4)), (1, .ref ta), (0, .ref co)]) hx hb dX0_turnAround_18 hl (by decide) rfl (fun ls hl => ?_)
  refine lv_aload hx hb dX0_turnAround_20 (lv_at hl 0 rfl) ?_
  refine lv_aload_n hx hb dX0_turnAround_22 rfl (lv_at hl 4 rfl) ?_
  refine va_get (D := D) (ci := 0) (v := .int len) (C := RX0) (T := TX0) (N := 4) hx hb hts inlX0 hown hG.K hP 0 rfl rfl 0 (by decide) (hts _ mF_X0_23) (fun _ h9 => h9) rfl dX0_turnAround_23 ?_
  have hP9 := hP.sub (ws' := [oO (t 3) 4 [.ref (r 9), .ref (r 10), .ref (r 11)], oO (r 9) 2 [.ref (a 9), .int (nI (sz 3))], oO (r 10) 2 [.ref (a 10), .int (nI (sz 3))], oO (r 11) 2 [.ref (a 11), .int (nI (sz 3))], aI D (a 9) 16 (f 9), aI D (a 10) 16 (f 10), aI D (a 11) 16 (f 11)]) [6, 7, 8, 9, 10, 11, 12] rfl
  have hD9 := (hD.sub (ws' := [oO (t 3) 4 [.ref (r 9), .ref (r 10), .ref (r 11)], oO (r 9) 2 [.ref (a 9), .int (nI (sz 3))], oO (r 10) 2 [.ref (a 10), .int (nI (sz 3))], oO (r 11) 2 [.ref (a 11), .int (nI (sz 3))], aI D (a 9) 16 (f 9), aI D (a 10) 16 (f 10), aI D (a 11) 16 (f 11)]) [6, 7, 8, 9, 10, 11, 12] (by decide) rfl).weaken (B := fun _ => True) (fun _ _ _ _ => trivial)
  refine kv (wr := [oO co 0 [.int len, .ref ta, .ref (q 0), .ref (q 1)], aT D ta 4 (tkF t), oO (q 0) 2 [.ref (b 0), .int (nI nc)], oO (q 1) 2 [.ref (b 1), .int (nI nc)], aI D (b 0) 8 ct, aI D (b 1) 8 cn, oO (t 0) 4 [.ref (r 0), .ref (r 1), .ref (r 2)], oO (r 0) 2 [.ref (a 0), .int (nI (sz 0))], oO (r 1) 2 [.ref (a 1), .int (nI (sz 0))], oO (r 2) 2 [.ref (a 2), .int (nI (sz 0))], aI D (a 0) 16 (rvF (mpF (fun z => len - z) (f 0) (sz 0)) (sz 0)), aI D (a 1) 16 (rvF (f 1) (sz 0)), aI D (a 2) 16 (teF (f 2) (sz 0)), oO (t 1) 4 [.ref (r 3), .ref (r 4), .ref (r 5)], oO (r 3) 2 [.ref (a 3), .int (nI (sz 1))], oO (r 4) 2 [.ref (a 4), .int (nI (sz 1))], oO (r 5) 2 [.ref (a 5), .int (nI (sz 1))], aI D (a 3) 16 (rvF (mpF (fun z => len - z) (f 3) (sz 1)) (sz 1)), aI D (a 4) 16 (rvF (f 4) (sz 1)), aI D (a 5) 16 (teF (f 5) (sz 1)), oO (t 2) 4 [.ref (r 6), .ref (r 7), .ref (r 8)], oO (r 6) 2 [.ref (a 6), .int (nI (sz 2))], oO (r 7) 2 [.ref (a 7), .int (nI (sz 2))], oO (r 8) 2 [.ref (a 8), .int (nI (sz 2))], aI D (a 6) 16 (rvF (mpF (fun z => len - z) (f 6) (sz 2)) (sz 2)), aI D (a 7) 16 (rvF (f 7) (sz 2)), aI D (a 8) 16 (teF (f 8) (sz 2))]) (rV (rest := []) (qc := (RX4, TX4, 3)) [.int len] 1 0 0 hC (c_turnAround l D (t := t 3) (x := len) (r1 := r 9) (r2 := r 10) (r3 := r 11) (a1 := a 9) (sz := sz 3) (a2 := a 10) (a3 := a 11) (ft := f 9) (fv := f 10) (fe := f 11) (hz0 := H.size) (by omega)) rfl (hP 6 _ rfl) (gV mM_X0_52 mI_X4_turnAround mS_X4_turnAround mN_X4 mC_X4_turnAround) (by decide +kernel) rfl rfl ⟨Nat.le_of_ble_eq_true rfl, Nat.le_of_ble_eq_true rfl⟩ hG hP9 hD9 rfl hl.1 rfl (Nat.le_of_ble_eq_true rfl) dX0_turnAround_26 ⟨Nat.le_of_ble_eq_true rfl, Nat.le_of_ble_eq_true rfl⟩) hP hD hS hA [6, 7, 8, 9, 10, 11, 12] [0, 1, 2, 3, 4, 5, 13, 14, 15, 16, 17, 18, 19, 20, 21, 22, 23, 24, 25, 26, 27, 28, 29, 30, 31, 32, 33] rfl rfl (by decide) (by decide) (fun u26 H locs h26 hP hD hS hz hfr => ?_)
  have hP : va_P D cls [oO co 0 [.int len, .ref ta, .ref (q 0), .ref (q 1)], aT D ta 4 (tkF t), oO (q 0) 2 [.ref (b 0), .int (nI nc)], oO (q 1) 2 [.ref (b 1), .int (nI nc)], aI D (b 0) 8 ct, aI D (b 1) 8 cn, oO (t 0) 4 [.ref (r 0), .ref (r 1), .ref (r 2)], oO (r 0) 2 [.ref (a 0), .int (nI (sz 0))], oO (r 1) 2 [.ref (a 1), .int (nI (sz 0))], oO (r 2) 2 [.ref (a 2), .int (nI (sz 0))], aI D (a 0) 16 (rvF (mpF (fun z => len - z) (f 0) (sz 0)) (sz 0)), aI D (a 1) 16 (rvF (f 1) (sz 0)), aI D (a 2) 16 (teF (f 2) (sz 0)), oO (t 1) 4 [.ref (r 3), .ref (r 4), .ref (r 5)], oO (r 3) 2 [.ref (a 3), .int (nI (sz 1))], oO (r 4) 2 [.ref (a 4), .int (nI (sz 1))], oO (r 5) 2 [.ref (a 5), .int (nI (sz 1))], aI D (a 3) 16 (rvF (mpF (fun z => len - z) (f 3) (sz 1)) (sz 1)), aI D (a 4) 16 (rvF (f 4) (sz 1)), aI D (a 5) 16 (teF (f 5) (sz 1)), oO (t 2) 4 [.ref (r 6), .ref (r 7), .ref (r 8)], oO (r 6) 2 [.ref (a 6), .int (nI (sz 2))], oO (r 7) 2 [.ref (a 7), .int (nI (sz 2))], oO (r 8) 2 [.ref (a 8), .int (nI (sz 2))], aI D (a 6) 16 (rvF (mpF (fun z => len - z) (f 6) (sz 2)) (sz 2)), aI D (a 7) 16 (rvF (f 7) (sz 2)), aI D (a 8) 16 (teF (f 8) (sz 2)), oO (t 3) 4 [.ref (r 9), .ref (r 10), .ref (r 11)], oO (r 9) 2 [.ref (a 9), .int (nI (sz 3))], oO (r 10) 2 [.ref (a 10), .int (nI (sz 3))], oO (r 11) 2 [.ref (a 11), .int (nI (sz 3))], aI D (a 9) 16 (rvF (mpF (fun z => len - z) (f 9) (sz 3)) (sz 3)), aI D (a 10) 16 (rvF (f 10) (sz 3)), aI D (a 11) 16 (teF (f 11) (sz 3))] H := hP
  have hD : va_D A [oO co 0 [.int len, .ref ta, .ref (q 0), .ref (q 1)], aT D ta 4 (tkF t), oO (q 0) 2 [.ref (b 0), .int (nI nc)], oO (q 1) 2 [.ref (b 1), .int (nI nc)], aI D (b 0) 8 ct, aI D (b 1) 8 cn, oO (t 0) 4 [.ref (r 0), .ref (r 1), .ref (r 2)], oO (r 0) 2 [.ref (a 0), .int (nI (sz 0))], oO (r 1) 2 [.ref (a 1), .int (nI (sz 0))], oO (r 2) 2 [.ref (a 2), .int (nI (sz 0))], aI D (a 0) 16 (rvF (mpF (fun z => len - z) (f 0) (sz 0)) (sz 0)), aI D (a 1) 16 (rvF (f 1) (sz 0)), aI D (a 2) 16 (teF (f 2) (sz 0)), oO (t 1) 4 [.ref (r 3), .ref (r 4), .ref (r 5)], oO (r 3) 2 [.ref (a 3), .int (nI (sz 1))], oO (r 4) 2 [.ref (a 4), .int (nI (sz 1))], oO (r 5) 2 [.ref (a 5), .int (nI (sz 1))], aI D (a 3) 16 (rvF (mpF (fun z => len - z) (f 3) (sz 1)) (sz 1)), aI D (a 4) 16 (rvF (f 4) (sz 1)), aI D (a 5) 16 (teF (f 5) (sz 1)), oO (t 2) 4 [.ref (r 6), .ref (r 7), .ref (r 8)], oO (r 6) 2 [.ref (a 6), .int (nI (sz 2))], oO (r 7) 2 [.ref (a 7), .int (nI (sz 2))], oO (r 8) 2 [.ref (a 8), .int (nI (sz 2))], aI D (a 6) 16 (rvF (mpF (fun z => len - z) (f 6) (sz 2)) (sz 2)), aI D (a 7) 16 (rvF (f 7) (sz 2)), aI D (a 8) 16 (teF (f 8) (sz 2)), oO (t 3) 4 [.ref (r 9), .ref (r 10), .ref (r 11)], oO (r 9) 2 [.ref (a 9), .int (nI (sz 3))], oO (r 10) 2 [.ref (a 10), .int (nI (sz 3))], oO (r 11) 2 [.ref (a 11), .int (nI (sz 3))], aI D (a 9) 16 (rvF (mpF (fun z => len - z) (f 9) (sz 3)) (sz 3)), aI D (a 10) 16 (rvF (f 10) (sz 3)), aI D (a 11) 16 (teF (f 11) (sz 3))] := hD
  refine lv_iinc (v := 4) (lv' := [(3, .int 4), (4, .ref (t 3)), (2, .int (nI 4)), (1, .ref ta), (0, .ref co)]) hx hb dX0_turnAround_29 hl (k := 1) rfl (by decide) (by decide) rfl (fun ls hl => ?_)
  refine lv_goto (tgt := 10) hx hb dX0_turnAround_32 (by decide) ?_
  refine lv_iload_n hx hb dX0_turnAround_10 rfl (lv_at hl 0 rfl) ?_
  refine lv_iload_n hx hb dX0_turnAround_11 rfl (lv_at hl 2 rfl) ?_
  refine lv_icmp_ge (tgt := 35) hx hb dX0_turnAround_12 (by decide) (fun _ => ?_) (fun h9 => (h9 (by decide)).elim)
  refine lv_aload_n hx hb dX0_turnAround_35 rfl (lv_at hl 4 rfl) ?_
  refine va_get (D := D) (ci := 0) (v := .ref (q 0)) (C := RX0) (T := TX0) (N := 4) hx hb hts inlX0 hown hG.K hP 0 rfl rfl 2 (by decide) (hts _ mF_X0_14) (fun _ h9 => h9) rfl dX0_turnAround_36 ?_
  refine lv_aload_n hx hb dX0_turnAround_39 rfl (lv_at hl 4 rfl) ?_
  refine va_get (D := D) (ci := 0) (v := .int len) (C := RX0) (T := TX0) (N := 4) hx hb hts inlX0 hown hG.K hP 0 rfl rfl 0 (by decide) (hts _ mF_X0_23) (fun _ h9 => h9) rfl dX0_turnAround_40 ?_
  have hP9 := hP.sub (ws' := [oO (q 0) 2 [.ref (b 0), .int (nI nc)], aI D (b 0) 8 ct]) [2, 4] rfl
  have hD9 := (hD.sub (ws' := [oO (q 0) 2 [.ref (b 0), .int (nI nc)], aI D (b 0) 8 ct]) [2, 4] (by decide) rfl).weaken (B := fun _ => True) (fun _ _ _ _ => trivial)
  refine kv (wr := [oO co 0 [.int len, .ref ta, .ref (q 0), .ref (q 1)], aT D ta 4 (tkF t), oO (q 1) 2 [.ref (b 1), .int (nI nc)], aI D (b 1) 8 cn, oO (t 0) 4 [.ref (r 0), .ref (r 1), .ref (r 2)], oO (r 0) 2 [.ref (a 0), .int (nI (sz 0))], oO (r 1) 2 [.ref (a 1), .int (nI (sz 0))], oO (r 2) 2 [.ref (a 2), .int (nI (sz 0))], aI D (a 0) 16 (rvF (mpF (fun z => len - z) (f 0) (sz 0)) (sz 0)), aI D (a 1) 16 (rvF (f 1) (sz 0)), aI D (a 2) 16 (teF (f 2) (sz 0)), oO (t 1) 4 [.ref (r 3), .ref (r 4), .ref (r 5)], oO (r 3) 2 [.ref (a 3), .int (nI (sz 1))], oO (r 4) 2 [.ref (a 4), .int (nI (sz 1))], oO (r 5) 2 [.ref (a 5), .int (nI (sz 1))], aI D (a 3) 16 (rvF (mpF (fun z => len - z) (f 3) (sz 1)) (sz 1)), aI D (a 4) 16 (rvF (f 4) (sz 1)), aI D (a 5) 16 (teF (f 5) (sz 1)), oO (t 2) 4 [.ref (r 6), .ref (r 7), .ref (r 8)], oO (r 6) 2 [.ref (a 6), .int (nI (sz 2))], oO (r 7) 2 [.ref (a 7), .int (nI (sz 2))], oO (r 8) 2 [.ref (a 8), .int (nI (sz 2))], aI D (a 6) 16 (rvF (mpF (fun z => len - z) (f 6) (sz 2)) (sz 2)), aI D (a 7) 16 (rvF (f 7) (sz 2)), aI D (a 8) 16 (teF (f 8) (sz 2)), oO (t 3) 4 [.ref (r 9), .ref (r 10), .ref (r 11)], oO (r 9) 2 [.ref (a 9), .int (nI (sz 3))], oO (r 10) 2 [.ref (a 10), .int (nI (sz 3))], oO (r 11) 2 [.ref (a 11), .int (nI (sz 3))], aI D (a 9) 16 (rvF (mpF (fun z => len - z) (f 9) (sz 3)) (sz 3)), aI D (a 10) 16 (rvF (f 10) (sz 3)), aI D (a 11) 16 (teF (f 11) (sz 3))]) (rV (rest := []) (qc := (RX2, TX2, 2)) [.int len] 1 0 0 hC (c_mirrorTimes l D (r := q 0) (x := len) (a := b 0) (sz := nc) (n := 8) (f := ct) (hz0 := H.size) (by omega) (by omega)) rfl (hP 2 _ rfl) (gV mM_X0_55 mI_X2_mirrorTimes mS_X2_mirrorTimes mN_X2 mC_X2_mirrorTimes) (by decide +kernel) rfl rfl ⟨Nat.le_of_ble_eq_true rfl, Nat.le_of_ble_eq_true rfl⟩ hG hP9 hD9 rfl hl.1 rfl (Nat.le_of_ble_eq_true rfl) dX0_turnAround_43 ⟨Nat.le_of_ble_eq_true rfl, Nat.le_of_ble_eq_true rfl⟩) hP hD hS hA [2, 4] [0, 1, 3, 5, 6, 7, 8, 9, 10, 11, 12, 13, 14, 15, 16, 17, 18, 19, 20, 21, 22, 23, 24, 25, 26, 27, 28, 29, 30, 31, 32, 33] rfl rfl (by decide) (by decide) (fun u43 H locs h43 hP hD hS hz hfr => ?_)
  have hP : va_P D cls [oO co 0 [.int len, .ref ta, .ref (q 0), .ref (q 1)], aT D ta 4 (tkF t), oO (q 1) 2 [.ref (b 1), .int (nI nc)], aI D (b 1) 8 cn, oO (t 0) 4 [.ref (r 0), .ref (r 1), .ref (r 2)], oO (r 0) 2 [.ref (a 0), .int (nI (sz 0))], oO (r 1) 2 [.ref (a 1), .int (nI (sz 0))], oO (r 2) 2 [.ref (a 2), .int (nI (sz 0))], aI D (a 0) 16 (rvF (mpF (fun z => len - z) (f 0) (sz 0)) (sz 0)), aI D (a 1) 16 (rvF (f 1) (sz 0)), aI D (a 2) 16 (teF (f 2) (sz 0)), oO (t 1) 4 [.ref (r 3), .ref (r 4), .ref (r 5)], oO (r 3) 2 [.ref (a 3), .int (nI (sz 1))], oO (r 4) 2 [.ref (a 4), .int (nI (sz 1))], oO (r 5) 2 [.ref (a 5), .int (nI (sz 1))], aI D (a 3) 16 (rvF (mpF (fun z => len - z) (f 3) (sz 1)) (sz 1)), aI D (a 4) 16 (rvF (f 4) (sz 1)), aI D (a 5) 16 (teF (f 5) (sz 1)), oO (t 2) 4 [.ref (r 6), .ref (r 7), .ref (r 8)], oO (r 6) 2 [.ref (a 6), .int (nI (sz 2))], oO (r 7) 2 [.ref (a 7), .int (nI (sz 2))], oO (r 8) 2 [.ref (a 8), .int (nI (sz 2))], aI D (a 6) 16 (rvF (mpF (fun z => len - z) (f 6) (sz 2)) (sz 2)), aI D (a 7) 16 (rvF (f 7) (sz 2)), aI D (a 8) 16 (teF (f 8) (sz 2)), oO (t 3) 4 [.ref (r 9), .ref (r 10), .ref (r 11)], oO (r 9) 2 [.ref (a 9), .int (nI (sz 3))], oO (r 10) 2 [.ref (a 10), .int (nI (sz 3))], oO (r 11) 2 [.ref (a 11), .int (nI (sz 3))], aI D (a 9) 16 (rvF (mpF (fun z => len - z) (f 9) (sz 3)) (sz 3)), aI D (a 10) 16 (rvF (f 10) (sz 3)), aI D (a 11) 16 (teF (f 11) (sz 3)), oO (q 0) 2 [.ref (b 0), .int (nI nc)], aI D (b 0) 8 (rvF (mpF (fun z => len - z) ct nc) nc)] H := hP
  have hD : va_D A [oO co 0 [.int len, .ref ta, .ref (q 0), .ref (q 1)], aT D ta 4 (tkF t), oO (q 1) 2 [.ref (b 1), .int (nI nc)], aI D (b 1) 8 cn, oO (t 0) 4 [.ref (r 0), .ref (r 1), .ref (r 2)], oO (r 0) 2 [.ref (a 0), .int (nI (sz 0))], oO (r 1) 2 [.ref (a 1), .int (nI (sz 0))], oO (r 2) 2 [.ref (a 2), .int (nI (sz 0))], aI D (a 0) 16 (rvF (mpF (fun z => len - z) (f 0) (sz 0)) (sz 0)), aI D (a 1) 16 (rvF (f 1) (sz 0)), aI D (a 2) 16 (teF (f 2) (sz 0)), oO (t 1) 4 [.ref (r 3), .ref (r 4), .ref (r 5)], oO (r 3) 2 [.ref (a 3), .int (nI (sz 1))], oO (r 4) 2 [.ref (a 4), .int (nI (sz 1))], oO (r 5) 2 [.ref (a 5), .int (nI (sz 1))], aI D (a 3) 16 (rvF (mpF (fun z => len - z) (f 3) (sz 1)) (sz 1)), aI D (a 4) 16 (rvF (f 4) (sz 1)), aI D (a 5) 16 (teF (f 5) (sz 1)), oO (t 2) 4 [.ref (r 6), .ref (r 7), .ref (r 8)], oO (r 6) 2 [.ref (a 6), .int (nI (sz 2))], oO (r 7) 2 [.ref (a 7), .int (nI (sz 2))], oO (r 8) 2 [.ref (a 8), .int (nI (sz 2))], aI D (a 6) 16 (rvF (mpF (fun z => len - z) (f 6) (sz 2)) (sz 2)), aI D (a 7) 16 (rvF (f 7) (sz 2)), aI D (a 8) 16 (teF (f 8) (sz 2)), oO (t 3) 4 [.ref (r 9), .ref (r 10), .ref (r 11)], oO (r 9) 2 [.ref (a 9), .int (nI (sz 3))], oO (r 10) 2 [.ref (a 10), .int (nI (sz 3))], oO (r 11) 2 [.ref (a 11), .int (nI (sz 3))], aI D (a 9) 16 (rvF (mpF (fun z => len - z) (f 9) (sz 3)) (sz 3)), aI D (a 10) 16 (rvF (f 10) (sz 3)), aI D (a 11) 16 (teF (f 11) (sz 3)), oO (q 0) 2 [.ref (b 0), .int (nI nc)], aI D (b 0) 8 (rvF (mpF (fun z => len - z) ct nc) nc)] := hD
  refine lv_aload_n hx hb dX0_turnAround_46 rfl (lv_at hl 4 rfl) ?_
  refine va_get (D := D) (ci := 0) (v := .ref (q 1)) (C := RX0) (T := TX0) (N := 4) hx hb hts inlX0 hown hG.K hP 0 rfl rfl 3 (by decide) (hts _ mF_X0_20) (fun _ h9 => h9) rfl dX0_turnAround_47 ?_
  have hP9 := hP.sub (ws' := [oO (q 1) 2 [.ref (b 1), .int (nI nc)], aI D (b 1) 8 cn]) [2, 3] rfl
  have hD9 := (hD.sub (ws' := [oO (q 1) 2 [.ref (b 1), .int (nI nc)], aI D (b 1) 8 cn]) [2, 3] (by decide) rfl).weaken (B := fun _ => True) (fun _ _ _ _ => trivial)
  refine kv (wr := [oO co 0 [.int len, .ref ta, .ref (q 0), .ref (q 1)], aT D ta 4 (tkF t), oO (t 0) 4 [.ref (r 0), .ref (r 1), .ref (r 2)], oO (r 0) 2 [.ref (a 0), .int (nI (sz 0))], oO (r 1) 2 [.ref (a 1), .int (nI (sz 0))], oO (r 2) 2 [.ref (a 2), .int (nI (sz 0))], aI D (a 0) 16 (rvF (mpF (fun z => len - z) (f 0) (sz 0)) (sz 0)), aI D (a 1) 16 (rvF (f 1) (sz 0)), aI D (a 2) 16 (teF (f 2) (sz 0)), oO (t 1) 4 [.ref (r 3), .ref (r 4), .ref (r 5)], oO (r 3) 2 [.ref (a 3), .int (nI (sz 1))], oO (r 4) 2 [.ref (a 4), .int (nI (sz 1))], oO (r 5) 2 [.ref (a 5), .int (nI (sz 1))], aI D (a 3) 16 (rvF (mpF (fun z => len - z) (f 3) (sz 1)) (sz 1)), aI D (a 4) 16 (rvF (f 4) (sz 1)), aI D (a 5) 16 (teF (f 5) (sz 1)), oO (t 2) 4 [.ref (r 6), .ref (r 7), .ref (r 8)], oO (r 6) 2 [.ref (a 6), .int (nI (sz 2))], oO (r 7) 2 [.ref (a 7), .int (nI (sz 2))], oO (r 8) 2 [.ref (a 8), .int (nI (sz 2))], aI D (a 6) 16 (rvF (mpF (fun z => len - z) (f 6) (sz 2)) (sz 2)), aI D (a 7) 16 (rvF (f 7) (sz 2)), aI D (a 8) 16 (teF (f 8) (sz 2)), oO (t 3) 4 [.ref (r 9), .ref (r 10), .ref (r 11)], oO (r 9) 2 [.ref (a 9), .int (nI (sz 3))], oO (r 10) 2 [.ref (a 10), .int (nI (sz 3))], oO (r 11) 2 [.ref (a 11), .int (nI (sz 3))], aI D (a 9) 16 (rvF (mpF (fun z => len - z) (f 9) (sz 3)) (sz 3)), aI D (a 10) 16 (rvF (f 10) (sz 3)), aI D (a 11) 16 (teF (f 11) (sz 3)), oO (q 0) 2 [.ref (b 0), .int (nI nc)], aI D (b 0) 8 (rvF (mpF (fun z => len - z) ct nc) nc)]) (rV (rest := []) (qc := (RX2, TX2, 2)) [] 0 0 0 hC (c_reverse l D (r := q 1) (a := b 1) (sz := nc) (n := 8) (f := cn) (hz0 := H.size) (by omega) (by omega)) rfl (hP 2 _ rfl) (gV mM_X0_58 mI_X2_reverse mS_X2_reverse mN_X2 mC_X2_reverse) (by decide +kernel) rfl rfl ⟨Nat.le_of_ble_eq_true rfl, Nat.le_of_ble_eq_true rfl⟩ hG hP9 hD9 rfl hl.1 rfl (Nat.le_of_ble_eq_true rfl) dX0_turnAround_50 ⟨Nat.le_of_ble_eq_true rfl, Nat.le_of_ble_eq_true rfl⟩) hP hD hS hA [2, 3] [0, 1, 4, 5, 6, 7, 8, 9, 10, 11, 12, 13, 14, 15, 16, 17, 18, 19, 20, 21, 22, 23, 24, 25, 26, 27, 28, 29, 30, 31, 32, 33] rfl rfl (by decide) (by decide) (fun u50 H locs h50 hP hD hS hz hfr => ?_)
  have hP : va_P D cls [oO co 0 [.int len, .ref ta, .ref (q 0), .ref (q 1)], aT D ta 4 (tkF t), oO (t 0) 4 [.ref (r 0), .ref (r 1), .ref (r 2)], oO (r 0) 2 [.ref (a 0), .int (nI (sz 0))], oO (r 1) 2 [.ref (a 1), .int (nI (sz 0))], oO (r 2) 2 [.ref (a 2), .int (nI (sz 0))], aI D (a 0) 16 (rvF (mpF (fun z => len - z) (f 0) (sz 0)) (sz 0)), aI D (a 1) 16 (rvF (f 1) (sz 0)), aI D (a 2) 16 (teF (f 2) (sz 0)), oO (t 1) 4 [.ref (r 3), .ref (r 4), .ref (r 5)], oO (r 3) 2 [.ref (a 3), .int (nI (sz 1))], oO (r 4) 2 [.ref (a 4), .int (nI (sz 1))], oO (r 5) 2 [.ref (a 5), .int (nI (sz 1))], aI D (a 3) 16 (rvF (mpF (fun z => len - z) (f 3) (sz 1)) (sz 1)), aI D (a 4) 16 (rvF (f 4) (sz 1)), aI D (a 5) 16 (teF (f 5) (sz 1)), oO (t 2) 4 [.ref (r 6), .ref (r 7), .ref (r 8)], oO (r 6) 2 [.ref (a 6), .int (nI (sz 2))], oO (r 7) 2 [.ref (a 7), .int (nI (sz 2))], oO (r 8) 2 [.ref (a 8), .int (nI (sz 2))], aI D (a 6) 16 (rvF (mpF (fun z => len - z) (f 6) (sz 2)) (sz 2)), aI D (a 7) 16 (rvF (f 7) (sz 2)), aI D (a 8) 16 (teF (f 8) (sz 2)), oO (t 3) 4 [.ref (r 9), .ref (r 10), .ref (r 11)], oO (r 9) 2 [.ref (a 9), .int (nI (sz 3))], oO (r 10) 2 [.ref (a 10), .int (nI (sz 3))], oO (r 11) 2 [.ref (a 11), .int (nI (sz 3))], aI D (a 9) 16 (rvF (mpF (fun z => len - z) (f 9) (sz 3)) (sz 3)), aI D (a 10) 16 (rvF (f 10) (sz 3)), aI D (a 11) 16 (teF (f 11) (sz 3)), oO (q 0) 2 [.ref (b 0), .int (nI nc)], aI D (b 0) 8 (rvF (mpF (fun z => len - z) ct nc) nc), oO (q 1) 2 [.ref (b 1), .int (nI nc)], aI D (b 1) 8 (rvF cn nc)] H := hP
  have hD : va_D A [oO co 0 [.int len, .ref ta, .ref (q 0), .ref (q 1)], aT D ta 4 (tkF t), oO (t 0) 4 [.ref (r 0), .ref (r 1), .ref (r 2)], oO (r 0) 2 [.ref (a 0), .int (nI (sz 0))], oO (r 1) 2 [.ref (a 1), .int (nI (sz 0))], oO (r 2) 2 [.ref (a 2), .int (nI (sz 0))], aI D (a 0) 16 (rvF (mpF (fun z => len - z) (f 0) (sz 0)) (sz 0)), aI D (a 1) 16 (rvF (f 1) (sz 0)), aI D (a 2) 16 (teF (f 2) (sz 0)), oO (t 1) 4 [.ref (r 3), .ref (r 4), .ref (r 5)], oO (r 3) 2 [.ref (a 3), .int (nI (sz 1))], oO (r 4) 2 [.ref (a 4), .int (nI (sz 1))], oO (r 5) 2 [.ref (a 5), .int (nI (sz 1))], aI D (a 3) 16 (rvF (mpF (fun z => len - z) (f 3) (sz 1)) (sz 1)), aI D (a 4) 16 (rvF (f 4) (sz 1)), aI D (a 5) 16 (teF (f 5) (sz 1)), oO (t 2) 4 [.ref (r 6), .ref (r 7), .ref (r 8)], oO (r 6) 2 [.ref (a 6), .int (nI (sz 2))], oO (r 7) 2 [.ref (a 7), .int (nI (sz 2))], oO (r 8) 2 [.ref (a 8), .int (nI (sz 2))], aI D (a 6) 16 (rvF (mpF (fun z => len - z) (f 6) (sz 2)) (sz 2)), aI D (a 7) 16 (rvF (f 7) (sz 2)), aI D (a 8) 16 (teF (f 8) (sz 2)), oO (t 3) 4 [.ref (r 9), .ref (r 10), .ref (r 11)], oO (r 9) 2 [.ref (a 9), .int (nI (sz 3))], oO (r 10) 2 [.ref (a 10), .int (nI (sz 3))], oO (r 11) 2 [.ref (a 11), .int (nI (sz 3))], aI D (a 9) 16 (rvF (mpF (fun z => len - z) (f 9) (sz 3)) (sz 3)), aI D (a 10) 16 (rvF (f 10) (sz 3)), aI D (a 11) 16 (teF (f 11) (sz 3)), oO (q 0) 2 [.ref (b 0), .int (nI nc)], aI D (b 0) 8 (rvF (mpF (fun z => len - z) ct nc) nc), oO (q 1) 2 [.ref (b 1), .int (nI nc)], aI D (b 1) 8 (rvF cn nc)] := hD
  refine Wv () hx hb hr hlk ?_ (hP.sub [0, 1, 30, 32, 31, 33, 2, 3, 4, 5, 6, 7, 8, 9, 10, 11, 12, 13, 14, 15, 16, 17, 18, 19, 20, 21, 22, 23, 24, 25, 26, 27, 28, 29] rfl) (hD.sub [0, 1, 30, 32, 31, 33, 2, 3, 4, 5, 6, 7, 8, 9, 10, 11, 12, 13, 14, 15, 16, 17, 18, 19, 20, 21, 22, 23, 24, 25, 26, 27, 28, 29] (by decide) rfl) hS (Nat.le_of_ble_eq_true rfl) (by first | exact Nat.le_of_ble_eq_true rfl | exact Nat.le_of_eq (Nat.zero_add _)) dX0_turnAround_53
  exact trivial
set_option maxHeartbeats 4000000 in
set_option maxRecDepth 100000 in
theorem c_canStretch (l : Launch) (D : va_G) {co ta nc : Nat} {len : Int32} {q b t r a sz : Nat → Nat} {ct cn : Nat → Int32} {f : Nat → Nat → Int32} {p1 q1 : Int32} (hs0 : sz 0 ≤ 16) (hs1 : sz 1 ≤ 16) (hs2 : sz 2 ≤ 16) (hs3 : sz 3 ≤ 16) (hq : 0 < q1) : Met l yX0_canStretch (ws_ yX0_canStretch cX0_canStretch 7 (some .boolean)) ({ frames := 3, cells := 0, slots := 0, locals := 65 } : Room) (va_Pc [.ref co, .int p1, .int q1] (PW D [oO co 0 [.int len, .ref ta, .ref (q 0), .ref (q 1)], aT D ta 4 (tkF t), oO (q 0) 2 [.ref (b 0), .int (nI nc)], oO (q 1) 2 [.ref (b 1), .int (nI nc)], aI D (b 0) 8 ct, aI D (b 1) 8 cn, oO (t 0) 4 [.ref (r 0), .ref (r 1), .ref (r 2)], oO (r 0) 2 [.ref (a 0), .int (nI (sz 0))], oO (r 1) 2 [.ref (a 1), .int (nI (sz 0))], oO (r 2) 2 [.ref (a 2), .int (nI (sz 0))], aI D (a 0) 16 (f 0), aI D (a 1) 16 (f 1), aI D (a 2) 16 (f 2), oO (t 1) 4 [.ref (r 3), .ref (r 4), .ref (r 5)], oO (r 3) 2 [.ref (a 3), .int (nI (sz 1))], oO (r 4) 2 [.ref (a 4), .int (nI (sz 1))], oO (r 5) 2 [.ref (a 5), .int (nI (sz 1))], aI D (a 3) 16 (f 3), aI D (a 4) 16 (f 4), aI D (a 5) 16 (f 5), oO (t 2) 4 [.ref (r 6), .ref (r 7), .ref (r 8)], oO (r 6) 2 [.ref (a 6), .int (nI (sz 2))], oO (r 7) 2 [.ref (a 7), .int (nI (sz 2))], oO (r 8) 2 [.ref (a 8), .int (nI (sz 2))], aI D (a 6) 16 (f 6), aI D (a 7) 16 (f 7), aI D (a 8) 16 (f 8), oO (t 3) 4 [.ref (r 9), .ref (r 10), .ref (r 11)], oO (r 9) 2 [.ref (a 9), .int (nI (sz 3))], oO (r 10) 2 [.ref (a 10), .int (nI (sz 3))], oO (r 11) 2 [.ref (a 11), .int (nI (sz 3))], aI D (a 9) 16 (f 9), aI D (a 10) 16 (f 10), aI D (a 11) 16 (f 11)])) (vp_Si (fun v => (v = 1 ∧ ((∀ k, k + 1 < sz 0 → ¬ f 0 k * p1 / q1 = f 0 (k + 1) * p1 / q1) ∧ (∀ k, k + 1 < sz 1 → ¬ f 3 k * p1 / q1 = f 3 (k + 1) * p1 / q1) ∧ (∀ k, k + 1 < sz 2 → ¬ f 6 k * p1 / q1 = f 6 (k + 1) * p1 / q1) ∧ (∀ k, k + 1 < sz 3 → ¬ f 9 k * p1 / q1 = f 9 (k + 1) * p1 / q1) ∧ (1 ≤ len * p1 / q1 ∧ len * p1 / q1 ≤ 2000))) ∨ (v = 0 ∧ ¬ ((∀ k, k + 1 < sz 0 → ¬ f 0 k * p1 / q1 = f 0 (k + 1) * p1 / q1) ∧ (∀ k, k + 1 < sz 1 → ¬ f 3 k * p1 / q1 = f 3 (k + 1) * p1 / q1) ∧ (∀ k, k + 1 < sz 2 → ¬ f 6 k * p1 / q1 = f 6 (k + 1) * p1 / q1) ∧ (∀ k, k + 1 < sz 3 → ¬ f 9 k * p1 / q1 = f 9 (k + 1) * p1 / q1) ∧ (1 ≤ len * p1 / q1 ∧ len * p1 / q1 ≤ 2000))))) 0 0 (fun _ => False) := by
  refine Met.ofW (cc := cX0_canStretch) (maxL := 7) (ret := (some .boolean)) (by decide) rfl ?_
  intro p e s m args below meth c s₁ B hml hv
  obtain ⟨rfl, hG, hP⟩ := hv
  have hx := B.exec
  have hb := B.bytes
  have hr := B.returns
  have hts : ∀ w ∈ wsL_law, w.before _ s = true := fun w h => atoms_spec (ws := (ws_ yX0_canStretch cX0_canStretch 7 (some .boolean))) B.pre w (List.mem_cons_of_mem _ h)
  have hown : s.vm.findClass RX0 = some m.cls := findClass_of_methodNamed B.named
  have hlk := B.notSynchronized
  have hC : CallFix p m c cX0_canStretch 7 s _ wsL_law RX0 := ⟨hx, hb, hml, hown, hts⟩
  have hl := lv_entry ([.ref co, .int p1, .int q1]) (n := 7) (Nat.le_of_ble_eq_true rfl)
  rw [lg_entry_eq]
  generalize (lg_sl ([.ref co, .int p1, .int q1]) ++ List.replicate (7 - (lg_sl ([.ref co, .int p1, .int q1])).length) Slot.unset).toArray = ls at hl ⊢
  have hl : lv_has ls 7 [(0, .ref co), (1, .int p1), (2, .int q1)] := hl
  refine lv_aload_n hx hb dX0_canStretch_0 rfl (lv_at hl 0 rfl) ?_
  refine va_get (D := D) (ci := 0) (v := .ref ta) (C := RX0) (T := TX0) (N := 4) hx hb hts inlX0 hown hG.K hP 0 rfl rfl 1 (by decide) (hts _ mF_X0_29) (fun _ h9 => h9) rfl dX0_canStretch_1 ?_
  refine lv_astore_n (lv' := [(3, .ref ta), (0, .ref co), (1, .int p1), (2, .int q1)]) hx hb dX0_canStretch_4 rfl hl (by decide) rfl (fun ls hl => ?_)
  refine lv_aload_n hx hb dX0_canStretch_5 rfl (lv_at hl 0 rfl) ?_
  refine va_alen (v := nI 4) hx hb hG.K hP 1 3 rfl rfl rfl dX0_canStretch_6 ?_
  refine lv_istore (lv' := [(4, .int (nI 4)), (3, .ref ta), (0, .ref co), (1, .int p1), (2, .int q1)]) hx hb dX0_canStretch_7 hl (by decide) rfl (fun ls hl => ?_)
  refine lv_iconst (v := 0) hx hb dX0_canStretch_9 (by decide) ?_
  refine lv_istore (lv' := [(5, .int 0), (4, .int (nI 4)), (3, .ref ta), (0, .ref co), (1, .int p1), (2, .int q1)]) hx hb dX0_canStretch_10 hl (by decide) rfl (fun ls hl => ?_)
  refine lv_iload hx hb dX0_canStretch_12 (lv_at hl 0 rfl) ?_
  refine lv_iload hx hb dX0_canStretch_14 (lv_at hl 1 rfl) ?_
  refine lv_icmp_ge (tgt := 43) hx hb dX0_canStretch_16 (by decide) (fun h9 => absurd h9 (by decide)) (fun _ => ?_)
  refine lv_aload_n hx hb dX0_canStretch_19 rfl (lv_at hl 2 rfl) ?_
  refine lv_iload hx hb dX0_canStretch_20 (lv_at hl 0 rfl) ?_
  refine ald (n := 4) (j := 0) hx hb hG hP 1 3 rfl rfl (by omega) (by omega) dX0_canStretch_22 ?_
  refine tpv (y := .ref (t 0)) (tkF_ref (by omega)) ?_
  refine lv_astore (lv' := [(6, .ref (t 0)), (5, .int 0), (4, .int (nI 4)), (3, .ref ta), (0, .ref co), (1, .int p1), (2, .int q1)]) hx hb dX0_canStretch_23 hl (by decide) rfl (fun ls hl => ?_)
  refine lv_aload hx hb dX0_canStretch_25 (lv_at hl 0 rfl) ?_
  refine lv_iload_n hx hb dX0_canStretch_27 rfl (lv_at hl 5 rfl) ?_
  refine lv_iload_n hx hb dX0_canStretch_28 rfl (lv_at hl 6 rfl) ?_
  have hP9 := hP.sub (ws' := [oO (t 0) 4 [.ref (r 0), .ref (r 1), .ref (r 2)], oO (r 0) 2 [.ref (a 0), .int (nI (sz 0))], oO (r 1) 2 [.ref (a 1), .int (nI (sz 0))], oO (r 2) 2 [.ref (a 2), .int (nI (sz 0))], aI D (a 0) 16 (f 0), aI D (a 1) 16 (f 1), aI D (a 2) 16 (f 2)]) [6, 7, 8, 9, 10, 11, 12] rfl
  refine vp_callSi (pV (rest := []) (qc := (RX4, TX4, 3)) [.int p1, .int q1] 2 hC (c_staysApart l D (t := t 0) (p1 := p1) (q1 := q1) (r1 := r 0) (r2 := r 1) (r3 := r 2) (a1 := a 0) (sz := sz 0) (a2 := a 1) (a3 := a 2) (ft := f 0) (fv := f 1) (fe := f 2) (by omega) (hq)) rfl (hP 6 _ rfl) (gV mM_X0_61 mI_X4_staysApart mS_X4_staysApart mN_X4 mC_X4_staysApart) (by decide +kernel) rfl rfl ⟨Nat.le_of_ble_eq_true rfl, Nat.le_of_ble_eq_true rfl⟩ hG hP9 rfl hl.1 rfl (Nat.le_of_ble_eq_true rfl) dX0_canStretch_29 ⟨Nat.le_of_ble_eq_true rfl, Nat.le_of_ble_eq_true rfl⟩) (fun r29 h29 => ?_)
  rcases h29 with ⟨rfl, hb29⟩ | ⟨rfl, hb29⟩
  · skip
    have hc0 := hb29
    refine lv_if_ne (tgt := 37) hx hb dX0_canStretch_32 (by decide) (fun _ => ?_) (fun h9 => absurd h9 (by decide))
    refine lv_iinc (v := 1) (lv' := [(5, .int 1), (6, .ref (t 0)), (4, .int (nI 4)), (3, .ref ta), (0, .ref co), (1, .int p1), (2, .int q1)]) hx hb dX0_canStretch_37 hl (k := 1) rfl (by decide) (by decide) rfl (fun ls hl => ?_)
    refine lv_goto (tgt := 12) hx hb dX0_canStretch_40 (by decide) ?_
    refine lv_iload hx hb dX0_canStretch_12 (lv_at hl 0 rfl) ?_
    refine lv_iload hx hb dX0_canStretch_14 (lv_at hl 2 rfl) ?_
    refine lv_icmp_ge (tgt := 43) hx hb dX0_canStretch_16 (by decide) (fun h9 => absurd h9 (by decide)) (fun _ => ?_)
    refine lv_aload_n hx hb dX0_canStretch_19 rfl (lv_at hl 3 rfl) ?_
    refine lv_iload hx hb dX0_canStretch_20 (lv_at hl 0 rfl) ?_
    refine ald (n := 4) (j := 1) hx hb hG hP 1 3 rfl rfl (by omega) (by omega) dX0_canStretch_22 ?_
    refine tpv (y := .ref (t 1)) (tkF_ref (by omega)) ?_
    refine lv_astore (lv' := [(6, .ref (t 1)), (5, .int 1), (4, .int (nI 4)), (3, .ref ta), (0, .ref co), (1, .int p1), (2, .int q1)]) hx hb dX0_canStretch_23 hl (by decide) rfl (fun ls hl => ?_)
    refine lv_aload hx hb dX0_canStretch_25 (lv_at hl 0 rfl) ?_
    refine lv_iload_n hx hb dX0_canStretch_27 rfl (lv_at hl 5 rfl) ?_
    refine lv_iload_n hx hb dX0_canStretch_28 rfl (lv_at hl 6 rfl) ?_
    have hP9 := hP.sub (ws' := [oO (t 1) 4 [.ref (r 3), .ref (r 4), .ref (r 5)], oO (r 3) 2 [.ref (a 3), .int (nI (sz 1))], oO (r 4) 2 [.ref (a 4), .int (nI (sz 1))], oO (r 5) 2 [.ref (a 5), .int (nI (sz 1))], aI D (a 3) 16 (f 3), aI D (a 4) 16 (f 4), aI D (a 5) 16 (f 5)]) [13, 14, 15, 16, 17, 18, 19] rfl
    refine vp_callSi (pV (rest := []) (qc := (RX4, TX4, 3)) [.int p1, .int q1] 2 hC (c_staysApart l D (t := t 1) (p1 := p1) (q1 := q1) (r1 := r 3) (r2 := r 4) (r3 := r 5) (a1 := a 3) (sz := sz 1) (a2 := a 4) (a3 := a 5) (ft := f 3) (fv := f 4) (fe := f 5) (by omega) (hq)) rfl (hP 13 _ rfl) (gV mM_X0_61 mI_X4_staysApart mS_X4_staysApart mN_X4 mC_X4_staysApart) (by decide +kernel) rfl rfl ⟨Nat.le_of_ble_eq_true rfl, Nat.le_of_ble_eq_true rfl⟩ hG hP9 rfl hl.1 rfl (Nat.le_of_ble_eq_true rfl) dX0_canStretch_29 ⟨Nat.le_of_ble_eq_true rfl, Nat.le_of_ble_eq_true rfl⟩) (fun r29 h29 => ?_)
    rcases h29 with ⟨rfl, hb29⟩ | ⟨rfl, hb29⟩
    · skip
      have hc1 := hb29
      refine lv_if_ne (tgt := 37) hx hb dX0_canStretch_32 (by decide) (fun _ => ?_) (fun h9 => absurd h9 (by decide))
      refine lv_iinc (v := 2) (lv' := [(5, .int 2), (6, .ref (t 1)), (4, .int (nI 4)), (3, .ref ta), (0, .ref co), (1, .int p1), (2, .int q1)]) hx hb dX0_canStretch_37 hl (k := 1) rfl (by decide) (by decide) rfl (fun ls hl => ?_)
      refine lv_goto (tgt := 12) hx hb dX0_canStretch_40 (by decide) ?_
      refine lv_iload hx hb dX0_canStretch_12 (lv_at hl 0 rfl) ?_
      refine lv_iload hx hb dX0_canStretch_14 (lv_at hl 2 rfl) ?_
      refine lv_icmp_ge (tgt := 43) hx hb dX0_canStretch_16 (by decide) (fun h9 => absurd h9 (by decide)) (fun _ => ?_)
      refine lv_aload_n hx hb dX0_canStretch_19 rfl (lv_at hl 3 rfl) ?_
      refine lv_iload hx hb dX0_canStretch_20 (lv_at hl 0 rfl) ?_
      refine ald (n := 4) (j := 2) hx hb hG hP 1 3 rfl rfl (by omega) (by omega) dX0_canStretch_22 ?_
      refine tpv (y := .ref (t 2)) (tkF_ref (by omega)) ?_
      refine lv_astore (lv' := [(6, .ref (t 2)), (5, .int 2), (4, .int (nI 4)), (3, .ref ta), (0, .ref co), (1, .int p1), (2, .int q1)]) hx hb dX0_canStretch_23 hl (by decide) rfl (fun ls hl => ?_)
      refine lv_aload hx hb dX0_canStretch_25 (lv_at hl 0 rfl) ?_
      refine lv_iload_n hx hb dX0_canStretch_27 rfl (lv_at hl 5 rfl) ?_
      refine lv_iload_n hx hb dX0_canStretch_28 rfl (lv_at hl 6 rfl) ?_
      have hP9 := hP.sub (ws' := [oO (t 2) 4 [.ref (r 6), .ref (r 7), .ref (r 8)], oO (r 6) 2 [.ref (a 6), .int (nI (sz 2))], oO (r 7) 2 [.ref (a 7), .int (nI (sz 2))], oO (r 8) 2 [.ref (a 8), .int (nI (sz 2))], aI D (a 6) 16 (f 6), aI D (a 7) 16 (f 7), aI D (a 8) 16 (f 8)]) [20, 21, 22, 23, 24, 25, 26] rfl
      refine vp_callSi (pV (rest := []) (qc := (RX4, TX4, 3)) [.int p1, .int q1] 2 hC (c_staysApart l D (t := t 2) (p1 := p1) (q1 := q1) (r1 := r 6) (r2 := r 7) (r3 := r 8) (a1 := a 6) (sz := sz 2) (a2 := a 7) (a3 := a 8) (ft := f 6) (fv := f 7) (fe := f 8) (by omega) (hq)) rfl (hP 20 _ rfl) (gV mM_X0_61 mI_X4_staysApart mS_X4_staysApart mN_X4 mC_X4_staysApart) (by decide +kernel) rfl rfl ⟨Nat.le_of_ble_eq_true rfl, Nat.le_of_ble_eq_true rfl⟩ hG hP9 rfl hl.1 rfl (Nat.le_of_ble_eq_true rfl) dX0_canStretch_29 ⟨Nat.le_of_ble_eq_true rfl, Nat.le_of_ble_eq_true rfl⟩) (fun r29 h29 => ?_)
      rcases h29 with ⟨rfl, hb29⟩ | ⟨rfl, hb29⟩
      · skip
        have hc2 := hb29
        refine lv_if_ne (tgt := 37) hx hb dX0_canStretch_32 (by decide) (fun _ => ?_) (fun h9 => absurd h9 (by decide))
        refine lv_iinc (v := 3) (lv' := [(5, .int 3), (6, .ref (t 2)), (4, .int (nI 4)), (3, .ref ta), (0, .ref co), (1, .int p1), (2, .int q1)]) hx hb dX0_canStretch_37 hl (k := 1) rfl (by decide) (by decide) rfl (fun ls hl => ?_)
        refine lv_goto (tgt := 12) hx hb dX0_canStretch_40 (by decide) ?_
        refine lv_iload hx hb dX0_canStretch_12 (lv_at hl 0 rfl) ?_
        refine lv_iload hx hb dX0_canStretch_14 (lv_at hl 2 rfl) ?_
        refine lv_icmp_ge (tgt := 43) hx hb dX0_canStretch_16 (by decide) (fun h9 => absurd h9 (by decide)) (fun _ => ?_)
        refine lv_aload_n hx hb dX0_canStretch_19 rfl (lv_at hl 3 rfl) ?_
        refine lv_iload hx hb dX0_canStretch_20 (lv_at hl 0 rfl) ?_
        refine ald (n := 4) (j := 3) hx hb hG hP 1 3 rfl rfl (by omega) (by omega) dX0_canStretch_22 ?_
        refine tpv (y := .ref (t 3)) (tkF_ref (by omega)) ?_
        refine lv_astore (lv' := [(6, .ref (t 3)), (5, .int 3), (4, .int (nI 4)), (3, .ref ta), (0, .ref co), (1, .int p1), (2, .int q1)]) hx hb dX0_canStretch_23 hl (by decide) rfl (fun ls hl => ?_)
        refine lv_aload hx hb dX0_canStretch_25 (lv_at hl 0 rfl) ?_
        refine lv_iload_n hx hb dX0_canStretch_27 rfl (lv_at hl 5 rfl) ?_
        refine lv_iload_n hx hb dX0_canStretch_28 rfl (lv_at hl 6 rfl) ?_
        have hP9 := hP.sub (ws' := [oO (t 3) 4 [.ref (r 9), .ref (r 10), .ref (r 11)], oO (r 9) 2 [.ref (a 9), .int (nI (sz 3))], oO (r 10) 2 [.ref (a 10), .int (nI (sz 3))], oO (r 11) 2 [.ref (a 11), .int (nI (sz 3))], aI D (a 9) 16 (f 9), aI D (a 10) 16 (f 10), aI D (a 11) 16 (f 11)]) [27, 28, 29, 30, 31, 32, 33] rfl
        refine vp_callSi (pV (rest := []) (qc := (RX4, TX4, 3)) [.int p1, .int q1] 2 hC (c_staysApart l D (t := t 3) (p1 := p1) (q1 := q1) (r1 := r 9) (r2 := r 10) (r3 := r 11) (a1 := a 9) (sz := sz 3) (a2 := a 10) (a3 := a 11) (ft := f 9) (fv := f 10) (fe := f 11) (by omega) (hq)) rfl (hP 27 _ rfl) (gV mM_X0_61 mI_X4_staysApart mS_X4_staysApart mN_X4 mC_X4_staysApart) (by decide +kernel) rfl rfl ⟨Nat.le_of_ble_eq_true rfl, Nat.le_of_ble_eq_true rfl⟩ hG hP9 rfl hl.1 rfl (Nat.le_of_ble_eq_true rfl) dX0_canStretch_29 ⟨Nat.le_of_ble_eq_true rfl, Nat.le_of_ble_eq_true rfl⟩) (fun r29 h29 => ?_)
        rcases h29 with ⟨rfl, hb29⟩ | ⟨rfl, hb29⟩
        · skip
          have hc3 := hb29
          refine lv_if_ne (tgt := 37) hx hb dX0_canStretch_32 (by decide) (fun _ => ?_) (fun h9 => absurd h9 (by decide))
          refine lv_iinc (v := 4) (lv' := [(5, .int 4), (6, .ref (t 3)), (4, .int (nI 4)), (3, .ref ta), (0, .ref co), (1, .int p1), (2, .int q1)]) hx hb dX0_canStretch_37 hl (k := 1) rfl (by decide) (by decide) rfl (fun ls hl => ?_)
          refine lv_goto (tgt := 12) hx hb dX0_canStretch_40 (by decide) ?_
          refine lv_iload hx hb dX0_canStretch_12 (lv_at hl 0 rfl) ?_
          refine lv_iload hx hb dX0_canStretch_14 (lv_at hl 2 rfl) ?_
          refine lv_icmp_ge (tgt := 43) hx hb dX0_canStretch_16 (by decide) (fun _ => ?_) (fun h9 => (h9 (by decide)).elim)
          refine lv_aload_n hx hb dX0_canStretch_43 rfl (lv_at hl 4 rfl) ?_
          refine va_get (D := D) (ci := 0) (v := .int len) (C := RX0) (T := TX0) (N := 4) hx hb hts inlX0 hown hG.K hP 0 rfl rfl 0 (by decide) (hts _ mF_X0_23) (fun _ h9 => h9) rfl dX0_canStretch_44 ?_
          refine lv_iload_n hx hb dX0_canStretch_47 rfl (lv_at hl 5 rfl) ?_
          refine lv_imul hx hb dX0_canStretch_48 ?_
          refine lv_iload_n hx hb dX0_canStretch_49 rfl (lv_at hl 6 rfl) ?_
          have hP9 : va_P D cls [] s.heap := fun k q h => by simp at h
          refine vp_callSi (pSN (rest := []) [.int (len * p1), .int q1] 2 hC (c_cut l D (x := len * p1) (y := q1) (hq)) (nM_KeyStage_Clip_65 hG) mT_X5_cut mN_X5 mC_X5_cut (by decide +kernel) rfl rfl ⟨Nat.le_of_ble_eq_true rfl, Nat.le_of_ble_eq_true rfl⟩ hG hP9 rfl hl.1 rfl (Nat.le_of_ble_eq_true rfl) dX0_canStretch_50 ⟨Nat.le_of_ble_eq_true rfl, Nat.le_of_ble_eq_true rfl⟩) (fun r50 h50 => ?_)
          obtain rfl : r50 = ((len * p1) / q1) := h50
          refine lv_iconst (v := 1) hx hb dX0_canStretch_53 (by decide) ?_
          refine lv_sipush (v := 2000) hx hb dX0_canStretch_54 (by decide) ?_
          have hP9 : va_P D cls [] s.heap := fun k q h => by simp at h
          refine vp_callSi (pSN (rest := []) [.int ((len * p1) / q1), .int 1, .int 2000] 3 hC (c_isIn l D (x := (len * p1) / q1) (a := 1) (b := 2000) ) (nM_KeyStage_Clip_69 hG) mT_X5_isIn mN_X5 mC_X5_isIn (by decide +kernel) rfl rfl ⟨Nat.le_of_ble_eq_true rfl, Nat.le_of_ble_eq_true rfl⟩ hG hP9 rfl hl.1 rfl (Nat.le_of_ble_eq_true rfl) dX0_canStretch_57 ⟨Nat.le_of_ble_eq_true rfl, Nat.le_of_ble_eq_true rfl⟩) (fun r57 h57 => ?_)
          rcases h57 with ⟨rfl, hb57⟩ | ⟨rfl, hb57⟩
          · skip
            refine Rz hx hb hr hlk (by first | rfl | decide) ?_ dX0_canStretch_60
            first
            | exact Or.inl ⟨rfl, hc0, hc1, hc2, hc3, hb57⟩
            | exact Or.inr ⟨rfl, fun h => hb57 h.2.2.2.2⟩
            | exact Or.inr ⟨rfl, fun h => hc3 h.2.2.2.1⟩
            | exact Or.inr ⟨rfl, fun h => hc2 h.2.2.1⟩
            | exact Or.inr ⟨rfl, fun h => hc1 h.2.1⟩
            | exact Or.inr ⟨rfl, fun h => hc0 h.1⟩
          · skip
            refine Rz hx hb hr hlk (by first | rfl | decide) ?_ dX0_canStretch_60
            first
            | exact Or.inl ⟨rfl, hc0, hc1, hc2, hc3, hb57⟩
            | exact Or.inr ⟨rfl, fun h => hb57 h.2.2.2.2⟩
            | exact Or.inr ⟨rfl, fun h => hc3 h.2.2.2.1⟩
            | exact Or.inr ⟨rfl, fun h => hc2 h.2.2.1⟩
            | exact Or.inr ⟨rfl, fun h => hc1 h.2.1⟩
            | exact Or.inr ⟨rfl, fun h => hc0 h.1⟩
        · skip
          have hc3 := hb29
          refine lv_if_ne (tgt := 37) hx hb dX0_canStretch_32 (by decide) (fun h9 => (h9 (by decide)).elim) (fun _ => ?_)
          refine lv_iconst (v := 0) hx hb dX0_canStretch_35 (by decide) ?_
          refine Rz hx hb hr hlk (by first | rfl | decide) ?_ dX0_canStretch_36
          first
          | exact Or.inl ⟨rfl, hc0, hc1, hc2, hc3, hb57⟩
          | exact Or.inr ⟨rfl, fun h => hb57 h.2.2.2.2⟩
          | exact Or.inr ⟨rfl, fun h => hc3 h.2.2.2.1⟩
          | exact Or.inr ⟨rfl, fun h => hc2 h.2.2.1⟩
          | exact Or.inr ⟨rfl, fun h => hc1 h.2.1⟩
          | exact Or.inr ⟨rfl, fun h => hc0 h.1⟩
      · skip
        have hc2 := hb29
        refine lv_if_ne (tgt := 37) hx hb dX0_canStretch_32 (by decide) (fun h9 => (h9 (by decide)).elim) (fun _ => ?_)
        refine lv_iconst (v := 0) hx hb dX0_canStretch_35 (by decide) ?_
        refine Rz hx hb hr hlk (by first | rfl | decide) ?_ dX0_canStretch_36
        first
        | exact Or.inl ⟨rfl, hc0, hc1, hc2, hc3, hb57⟩
        | exact Or.inr ⟨rfl, fun h => hb57 h.2.2.2.2⟩
        | exact Or.inr ⟨rfl, fun h => hc3 h.2.2.2.1⟩
        | exact Or.inr ⟨rfl, fun h => hc2 h.2.2.1⟩
        | exact Or.inr ⟨rfl, fun h => hc1 h.2.1⟩
        | exact Or.inr ⟨rfl, fun h => hc0 h.1⟩
    · skip
      have hc1 := hb29
      refine lv_if_ne (tgt := 37) hx hb dX0_canStretch_32 (by decide) (fun h9 => (h9 (by decide)).elim) (fun _ => ?_)
      refine lv_iconst (v := 0) hx hb dX0_canStretch_35 (by decide) ?_
      refine Rz hx hb hr hlk (by first | rfl | decide) ?_ dX0_canStretch_36
      first
      | exact Or.inl ⟨rfl, hc0, hc1, hc2, hc3, hb57⟩
      | exact Or.inr ⟨rfl, fun h => hb57 h.2.2.2.2⟩
      | exact Or.inr ⟨rfl, fun h => hc3 h.2.2.2.1⟩
      | exact Or.inr ⟨rfl, fun h => hc2 h.2.2.1⟩
      | exact Or.inr ⟨rfl, fun h => hc1 h.2.1⟩
      | exact Or.inr ⟨rfl, fun h => hc0 h.1⟩
  · skip
    have hc0 := hb29
    refine lv_if_ne (tgt := 37) hx hb dX0_canStretch_32 (by decide) (fun h9 => (h9 (by decide)).elim) (fun _ => ?_)
    refine lv_iconst (v := 0) hx hb dX0_canStretch_35 (by decide) ?_
    refine Rz hx hb hr hlk (by first | rfl | decide) ?_ dX0_canStretch_36
    first
    | exact Or.inl ⟨rfl, hc0, hc1, hc2, hc3, hb57⟩
    | exact Or.inr ⟨rfl, fun h => hb57 h.2.2.2.2⟩
    | exact Or.inr ⟨rfl, fun h => hc3 h.2.2.2.1⟩
    | exact Or.inr ⟨rfl, fun h => hc2 h.2.2.1⟩
    | exact Or.inr ⟨rfl, fun h => hc1 h.2.1⟩
    | exact Or.inr ⟨rfl, fun h => hc0 h.1⟩
set_option maxHeartbeats 4000000 in
set_option maxRecDepth 100000 in
theorem c_stretch (l : Launch) (D : va_G) {co ta nc : Nat} {len : Int32} {q b t r a sz : Nat → Nat} {ct cn : Nat → Int32} {f : Nat → Nat → Int32} {p1 q1 : Int32} (hz0 : Nat) (hs0 : sz 0 ≤ 16) (hs1 : sz 1 ≤ 16) (hs2 : sz 2 ≤ 16) (hs3 : sz 3 ≤ 16) (hn : nc ≤ 8) (hq : 0 < q1) : Met l yX0_stretch (ws_ yX0_stretch cX0_stretch 7 none) ({ frames := 3, cells := 0, slots := 0, locals := 66 } : Room) (va_Pc [.ref co, .int p1, .int q1] (SW D [oO co 0 [.int len, .ref ta, .ref (q 0), .ref (q 1)], aT D ta 4 (tkF t), oO (q 0) 2 [.ref (b 0), .int (nI nc)], oO (q 1) 2 [.ref (b 1), .int (nI nc)], aI D (b 0) 8 ct, aI D (b 1) 8 cn, oO (t 0) 4 [.ref (r 0), .ref (r 1), .ref (r 2)], oO (r 0) 2 [.ref (a 0), .int (nI (sz 0))], oO (r 1) 2 [.ref (a 1), .int (nI (sz 0))], oO (r 2) 2 [.ref (a 2), .int (nI (sz 0))], aI D (a 0) 16 (f 0), aI D (a 1) 16 (f 1), aI D (a 2) 16 (f 2), oO (t 1) 4 [.ref (r 3), .ref (r 4), .ref (r 5)], oO (r 3) 2 [.ref (a 3), .int (nI (sz 1))], oO (r 4) 2 [.ref (a 4), .int (nI (sz 1))], oO (r 5) 2 [.ref (a 5), .int (nI (sz 1))], aI D (a 3) 16 (f 3), aI D (a 4) 16 (f 4), aI D (a 5) 16 (f 5), oO (t 2) 4 [.ref (r 6), .ref (r 7), .ref (r 8)], oO (r 6) 2 [.ref (a 6), .int (nI (sz 2))], oO (r 7) 2 [.ref (a 7), .int (nI (sz 2))], oO (r 8) 2 [.ref (a 8), .int (nI (sz 2))], aI D (a 6) 16 (f 6), aI D (a 7) 16 (f 7), aI D (a 8) 16 (f 8), oO (t 3) 4 [.ref (r 9), .ref (r 10), .ref (r 11)], oO (r 9) 2 [.ref (a 9), .int (nI (sz 3))], oO (r 10) 2 [.ref (a 10), .int (nI (sz 3))], oO (r 11) 2 [.ref (a 11), .int (nI (sz 3))], aI D (a 9) 16 (f 9), aI D (a 10) 16 (f 10), aI D (a 11) 16 (f 11)] hz0)) (va_Qv (fun _ => True) (AT D (va_A [oO co 0 [.int len, .ref ta, .ref (q 0), .ref (q 1)], aT D ta 4 (tkF t), oO (q 0) 2 [.ref (b 0), .int (nI nc)], oO (q 1) 2 [.ref (b 1), .int (nI nc)], aI D (b 0) 8 ct, aI D (b 1) 8 cn, oO (t 0) 4 [.ref (r 0), .ref (r 1), .ref (r 2)], oO (r 0) 2 [.ref (a 0), .int (nI (sz 0))], oO (r 1) 2 [.ref (a 1), .int (nI (sz 0))], oO (r 2) 2 [.ref (a 2), .int (nI (sz 0))], aI D (a 0) 16 (f 0), aI D (a 1) 16 (f 1), aI D (a 2) 16 (f 2), oO (t 1) 4 [.ref (r 3), .ref (r 4), .ref (r 5)], oO (r 3) 2 [.ref (a 3), .int (nI (sz 1))], oO (r 4) 2 [.ref (a 4), .int (nI (sz 1))], oO (r 5) 2 [.ref (a 5), .int (nI (sz 1))], aI D (a 3) 16 (f 3), aI D (a 4) 16 (f 4), aI D (a 5) 16 (f 5), oO (t 2) 4 [.ref (r 6), .ref (r 7), .ref (r 8)], oO (r 6) 2 [.ref (a 6), .int (nI (sz 2))], oO (r 7) 2 [.ref (a 7), .int (nI (sz 2))], oO (r 8) 2 [.ref (a 8), .int (nI (sz 2))], aI D (a 6) 16 (f 6), aI D (a 7) 16 (f 7), aI D (a 8) 16 (f 8), oO (t 3) 4 [.ref (r 9), .ref (r 10), .ref (r 11)], oO (r 9) 2 [.ref (a 9), .int (nI (sz 3))], oO (r 10) 2 [.ref (a 10), .int (nI (sz 3))], oO (r 11) 2 [.ref (a 11), .int (nI (sz 3))], aI D (a 9) 16 (f 9), aI D (a 10) 16 (f 10), aI D (a 11) 16 (f 11)] hz0) (fun _ : Unit => [oO co 0 [.int (len * p1 / q1), .ref ta, .ref (q 0), .ref (q 1)], aT D ta 4 (tkF t), oO (q 0) 2 [.ref (b 0), .int (nI nc)], oO (q 1) 2 [.ref (b 1), .int (nI nc)], aI D (b 0) 8 (mpF (fun z => z * p1 / q1) ct nc), aI D (b 1) 8 cn, oO (t 0) 4 [.ref (r 0), .ref (r 1), .ref (r 2)], oO (r 0) 2 [.ref (a 0), .int (nI (sz 0))], oO (r 1) 2 [.ref (a 1), .int (nI (sz 0))], oO (r 2) 2 [.ref (a 2), .int (nI (sz 0))], aI D (a 0) 16 (mpF (fun z => z * p1 / q1) (f 0) (sz 0)), aI D (a 1) 16 (f 1), aI D (a 2) 16 (f 2), oO (t 1) 4 [.ref (r 3), .ref (r 4), .ref (r 5)], oO (r 3) 2 [.ref (a 3), .int (nI (sz 1))], oO (r 4) 2 [.ref (a 4), .int (nI (sz 1))], oO (r 5) 2 [.ref (a 5), .int (nI (sz 1))], aI D (a 3) 16 (mpF (fun z => z * p1 / q1) (f 3) (sz 1)), aI D (a 4) 16 (f 4), aI D (a 5) 16 (f 5), oO (t 2) 4 [.ref (r 6), .ref (r 7), .ref (r 8)], oO (r 6) 2 [.ref (a 6), .int (nI (sz 2))], oO (r 7) 2 [.ref (a 7), .int (nI (sz 2))], oO (r 8) 2 [.ref (a 8), .int (nI (sz 2))], aI D (a 6) 16 (mpF (fun z => z * p1 / q1) (f 6) (sz 2)), aI D (a 7) 16 (f 7), aI D (a 8) 16 (f 8), oO (t 3) 4 [.ref (r 9), .ref (r 10), .ref (r 11)], oO (r 9) 2 [.ref (a 9), .int (nI (sz 3))], oO (r 10) 2 [.ref (a 10), .int (nI (sz 3))], oO (r 11) 2 [.ref (a 11), .int (nI (sz 3))], aI D (a 9) 16 (mpF (fun z => z * p1 / q1) (f 9) (sz 3)), aI D (a 10) 16 (f 10), aI D (a 11) 16 (f 11)])) (va_A [oO co 0 [.int len, .ref ta, .ref (q 0), .ref (q 1)], aT D ta 4 (tkF t), oO (q 0) 2 [.ref (b 0), .int (nI nc)], oO (q 1) 2 [.ref (b 1), .int (nI nc)], aI D (b 0) 8 ct, aI D (b 1) 8 cn, oO (t 0) 4 [.ref (r 0), .ref (r 1), .ref (r 2)], oO (r 0) 2 [.ref (a 0), .int (nI (sz 0))], oO (r 1) 2 [.ref (a 1), .int (nI (sz 0))], oO (r 2) 2 [.ref (a 2), .int (nI (sz 0))], aI D (a 0) 16 (f 0), aI D (a 1) 16 (f 1), aI D (a 2) 16 (f 2), oO (t 1) 4 [.ref (r 3), .ref (r 4), .ref (r 5)], oO (r 3) 2 [.ref (a 3), .int (nI (sz 1))], oO (r 4) 2 [.ref (a 4), .int (nI (sz 1))], oO (r 5) 2 [.ref (a 5), .int (nI (sz 1))], aI D (a 3) 16 (f 3), aI D (a 4) 16 (f 4), aI D (a 5) 16 (f 5), oO (t 2) 4 [.ref (r 6), .ref (r 7), .ref (r 8)], oO (r 6) 2 [.ref (a 6), .int (nI (sz 2))], oO (r 7) 2 [.ref (a 7), .int (nI (sz 2))], oO (r 8) 2 [.ref (a 8), .int (nI (sz 2))], aI D (a 6) 16 (f 6), aI D (a 7) 16 (f 7), aI D (a 8) 16 (f 8), oO (t 3) 4 [.ref (r 9), .ref (r 10), .ref (r 11)], oO (r 9) 2 [.ref (a 9), .int (nI (sz 3))], oO (r 10) 2 [.ref (a 10), .int (nI (sz 3))], oO (r 11) 2 [.ref (a 11), .int (nI (sz 3))], aI D (a 9) 16 (f 9), aI D (a 10) 16 (f 10), aI D (a 11) 16 (f 11)] hz0)) 0 0 (va_A [oO co 0 [.int len, .ref ta, .ref (q 0), .ref (q 1)], aT D ta 4 (tkF t), oO (q 0) 2 [.ref (b 0), .int (nI nc)], oO (q 1) 2 [.ref (b 1), .int (nI nc)], aI D (b 0) 8 ct, aI D (b 1) 8 cn, oO (t 0) 4 [.ref (r 0), .ref (r 1), .ref (r 2)], oO (r 0) 2 [.ref (a 0), .int (nI (sz 0))], oO (r 1) 2 [.ref (a 1), .int (nI (sz 0))], oO (r 2) 2 [.ref (a 2), .int (nI (sz 0))], aI D (a 0) 16 (f 0), aI D (a 1) 16 (f 1), aI D (a 2) 16 (f 2), oO (t 1) 4 [.ref (r 3), .ref (r 4), .ref (r 5)], oO (r 3) 2 [.ref (a 3), .int (nI (sz 1))], oO (r 4) 2 [.ref (a 4), .int (nI (sz 1))], oO (r 5) 2 [.ref (a 5), .int (nI (sz 1))], aI D (a 3) 16 (f 3), aI D (a 4) 16 (f 4), aI D (a 5) 16 (f 5), oO (t 2) 4 [.ref (r 6), .ref (r 7), .ref (r 8)], oO (r 6) 2 [.ref (a 6), .int (nI (sz 2))], oO (r 7) 2 [.ref (a 7), .int (nI (sz 2))], oO (r 8) 2 [.ref (a 8), .int (nI (sz 2))], aI D (a 6) 16 (f 6), aI D (a 7) 16 (f 7), aI D (a 8) 16 (f 8), oO (t 3) 4 [.ref (r 9), .ref (r 10), .ref (r 11)], oO (r 9) 2 [.ref (a 9), .int (nI (sz 3))], oO (r 10) 2 [.ref (a 10), .int (nI (sz 3))], oO (r 11) 2 [.ref (a 11), .int (nI (sz 3))], aI D (a 9) 16 (f 9), aI D (a 10) 16 (f 10), aI D (a 11) 16 (f 11)] hz0) := by
  refine Met.ofW (cc := cX0_stretch) (maxL := 7) (ret := none) (by decide) rfl ?_
  intro p e s m args below meth c s₁ B hml hv
  obtain ⟨rfl, hsz, hG, hP, hD0⟩ := hv
  have hx := B.exec
  have hb := B.bytes
  have hr := B.returns
  have hts : ∀ w ∈ wsL_law, w.before _ s = true := fun w h => atoms_spec (ws := (ws_ yX0_stretch cX0_stretch 7 none)) B.pre w (List.mem_cons_of_mem _ h)
  have hown : s.vm.findClass RX0 = some m.cls := findClass_of_methodNamed B.named
  have hlk := B.notSynchronized
  have hC : CallFix p m c cX0_stretch 7 s _ wsL_law RX0 := ⟨hx, hb, hml, hown, hts⟩
  subst hsz
  have hD := hD0.self (sz := s.heap.size)
  generalize hAe : va_A [oO co 0 [.int len, .ref ta, .ref (q 0), .ref (q 1)], aT D ta 4 (tkF t), oO (q 0) 2 [.ref (b 0), .int (nI nc)], oO (q 1) 2 [.ref (b 1), .int (nI nc)], aI D (b 0) 8 ct, aI D (b 1) 8 cn, oO (t 0) 4 [.ref (r 0), .ref (r 1), .ref (r 2)], oO (r 0) 2 [.ref (a 0), .int (nI (sz 0))], oO (r 1) 2 [.ref (a 1), .int (nI (sz 0))], oO (r 2) 2 [.ref (a 2), .int (nI (sz 0))], aI D (a 0) 16 (f 0), aI D (a 1) 16 (f 1), aI D (a 2) 16 (f 2), oO (t 1) 4 [.ref (r 3), .ref (r 4), .ref (r 5)], oO (r 3) 2 [.ref (a 3), .int (nI (sz 1))], oO (r 4) 2 [.ref (a 4), .int (nI (sz 1))], oO (r 5) 2 [.ref (a 5), .int (nI (sz 1))], aI D (a 3) 16 (f 3), aI D (a 4) 16 (f 4), aI D (a 5) 16 (f 5), oO (t 2) 4 [.ref (r 6), .ref (r 7), .ref (r 8)], oO (r 6) 2 [.ref (a 6), .int (nI (sz 2))], oO (r 7) 2 [.ref (a 7), .int (nI (sz 2))], oO (r 8) 2 [.ref (a 8), .int (nI (sz 2))], aI D (a 6) 16 (f 6), aI D (a 7) 16 (f 7), aI D (a 8) 16 (f 8), oO (t 3) 4 [.ref (r 9), .ref (r 10), .ref (r 11)], oO (r 9) 2 [.ref (a 9), .int (nI (sz 3))], oO (r 10) 2 [.ref (a 10), .int (nI (sz 3))], oO (r 11) 2 [.ref (a 11), .int (nI (sz 3))], aI D (a 9) 16 (f 9), aI D (a 10) 16 (f 10), aI D (a 11) 16 (f 11)] s.heap.size = A at hD ⊢
  have hA : ∀ q : Nat, s.heap.size ≤ q → A q := fun q h => by rw [← hAe]; exact Or.inr h
  have hS : va_S A s.heap s.heap [] := va_S.rf
  obtain ⟨H, hHe⟩ : ∃ H, H = s.heap := ⟨_, rfl⟩
  rw [← hHe] at hP
  have hS : va_S A s.heap H [] := by rw [hHe]; exact hS
  have hl := lv_entry ([.ref co, .int p1, .int q1]) (n := 7) (Nat.le_of_ble_eq_true rfl)
  rw [lg_entry_eq]
  generalize (lg_sl ([.ref co, .int p1, .int q1]) ++ List.replicate (7 - (lg_sl ([.ref co, .int p1, .int q1])).length) Slot.unset).toArray = ls at hl ⊢
  have hl : lv_has ls 7 [(0, .ref co), (1, .int p1), (2, .int q1)] := hl
  rw [← hHe]
  refine lv_aload_n hx hb dX0_stretch_0 rfl (lv_at hl 0 rfl) ?_
  refine va_get (D := D) (ci := 0) (v := .ref ta) (C := RX0) (T := TX0) (N := 4) hx hb hts inlX0 hown hG.K hP 0 rfl rfl 1 (by decide) (hts _ mF_X0_29) (fun _ h9 => h9) rfl dX0_stretch_1 ?_
  refine lv_astore_n (lv' := [(3, .ref ta), (0, .ref co), (1, .int p1), (2, .int q1)]) hx hb dX0_stretch_4 rfl hl (by decide) rfl (fun ls hl => ?_)
  refine lv_aload_n hx hb dX0_stretch_5 rfl (lv_at hl 0 rfl) ?_
  refine va_alen (v := nI 4) hx hb hG.K hP 1 3 rfl rfl rfl dX0_stretch_6 ?_
  refine lv_istore (lv' := [(4, .int (nI 4)), (3, .ref ta), (0, .ref co), (1, .int p1), (2, .int q1)]) hx hb dX0_stretch_7 hl (by decide) rfl (fun ls hl => ?_)
  refine lv_iconst (v := 0) hx hb dX0_stretch_9 (by decide) ?_
  refine lv_istore (lv' := [(5, .int 0), (4, .int (nI 4)), (3, .ref ta), (0, .ref co), (1, .int p1), (2, .int q1)]) hx hb dX0_stretch_10 hl (by decide) rfl (fun ls hl => ?_)
  refine lv_iload hx hb dX0_stretch_12 (lv_at hl 0 rfl) ?_
  refine lv_iload hx hb dX0_stretch_14 (lv_at hl 1 rfl) ?_
  refine lv_icmp_ge (tgt := 41) hx hb dX0_stretch_16 (by decide) (fun h9 => absurd h9 (by decide)) (fun _ => ?_)
  refine lv_aload_n hx hb dX0_stretch_19 rfl (lv_at hl 2 rfl) ?_
  refine lv_iload hx hb dX0_stretch_20 (lv_at hl 0 rfl) ?_
  refine ald (n := 4) (j := 0) hx hb hG hP 1 3 rfl rfl (by omega) (by omega) dX0_stretch_22 ?_
  refine tpv (y := .ref (t 0)) (tkF_ref (by omega)) ?_
  refine lv_astore (lv' := [(6, .ref (t 0)), (5, .int 0), (4, .int (nI 4)), (3, .ref ta), (0, .ref co), (1, .int p1), (2, .int q1)]) hx hb dX0_stretch_23 hl (by decide) rfl (fun ls hl => ?_)
  refine lv_aload hx hb dX0_stretch_25 (lv_at hl 0 rfl) ?_
  refine va_getN (D := D) (ci := 4) (v := .ref (r 0)) (C := RX4) (T := TX4) (N := 3) hx hb hts inlX4 hown hG.K hP 6 rfl rfl 0 (by decide) (va_Nw.use rfl (nF_KeyStage_Clip_73 hG)) (fun _ h9 => h9) rfl dX0_stretch_27 ?_
  refine lv_iload_n hx hb dX0_stretch_30 rfl (lv_at hl 5 rfl) ?_
  refine lv_iload_n hx hb dX0_stretch_31 rfl (lv_at hl 6 rfl) ?_
  have hP9 := hP.sub (ws' := [oO (r 0) 2 [.ref (a 0), .int (nI (sz 0))], aI D (a 0) 16 (f 0)]) [7, 10] rfl
  have hD9 := (hD.sub (ws' := [oO (r 0) 2 [.ref (a 0), .int (nI (sz 0))], aI D (a 0) 16 (f 0)]) [7, 10] (by decide) rfl).weaken (B := fun _ => True) (fun _ _ _ _ => trivial)
  refine kv (wr := [oO co 0 [.int len, .ref ta, .ref (q 0), .ref (q 1)], aT D ta 4 (tkF t), oO (q 0) 2 [.ref (b 0), .int (nI nc)], oO (q 1) 2 [.ref (b 1), .int (nI nc)], aI D (b 0) 8 ct, aI D (b 1) 8 cn, oO (t 0) 4 [.ref (r 0), .ref (r 1), .ref (r 2)], oO (r 1) 2 [.ref (a 1), .int (nI (sz 0))], oO (r 2) 2 [.ref (a 2), .int (nI (sz 0))], aI D (a 1) 16 (f 1), aI D (a 2) 16 (f 2), oO (t 1) 4 [.ref (r 3), .ref (r 4), .ref (r 5)], oO (r 3) 2 [.ref (a 3), .int (nI (sz 1))], oO (r 4) 2 [.ref (a 4), .int (nI (sz 1))], oO (r 5) 2 [.ref (a 5), .int (nI (sz 1))], aI D (a 3) 16 (f 3), aI D (a 4) 16 (f 4), aI D (a 5) 16 (f 5), oO (t 2) 4 [.ref (r 6), .ref (r 7), .ref (r 8)], oO (r 6) 2 [.ref (a 6), .int (nI (sz 2))], oO (r 7) 2 [.ref (a 7), .int (nI (sz 2))], oO (r 8) 2 [.ref (a 8), .int (nI (sz 2))], aI D (a 6) 16 (f 6), aI D (a 7) 16 (f 7), aI D (a 8) 16 (f 8), oO (t 3) 4 [.ref (r 9), .ref (r 10), .ref (r 11)], oO (r 9) 2 [.ref (a 9), .int (nI (sz 3))], oO (r 10) 2 [.ref (a 10), .int (nI (sz 3))], oO (r 11) 2 [.ref (a 11), .int (nI (sz 3))], aI D (a 9) 16 (f 9), aI D (a 10) 16 (f 10), aI D (a 11) 16 (f 11)]) (rV (rest := []) (qc := (RX2, TX2, 2)) [.int p1, .int q1] 2 0 0 hC (c_stretchTimes l D (r := r 0) (x := p1) (y := q1) (a := a 0) (sz := sz 0) (n := 16) (f := f 0) (hz0 := H.size) (by omega) (by omega) (hq)) rfl (hP 7 _ rfl) (gV mM_X0_76 mI_X2_stretchTimes mS_X2_stretchTimes mN_X2 mC_X2_stretchTimes) (by decide +kernel) rfl rfl ⟨Nat.le_of_ble_eq_true rfl, Nat.le_of_ble_eq_true rfl⟩ hG hP9 hD9 rfl hl.1 rfl (Nat.le_of_ble_eq_true rfl) dX0_stretch_32 ⟨Nat.le_of_ble_eq_true rfl, Nat.le_of_ble_eq_true rfl⟩) hP hD hS hA [7, 10] [0, 1, 2, 3, 4, 5, 6, 8, 9, 11, 12, 13, 14, 15, 16, 17, 18, 19, 20, 21, 22, 23, 24, 25, 26, 27, 28, 29, 30, 31, 32, 33] rfl rfl (by decide) (by decide) (fun u32 H locs h32 hP hD hS hz hfr => ?_)
  have hP : va_P D cls [oO co 0 [.int len, .ref ta, .ref (q 0), .ref (q 1)], aT D ta 4 (tkF t), oO (q 0) 2 [.ref (b 0), .int (nI nc)], oO (q 1) 2 [.ref (b 1), .int (nI nc)], aI D (b 0) 8 ct, aI D (b 1) 8 cn, oO (t 0) 4 [.ref (r 0), .ref (r 1), .ref (r 2)], oO (r 1) 2 [.ref (a 1), .int (nI (sz 0))], oO (r 2) 2 [.ref (a 2), .int (nI (sz 0))], aI D (a 1) 16 (f 1), aI D (a 2) 16 (f 2), oO (t 1) 4 [.ref (r 3), .ref (r 4), .ref (r 5)], oO (r 3) 2 [.ref (a 3), .int (nI (sz 1))], oO (r 4) 2 [.ref (a 4), .int (nI (sz 1))], oO (r 5) 2 [.ref (a 5), .int (nI (sz 1))], aI D (a 3) 16 (f 3), aI D (a 4) 16 (f 4), aI D (a 5) 16 (f 5), oO (t 2) 4 [.ref (r 6), .ref (r 7), .ref (r 8)], oO (r 6) 2 [.ref (a 6), .int (nI (sz 2))], oO (r 7) 2 [.ref (a 7), .int (nI (sz 2))], oO (r 8) 2 [.ref (a 8), .int (nI (sz 2))], aI D (a 6) 16 (f 6), aI D (a 7) 16 (f 7), aI D (a 8) 16 (f 8), oO (t 3) 4 [.ref (r 9), .ref (r 10), .ref (r 11)], oO (r 9) 2 [.ref (a 9), .int (nI (sz 3))], oO (r 10) 2 [.ref (a 10), .int (nI (sz 3))], oO (r 11) 2 [.ref (a 11), .int (nI (sz 3))], aI D (a 9) 16 (f 9), aI D (a 10) 16 (f 10), aI D (a 11) 16 (f 11), oO (r 0) 2 [.ref (a 0), .int (nI (sz 0))], aI D (a 0) 16 (mpF (fun z => z * p1 / q1) (f 0) (sz 0))] H := hP
  have hD : va_D A [oO co 0 [.int len, .ref ta, .ref (q 0), .ref (q 1)], aT D ta 4 (tkF t), oO (q 0) 2 [.ref (b 0), .int (nI nc)], oO (q 1) 2 [.ref (b 1), .int (nI nc)], aI D (b 0) 8 ct, aI D (b 1) 8 cn, oO (t 0) 4 [.ref (r 0), .ref (r 1), .ref (r 2)], oO (r 1) 2 [.ref (a 1), .int (nI (sz 0))], oO (r 2) 2 [.ref (a 2), .int (nI (sz 0))], aI D (a 1) 16 (f 1), aI D (a 2) 16 (f 2), oO (t 1) 4 [.ref (r 3), .ref (r 4), .ref (r 5)], oO (r 3) 2 [.ref (a 3), .int (nI (sz 1))], oO (r 4) 2 [.ref (a 4), .int (nI (sz 1))], oO (r 5) 2 [.ref (a 5), .int (nI (sz 1))], aI D (a 3) 16 (f 3), aI D (a 4) 16 (f 4), aI D (a 5) 16 (f 5), oO (t 2) 4 [.ref (r 6), .ref (r 7), .ref (r 8)], oO (r 6) 2 [.ref (a 6), .int (nI (sz 2))], oO (r 7) 2 [.ref (a 7), .int (nI (sz 2))], oO (r 8) 2 [.ref (a 8), .int (nI (sz 2))], aI D (a 6) 16 (f 6), aI D (a 7) 16 (f 7), aI D (a 8) 16 (f 8), oO (t 3) 4 [.ref (r 9), .ref (r 10), .ref (r 11)], oO (r 9) 2 [.ref (a 9), .int (nI (sz 3))], oO (r 10) 2 [.ref (a 10), .int (nI (sz 3))], oO (r 11) 2 [.ref (a 11), .int (nI (sz 3))], aI D (a 9) 16 (f 9), aI D (a 10) 16 (f 10), aI D (a 11) 16 (f 11), oO (r 0) 2 [.ref (a 0), .int (nI (sz 0))], aI D (a 0) 16 (mpF (fun z => z * p1 / q1) (f 0) (sz 0))] := hD
  refine lv_iinc (v := 1) (lv' := [(5, .int 1), (6, .ref (t 0)), (4, .int (nI 4)), (3, .ref ta), (0, .ref co), (1, .int p1), (2, .int q1)]) hx hb dX0_stretch_35 hl (k := 1) rfl (by decide) (by decide) rfl (fun ls hl => ?_)
  refine lv_goto (tgt := 12) hx hb dX0_stretch_38 (by decide) ?_
  refine lv_iload hx hb dX0_stretch_12 (lv_at hl 0 rfl) ?_
  refine lv_iload hx hb dX0_stretch_14 (lv_at hl 2 rfl) ?_
  refine lv_icmp_ge (tgt := 41) hx hb dX0_stretch_16 (by decide) (fun h9 => absurd h9 (by decide)) (fun _ => ?_)
  refine lv_aload_n hx hb dX0_stretch_19 rfl (lv_at hl 3 rfl) ?_
  refine lv_iload hx hb dX0_stretch_20 (lv_at hl 0 rfl) ?_
  refine ald (n := 4) (j := 1) hx hb hG hP 1 3 rfl rfl (by omega) (by omega) dX0_stretch_22 ?_
  refine tpv (y := .ref (t 1)) (tkF_ref (by omega)) ?_
  refine lv_astore (lv' := [(6, .ref (t 1)), (5, .int 1), (4, .int (nI 4)), (3, .ref ta), (0, .ref co), (1, .int p1), (2, .int q1)]) hx hb dX0_stretch_23 hl (by decide) rfl (fun ls hl => ?_)
  refine lv_aload hx hb dX0_stretch_25 (lv_at hl 0 rfl) ?_
  refine va_getN (D := D) (ci := 4) (v := .ref (r 3)) (C := RX4) (T := TX4) (N := 3) hx hb hts inlX4 hown hG.K hP 11 rfl rfl 0 (by decide) (va_Nw.use rfl (nF_KeyStage_Clip_73 hG)) (fun _ h9 => h9) rfl dX0_stretch_27 ?_
  refine lv_iload_n hx hb dX0_stretch_30 rfl (lv_at hl 5 rfl) ?_
  refine lv_iload_n hx hb dX0_stretch_31 rfl (lv_at hl 6 rfl) ?_
  have hP9 := hP.sub (ws' := [oO (r 3) 2 [.ref (a 3), .int (nI (sz 1))], aI D (a 3) 16 (f 3)]) [12, 15] rfl
  have hD9 := (hD.sub (ws' := [oO (r 3) 2 [.ref (a 3), .int (nI (sz 1))], aI D (a 3) 16 (f 3)]) [12, 15] (by decide) rfl).weaken (B := fun _ => True) (fun _ _ _ _ => trivial)
  refine kv (wr := [oO co 0 [.int len, .ref ta, .ref (q 0), .ref (q 1)], aT D ta 4 (tkF t), oO (q 0) 2 [.ref (b 0), .int (nI nc)], oO (q 1) 2 [.ref (b 1), .int (nI nc)], aI D (b 0) 8 ct, aI D (b 1) 8 cn, oO (t 0) 4 [.ref (r 0), .ref (r 1), .ref (r 2)], oO (r 1) 2 [.ref (a 1), .int (nI (sz 0))], oO (r 2) 2 [.ref (a 2), .int (nI (sz 0))], aI D (a 1) 16 (f 1), aI D (a 2) 16 (f 2), oO (t 1) 4 [.ref (r 3), .ref (r 4), .ref (r 5)], oO (r 4) 2 [.ref (a 4), .int (nI (sz 1))], oO (r 5) 2 [.ref (a 5), .int (nI (sz 1))], aI D (a 4) 16 (f 4), aI D (a 5) 16 (f 5), oO (t 2) 4 [.ref (r 6), .ref (r 7), .ref (r 8)], oO (r 6) 2 [.ref (a 6), .int (nI (sz 2))], oO (r 7) 2 [.ref (a 7), .int (nI (sz 2))], oO (r 8) 2 [.ref (a 8), .int (nI (sz 2))], aI D (a 6) 16 (f 6), aI D (a 7) 16 (f 7), aI D (a 8) 16 (f 8), oO (t 3) 4 [.ref (r 9), .ref (r 10), .ref (r 11)], oO (r 9) 2 [.ref (a 9), .int (nI (sz 3))], oO (r 10) 2 [.ref (a 10), .int (nI (sz 3))], oO (r 11) 2 [.ref (a 11), .int (nI (sz 3))], aI D (a 9) 16 (f 9), aI D (a 10) 16 (f 10), aI D (a 11) 16 (f 11), oO (r 0) 2 [.ref (a 0), .int (nI (sz 0))], aI D (a 0) 16 (mpF (fun z => z * p1 / q1) (f 0) (sz 0))]) (rV (rest := []) (qc := (RX2, TX2, 2)) [.int p1, .int q1] 2 0 0 hC (c_stretchTimes l D (r := r 3) (x := p1) (y := q1) (a := a 3) (sz := sz 1) (n := 16) (f := f 3) (hz0 := H.size) (by omega) (by omega) (hq)) rfl (hP 12 _ rfl) (gV mM_X0_76 mI_X2_stretchTimes mS_X2_stretchTimes mN_X2 mC_X2_stretchTimes) (by decide +kernel) rfl rfl ⟨Nat.le_of_ble_eq_true rfl, Nat.le_of_ble_eq_true rfl⟩ hG hP9 hD9 rfl hl.1 rfl (Nat.le_of_ble_eq_true rfl) dX0_stretch_32 ⟨Nat.le_of_ble_eq_true rfl, Nat.le_of_ble_eq_true rfl⟩) hP hD hS hA [12, 15] [0, 1, 2, 3, 4, 5, 6, 7, 8, 9, 10, 11, 13, 14, 16, 17, 18, 19, 20, 21, 22, 23, 24, 25, 26, 27, 28, 29, 30, 31, 32, 33] rfl rfl (by decide) (by decide) (fun u32 H locs h32 hP hD hS hz hfr => ?_)
  have hP : va_P D cls [oO co 0 [.int len, .ref ta, .ref (q 0), .ref (q 1)], aT D ta 4 (tkF t), oO (q 0) 2 [.ref (b 0), .int (nI nc)], oO (q 1) 2 [.ref (b 1), .int (nI nc)], aI D (b 0) 8 ct, aI D (b 1) 8 cn, oO (t 0) 4 [.ref (r 0), .ref (r 1), .ref (r 2)], oO (r 1) 2 [.ref (a 1), .int (nI (sz 0))], oO (r 2) 2 [.ref (a 2), .int (nI (sz 0))], aI D (a 1) 16 (f 1), aI D (a 2) 16 (f 2), oO (t 1) 4 [.ref (r 3), .ref (r 4), .ref (r 5)], oO (r 4) 2 [.ref (a 4), .int (nI (sz 1))], oO (r 5) 2 [.ref (a 5), .int (nI (sz 1))], aI D (a 4) 16 (f 4), aI D (a 5) 16 (f 5), oO (t 2) 4 [.ref (r 6), .ref (r 7), .ref (r 8)], oO (r 6) 2 [.ref (a 6), .int (nI (sz 2))], oO (r 7) 2 [.ref (a 7), .int (nI (sz 2))], oO (r 8) 2 [.ref (a 8), .int (nI (sz 2))], aI D (a 6) 16 (f 6), aI D (a 7) 16 (f 7), aI D (a 8) 16 (f 8), oO (t 3) 4 [.ref (r 9), .ref (r 10), .ref (r 11)], oO (r 9) 2 [.ref (a 9), .int (nI (sz 3))], oO (r 10) 2 [.ref (a 10), .int (nI (sz 3))], oO (r 11) 2 [.ref (a 11), .int (nI (sz 3))], aI D (a 9) 16 (f 9), aI D (a 10) 16 (f 10), aI D (a 11) 16 (f 11), oO (r 0) 2 [.ref (a 0), .int (nI (sz 0))], aI D (a 0) 16 (mpF (fun z => z * p1 / q1) (f 0) (sz 0)), oO (r 3) 2 [.ref (a 3), .int (nI (sz 1))], aI D (a 3) 16 (mpF (fun z => z * p1 / q1) (f 3) (sz 1))] H := hP
  have hD : va_D A [oO co 0 [.int len, .ref ta, .ref (q 0), .ref (q 1)], aT D ta 4 (tkF t), oO (q 0) 2 [.ref (b 0), .int (nI nc)], oO (q 1) 2 [.ref (b 1), .int (nI nc)], aI D (b 0) 8 ct, aI D (b 1) 8 cn, oO (t 0) 4 [.ref (r 0), .ref (r 1), .ref (r 2)], oO (r 1) 2 [.ref (a 1), .int (nI (sz 0))], oO (r 2) 2 [.ref (a 2), .int (nI (sz 0))], aI D (a 1) 16 (f 1), aI D (a 2) 16 (f 2), oO (t 1) 4 [.ref (r 3), .ref (r 4), .ref (r 5)], oO (r 4) 2 [.ref (a 4), .int (nI (sz 1))], oO (r 5) 2 [.ref (a 5), .int (nI (sz 1))], aI D (a 4) 16 (f 4), aI D (a 5) 16 (f 5), oO (t 2) 4 [.ref (r 6), .ref (r 7), .ref (r 8)], oO (r 6) 2 [.ref (a 6), .int (nI (sz 2))], oO (r 7) 2 [.ref (a 7), .int (nI (sz 2))], oO (r 8) 2 [.ref (a 8), .int (nI (sz 2))], aI D (a 6) 16 (f 6), aI D (a 7) 16 (f 7), aI D (a 8) 16 (f 8), oO (t 3) 4 [.ref (r 9), .ref (r 10), .ref (r 11)], oO (r 9) 2 [.ref (a 9), .int (nI (sz 3))], oO (r 10) 2 [.ref (a 10), .int (nI (sz 3))], oO (r 11) 2 [.ref (a 11), .int (nI (sz 3))], aI D (a 9) 16 (f 9), aI D (a 10) 16 (f 10), aI D (a 11) 16 (f 11), oO (r 0) 2 [.ref (a 0), .int (nI (sz 0))], aI D (a 0) 16 (mpF (fun z => z * p1 / q1) (f 0) (sz 0)), oO (r 3) 2 [.ref (a 3), .int (nI (sz 1))], aI D (a 3) 16 (mpF (fun z => z * p1 / q1) (f 3) (sz 1))] := hD
  refine lv_iinc (v := 2) (lv' := [(5, .int 2), (6, .ref (t 1)), (4, .int (nI 4)), (3, .ref ta), (0, .ref co), (1, .int p1), (2, .int q1)]) hx hb dX0_stretch_35 hl (k := 1) rfl (by decide) (by decide) rfl (fun ls hl => ?_)
  refine lv_goto (tgt := 12) hx hb dX0_stretch_38 (by decide) ?_
  refine lv_iload hx hb dX0_stretch_12 (lv_at hl 0 rfl) ?_
  refine lv_iload hx hb dX0_stretch_14 (lv_at hl 2 rfl) ?_
  refine lv_icmp_ge (tgt := 41) hx hb dX0_stretch_16 (by decide) (fun h9 => absurd h9 (by decide)) (fun _ => ?_)
  refine lv_aload_n hx hb dX0_stretch_19 rfl (lv_at hl 3 rfl) ?_
  refine lv_iload hx hb dX0_stretch_20 (lv_at hl 0 rfl) ?_
  refine ald (n := 4) (j := 2) hx hb hG hP 1 3 rfl rfl (by omega) (by omega) dX0_stretch_22 ?_
  refine tpv (y := .ref (t 2)) (tkF_ref (by omega)) ?_
  refine lv_astore (lv' := [(6, .ref (t 2)), (5, .int 2), (4, .int (nI 4)), (3, .ref ta), (0, .ref co), (1, .int p1), (2, .int q1)]) hx hb dX0_stretch_23 hl (by decide) rfl (fun ls hl => ?_)
  refine lv_aload hx hb dX0_stretch_25 (lv_at hl 0 rfl) ?_
  refine va_getN (D := D) (ci := 4) (v := .ref (r 6)) (C := RX4) (T := TX4) (N := 3) hx hb hts inlX4 hown hG.K hP 16 rfl rfl 0 (by decide) (va_Nw.use rfl (nF_KeyStage_Clip_73 hG)) (fun _ h9 => h9) rfl dX0_stretch_27 ?_
  refine lv_iload_n hx hb dX0_stretch_30 rfl (lv_at hl 5 rfl) ?_
  refine lv_iload_n hx hb dX0_stretch_31 rfl (lv_at hl 6 rfl) ?_
  have hP9 := hP.sub (ws' := [oO (r 6) 2 [.ref (a 6), .int (nI (sz 2))], aI D (a 6) 16 (f 6)]) [17, 20] rfl
  have hD9 := (hD.sub (ws' := [oO (r 6) 2 [.ref (a 6), .int (nI (sz 2))], aI D (a 6) 16 (f 6)]) [17, 20] (by decide) rfl).weaken (B := fun _ => True) (fun _ _ _ _ => trivial)
  refine kv (wr := [oO co 0 [.int len, .ref ta, .ref (q 0), .ref (q 1)], aT D ta 4 (tkF t), oO (q 0) 2 [.ref (b 0), .int (nI nc)], oO (q 1) 2 [.ref (b 1), .int (nI nc)], aI D (b 0) 8 ct, aI D (b 1) 8 cn, oO (t 0) 4 [.ref (r 0), .ref (r 1), .ref (r 2)], oO (r 1) 2 [.ref (a 1), .int (nI (sz 0))], oO (r 2) 2 [.ref (a 2), .int (nI (sz 0))], aI D (a 1) 16 (f 1), aI D (a 2) 16 (f 2), oO (t 1) 4 [.ref (r 3), .ref (r 4), .ref (r 5)], oO (r 4) 2 [.ref (a 4), .int (nI (sz 1))], oO (r 5) 2 [.ref (a 5), .int (nI (sz 1))], aI D (a 4) 16 (f 4), aI D (a 5) 16 (f 5), oO (t 2) 4 [.ref (r 6), .ref (r 7), .ref (r 8)], oO (r 7) 2 [.ref (a 7), .int (nI (sz 2))], oO (r 8) 2 [.ref (a 8), .int (nI (sz 2))], aI D (a 7) 16 (f 7), aI D (a 8) 16 (f 8), oO (t 3) 4 [.ref (r 9), .ref (r 10), .ref (r 11)], oO (r 9) 2 [.ref (a 9), .int (nI (sz 3))], oO (r 10) 2 [.ref (a 10), .int (nI (sz 3))], oO (r 11) 2 [.ref (a 11), .int (nI (sz 3))], aI D (a 9) 16 (f 9), aI D (a 10) 16 (f 10), aI D (a 11) 16 (f 11), oO (r 0) 2 [.ref (a 0), .int (nI (sz 0))], aI D (a 0) 16 (mpF (fun z => z * p1 / q1) (f 0) (sz 0)), oO (r 3) 2 [.ref (a 3), .int (nI (sz 1))], aI D (a 3) 16 (mpF (fun z => z * p1 / q1) (f 3) (sz 1))]) (rV (rest := []) (qc := (RX2, TX2, 2)) [.int p1, .int q1] 2 0 0 hC (c_stretchTimes l D (r := r 6) (x := p1) (y := q1) (a := a 6) (sz := sz 2) (n := 16) (f := f 6) (hz0 := H.size) (by omega) (by omega) (hq)) rfl (hP 17 _ rfl) (gV mM_X0_76 mI_X2_stretchTimes mS_X2_stretchTimes mN_X2 mC_X2_stretchTimes) (by decide +kernel) rfl rfl ⟨Nat.le_of_ble_eq_true rfl, Nat.le_of_ble_eq_true rfl⟩ hG hP9 hD9 rfl hl.1 rfl (Nat.le_of_ble_eq_true rfl) dX0_stretch_32 ⟨Nat.le_of_ble_eq_true rfl, Nat.le_of_ble_eq_true rfl⟩) hP hD hS hA [17, 20] [0, 1, 2, 3, 4, 5, 6, 7, 8, 9, 10, 11, 12, 13, 14, 15, 16, 18, 19, 21, 22, 23, 24, 25, 26, 27, 28, 29, 30, 31, 32, 33] rfl rfl (by decide) (by decide) (fun u32 H locs h32 hP hD hS hz hfr => ?_)
  have hP : va_P D cls [oO co 0 [.int len, .ref ta, .ref (q 0), .ref (q 1)], aT D ta 4 (tkF t), oO (q 0) 2 [.ref (b 0), .int (nI nc)], oO (q 1) 2 [.ref (b 1), .int (nI nc)], aI D (b 0) 8 ct, aI D (b 1) 8 cn, oO (t 0) 4 [.ref (r 0), .ref (r 1), .ref (r 2)], oO (r 1) 2 [.ref (a 1), .int (nI (sz 0))], oO (r 2) 2 [.ref (a 2), .int (nI (sz 0))], aI D (a 1) 16 (f 1), aI D (a 2) 16 (f 2), oO (t 1) 4 [.ref (r 3), .ref (r 4), .ref (r 5)], oO (r 4) 2 [.ref (a 4), .int (nI (sz 1))], oO (r 5) 2 [.ref (a 5), .int (nI (sz 1))], aI D (a 4) 16 (f 4), aI D (a 5) 16 (f 5), oO (t 2) 4 [.ref (r 6), .ref (r 7), .ref (r 8)], oO (r 7) 2 [.ref (a 7), .int (nI (sz 2))], oO (r 8) 2 [.ref (a 8), .int (nI (sz 2))], aI D (a 7) 16 (f 7), aI D (a 8) 16 (f 8), oO (t 3) 4 [.ref (r 9), .ref (r 10), .ref (r 11)], oO (r 9) 2 [.ref (a 9), .int (nI (sz 3))], oO (r 10) 2 [.ref (a 10), .int (nI (sz 3))], oO (r 11) 2 [.ref (a 11), .int (nI (sz 3))], aI D (a 9) 16 (f 9), aI D (a 10) 16 (f 10), aI D (a 11) 16 (f 11), oO (r 0) 2 [.ref (a 0), .int (nI (sz 0))], aI D (a 0) 16 (mpF (fun z => z * p1 / q1) (f 0) (sz 0)), oO (r 3) 2 [.ref (a 3), .int (nI (sz 1))], aI D (a 3) 16 (mpF (fun z => z * p1 / q1) (f 3) (sz 1)), oO (r 6) 2 [.ref (a 6), .int (nI (sz 2))], aI D (a 6) 16 (mpF (fun z => z * p1 / q1) (f 6) (sz 2))] H := hP
  have hD : va_D A [oO co 0 [.int len, .ref ta, .ref (q 0), .ref (q 1)], aT D ta 4 (tkF t), oO (q 0) 2 [.ref (b 0), .int (nI nc)], oO (q 1) 2 [.ref (b 1), .int (nI nc)], aI D (b 0) 8 ct, aI D (b 1) 8 cn, oO (t 0) 4 [.ref (r 0), .ref (r 1), .ref (r 2)], oO (r 1) 2 [.ref (a 1), .int (nI (sz 0))], oO (r 2) 2 [.ref (a 2), .int (nI (sz 0))], aI D (a 1) 16 (f 1), aI D (a 2) 16 (f 2), oO (t 1) 4 [.ref (r 3), .ref (r 4), .ref (r 5)], oO (r 4) 2 [.ref (a 4), .int (nI (sz 1))], oO (r 5) 2 [.ref (a 5), .int (nI (sz 1))], aI D (a 4) 16 (f 4), aI D (a 5) 16 (f 5), oO (t 2) 4 [.ref (r 6), .ref (r 7), .ref (r 8)], oO (r 7) 2 [.ref (a 7), .int (nI (sz 2))], oO (r 8) 2 [.ref (a 8), .int (nI (sz 2))], aI D (a 7) 16 (f 7), aI D (a 8) 16 (f 8), oO (t 3) 4 [.ref (r 9), .ref (r 10), .ref (r 11)], oO (r 9) 2 [.ref (a 9), .int (nI (sz 3))], oO (r 10) 2 [.ref (a 10), .int (nI (sz 3))], oO (r 11) 2 [.ref (a 11), .int (nI (sz 3))], aI D (a 9) 16 (f 9), aI D (a 10) 16 (f 10), aI D (a 11) 16 (f 11), oO (r 0) 2 [.ref (a 0), .int (nI (sz 0))], aI D (a 0) 16 (mpF (fun z => z * p1 / q1) (f 0) (sz 0)), oO (r 3) 2 [.ref (a 3), .int (nI (sz 1))], aI D (a 3) 16 (mpF (fun z => z * p1 / q1) (f 3) (sz 1)), oO (r 6) 2 [.ref (a 6), .int (nI (sz 2))], aI D (a 6) 16 (mpF (fun z => z * p1 / q1) (f 6) (sz 2))] := hD
  refine lv_iinc (v := 3) (lv' := [(5, .int 3), (6, .ref (t 2)), (4, .int (nI 4)), (3, .ref ta), (0, .ref co), (1, .int p1), (2, .int q1)]) hx hb dX0_stretch_35 hl (k := 1) rfl (by decide) (by decide) rfl (fun ls hl => ?_)
  refine lv_goto (tgt := 12) hx hb dX0_stretch_38 (by decide) ?_
  refine lv_iload hx hb dX0_stretch_12 (lv_at hl 0 rfl) ?_
  refine lv_iload hx hb dX0_stretch_14 (lv_at hl 2 rfl) ?_
  refine lv_icmp_ge (tgt := 41) hx hb dX0_stretch_16 (by decide) (fun h9 => absurd h9 (by decide)) (fun _ => ?_)
  refine lv_aload_n hx hb dX0_stretch_19 rfl (lv_at hl 3 rfl) ?_
  refine lv_iload hx hb dX0_stretch_20 (lv_at hl 0 rfl) ?_
  refine ald (n := 4) (j := 3) hx hb hG hP 1 3 rfl rfl (by omega) (by omega) dX0_stretch_22 ?_
  refine tpv (y := .ref (t 3)) (tkF_ref (by omega)) ?_
  refine lv_astore (lv' := [(6, .ref (t 3)), (5, .int 3), (4, .int (nI 4)), (3, .ref ta), (0, .ref co), (1, .int p1), (2, .int q1)]) hx hb dX0_stretch_23 hl (by decide) rfl (fun ls hl => ?_)
  refine lv_aload hx hb dX0_stretch_25 (lv_at hl 0 rfl) ?_
  refine va_getN (D := D) (ci := 4) (v := .ref (r 9)) (C := RX4) (T := TX4) (N := 3) hx hb hts inlX4 hown hG.K hP 21 rfl rfl 0 (by decide) (va_Nw.use rfl (nF_KeyStage_Clip_73 hG)) (fun _ h9 => h9) rfl dX0_stretch_27 ?_
  refine lv_iload_n hx hb dX0_stretch_30 rfl (lv_at hl 5 rfl) ?_
  refine lv_iload_n hx hb dX0_stretch_31 rfl (lv_at hl 6 rfl) ?_
  have hP9 := hP.sub (ws' := [oO (r 9) 2 [.ref (a 9), .int (nI (sz 3))], aI D (a 9) 16 (f 9)]) [22, 25] rfl
  have hD9 := (hD.sub (ws' := [oO (r 9) 2 [.ref (a 9), .int (nI (sz 3))], aI D (a 9) 16 (f 9)]) [22, 25] (by decide) rfl).weaken (B := fun _ => True) (fun _ _ _ _ => trivial)
  refine kv (wr := [oO co 0 [.int len, .ref ta, .ref (q 0), .ref (q 1)], aT D ta 4 (tkF t), oO (q 0) 2 [.ref (b 0), .int (nI nc)], oO (q 1) 2 [.ref (b 1), .int (nI nc)], aI D (b 0) 8 ct, aI D (b 1) 8 cn, oO (t 0) 4 [.ref (r 0), .ref (r 1), .ref (r 2)], oO (r 1) 2 [.ref (a 1), .int (nI (sz 0))], oO (r 2) 2 [.ref (a 2), .int (nI (sz 0))], aI D (a 1) 16 (f 1), aI D (a 2) 16 (f 2), oO (t 1) 4 [.ref (r 3), .ref (r 4), .ref (r 5)], oO (r 4) 2 [.ref (a 4), .int (nI (sz 1))], oO (r 5) 2 [.ref (a 5), .int (nI (sz 1))], aI D (a 4) 16 (f 4), aI D (a 5) 16 (f 5), oO (t 2) 4 [.ref (r 6), .ref (r 7), .ref (r 8)], oO (r 7) 2 [.ref (a 7), .int (nI (sz 2))], oO (r 8) 2 [.ref (a 8), .int (nI (sz 2))], aI D (a 7) 16 (f 7), aI D (a 8) 16 (f 8), oO (t 3) 4 [.ref (r 9), .ref (r 10), .ref (r 11)], oO (r 10) 2 [.ref (a 10), .int (nI (sz 3))], oO (r 11) 2 [.ref (a 11), .int (nI (sz 3))], aI D (a 10) 16 (f 10), aI D (a 11) 16 (f 11), oO (r 0) 2 [.ref (a 0), .int (nI (sz 0))], aI D (a 0) 16 (mpF (fun z => z * p1 / q1) (f 0) (sz 0)), oO (r 3) 2 [.ref (a 3), .int (nI (sz 1))], aI D (a 3) 16 (mpF (fun z => z * p1 / q1) (f 3) (sz 1)), oO (r 6) 2 [.ref (a 6), .int (nI (sz 2))], aI D (a 6) 16 (mpF (fun z => z * p1 / q1) (f 6) (sz 2))]) (rV (rest := []) (qc := (RX2, TX2, 2)) [.int p1, .int q1] 2 0 0 hC (c_stretchTimes l D (r := r 9) (x := p1) (y := q1) (a := a 9) (sz := sz 3) (n := 16) (f := f 9) (hz0 := H.size) (by omega) (by omega) (hq)) rfl (hP 22 _ rfl) (gV mM_X0_76 mI_X2_stretchTimes mS_X2_stretchTimes mN_X2 mC_X2_stretchTimes) (by decide +kernel) rfl rfl ⟨Nat.le_of_ble_eq_true rfl, Nat.le_of_ble_eq_true rfl⟩ hG hP9 hD9 rfl hl.1 rfl (Nat.le_of_ble_eq_true rfl) dX0_stretch_32 ⟨Nat.le_of_ble_eq_true rfl, Nat.le_of_ble_eq_true rfl⟩) hP hD hS hA [22, 25] [0, 1, 2, 3, 4, 5, 6, 7, 8, 9, 10, 11, 12, 13, 14, 15, 16, 17, 18, 19, 20, 21, 23, 24, 26, 27, 28, 29, 30, 31, 32, 33] rfl rfl (by decide) (by decide) (fun u32 H locs h32 hP hD hS hz hfr => ?_)
  have hP : va_P D cls [oO co 0 [.int len, .ref ta, .ref (q 0), .ref (q 1)], aT D ta 4 (tkF t), oO (q 0) 2 [.ref (b 0), .int (nI nc)], oO (q 1) 2 [.ref (b 1), .int (nI nc)], aI D (b 0) 8 ct, aI D (b 1) 8 cn, oO (t 0) 4 [.ref (r 0), .ref (r 1), .ref (r 2)], oO (r 1) 2 [.ref (a 1), .int (nI (sz 0))], oO (r 2) 2 [.ref (a 2), .int (nI (sz 0))], aI D (a 1) 16 (f 1), aI D (a 2) 16 (f 2), oO (t 1) 4 [.ref (r 3), .ref (r 4), .ref (r 5)], oO (r 4) 2 [.ref (a 4), .int (nI (sz 1))], oO (r 5) 2 [.ref (a 5), .int (nI (sz 1))], aI D (a 4) 16 (f 4), aI D (a 5) 16 (f 5), oO (t 2) 4 [.ref (r 6), .ref (r 7), .ref (r 8)], oO (r 7) 2 [.ref (a 7), .int (nI (sz 2))], oO (r 8) 2 [.ref (a 8), .int (nI (sz 2))], aI D (a 7) 16 (f 7), aI D (a 8) 16 (f 8), oO (t 3) 4 [.ref (r 9), .ref (r 10), .ref (r 11)], oO (r 10) 2 [.ref (a 10), .int (nI (sz 3))], oO (r 11) 2 [.ref (a 11), .int (nI (sz 3))], aI D (a 10) 16 (f 10), aI D (a 11) 16 (f 11), oO (r 0) 2 [.ref (a 0), .int (nI (sz 0))], aI D (a 0) 16 (mpF (fun z => z * p1 / q1) (f 0) (sz 0)), oO (r 3) 2 [.ref (a 3), .int (nI (sz 1))], aI D (a 3) 16 (mpF (fun z => z * p1 / q1) (f 3) (sz 1)), oO (r 6) 2 [.ref (a 6), .int (nI (sz 2))], aI D (a 6) 16 (mpF (fun z => z * p1 / q1) (f 6) (sz 2)), oO (r 9) 2 [.ref (a 9), .int (nI (sz 3))], aI D (a 9) 16 (mpF (fun z => z * p1 / q1) (f 9) (sz 3))] H := hP
  have hD : va_D A [oO co 0 [.int len, .ref ta, .ref (q 0), .ref (q 1)], aT D ta 4 (tkF t), oO (q 0) 2 [.ref (b 0), .int (nI nc)], oO (q 1) 2 [.ref (b 1), .int (nI nc)], aI D (b 0) 8 ct, aI D (b 1) 8 cn, oO (t 0) 4 [.ref (r 0), .ref (r 1), .ref (r 2)], oO (r 1) 2 [.ref (a 1), .int (nI (sz 0))], oO (r 2) 2 [.ref (a 2), .int (nI (sz 0))], aI D (a 1) 16 (f 1), aI D (a 2) 16 (f 2), oO (t 1) 4 [.ref (r 3), .ref (r 4), .ref (r 5)], oO (r 4) 2 [.ref (a 4), .int (nI (sz 1))], oO (r 5) 2 [.ref (a 5), .int (nI (sz 1))], aI D (a 4) 16 (f 4), aI D (a 5) 16 (f 5), oO (t 2) 4 [.ref (r 6), .ref (r 7), .ref (r 8)], oO (r 7) 2 [.ref (a 7), .int (nI (sz 2))], oO (r 8) 2 [.ref (a 8), .int (nI (sz 2))], aI D (a 7) 16 (f 7), aI D (a 8) 16 (f 8), oO (t 3) 4 [.ref (r 9), .ref (r 10), .ref (r 11)], oO (r 10) 2 [.ref (a 10), .int (nI (sz 3))], oO (r 11) 2 [.ref (a 11), .int (nI (sz 3))], aI D (a 10) 16 (f 10), aI D (a 11) 16 (f 11), oO (r 0) 2 [.ref (a 0), .int (nI (sz 0))], aI D (a 0) 16 (mpF (fun z => z * p1 / q1) (f 0) (sz 0)), oO (r 3) 2 [.ref (a 3), .int (nI (sz 1))], aI D (a 3) 16 (mpF (fun z => z * p1 / q1) (f 3) (sz 1)), oO (r 6) 2 [.ref (a 6), .int (nI (sz 2))], aI D (a 6) 16 (mpF (fun z => z * p1 / q1) (f 6) (sz 2)), oO (r 9) 2 [.ref (a 9), .int (nI (sz 3))], aI D (a 9) 16 (mpF (fun z => z * p1 / q1) (f 9) (sz 3))] := hD
  refine lv_iinc (v := 4) (lv' := [(5, .int 4), (6, .ref (t 3)), (4, .int (nI 4)), (3, .ref ta), (0, .ref co), (1, .int p1), (2, .int q1)]) hx hb dX0_stretch_35 hl (k := 1) rfl (by decide) (by decide) rfl (fun ls hl => ?_)
  refine lv_goto (tgt := 12) hx hb dX0_stretch_38 (by decide) ?_
  refine lv_iload hx hb dX0_stretch_12 (lv_at hl 0 rfl) ?_
  refine lv_iload hx hb dX0_stretch_14 (lv_at hl 2 rfl) ?_
  refine lv_icmp_ge (tgt := 41) hx hb dX0_stretch_16 (by decide) (fun _ => ?_) (fun h9 => (h9 (by decide)).elim)
  refine lv_aload_n hx hb dX0_stretch_41 rfl (lv_at hl 4 rfl) ?_
  refine va_get (D := D) (ci := 0) (v := .ref (q 0)) (C := RX0) (T := TX0) (N := 4) hx hb hts inlX0 hown hG.K hP 0 rfl rfl 2 (by decide) (hts _ mF_X0_14) (fun _ h9 => h9) rfl dX0_stretch_42 ?_
  refine lv_iload_n hx hb dX0_stretch_45 rfl (lv_at hl 5 rfl) ?_
  refine lv_iload_n hx hb dX0_stretch_46 rfl (lv_at hl 6 rfl) ?_
  have hP9 := hP.sub (ws' := [oO (q 0) 2 [.ref (b 0), .int (nI nc)], aI D (b 0) 8 ct]) [2, 4] rfl
  have hD9 := (hD.sub (ws' := [oO (q 0) 2 [.ref (b 0), .int (nI nc)], aI D (b 0) 8 ct]) [2, 4] (by decide) rfl).weaken (B := fun _ => True) (fun _ _ _ _ => trivial)
  refine kv (wr := [oO co 0 [.int len, .ref ta, .ref (q 0), .ref (q 1)], aT D ta 4 (tkF t), oO (q 1) 2 [.ref (b 1), .int (nI nc)], aI D (b 1) 8 cn, oO (t 0) 4 [.ref (r 0), .ref (r 1), .ref (r 2)], oO (r 1) 2 [.ref (a 1), .int (nI (sz 0))], oO (r 2) 2 [.ref (a 2), .int (nI (sz 0))], aI D (a 1) 16 (f 1), aI D (a 2) 16 (f 2), oO (t 1) 4 [.ref (r 3), .ref (r 4), .ref (r 5)], oO (r 4) 2 [.ref (a 4), .int (nI (sz 1))], oO (r 5) 2 [.ref (a 5), .int (nI (sz 1))], aI D (a 4) 16 (f 4), aI D (a 5) 16 (f 5), oO (t 2) 4 [.ref (r 6), .ref (r 7), .ref (r 8)], oO (r 7) 2 [.ref (a 7), .int (nI (sz 2))], oO (r 8) 2 [.ref (a 8), .int (nI (sz 2))], aI D (a 7) 16 (f 7), aI D (a 8) 16 (f 8), oO (t 3) 4 [.ref (r 9), .ref (r 10), .ref (r 11)], oO (r 10) 2 [.ref (a 10), .int (nI (sz 3))], oO (r 11) 2 [.ref (a 11), .int (nI (sz 3))], aI D (a 10) 16 (f 10), aI D (a 11) 16 (f 11), oO (r 0) 2 [.ref (a 0), .int (nI (sz 0))], aI D (a 0) 16 (mpF (fun z => z * p1 / q1) (f 0) (sz 0)), oO (r 3) 2 [.ref (a 3), .int (nI (sz 1))], aI D (a 3) 16 (mpF (fun z => z * p1 / q1) (f 3) (sz 1)), oO (r 6) 2 [.ref (a 6), .int (nI (sz 2))], aI D (a 6) 16 (mpF (fun z => z * p1 / q1) (f 6) (sz 2)), oO (r 9) 2 [.ref (a 9), .int (nI (sz 3))], aI D (a 9) 16 (mpF (fun z => z * p1 / q1) (f 9) (sz 3))]) (rV (rest := []) (qc := (RX2, TX2, 2)) [.int p1, .int q1] 2 0 0 hC (c_stretchTimes l D (r := q 0) (x := p1) (y := q1) (a := b 0) (sz := nc) (n := 8) (f := ct) (hz0 := H.size) (by omega) (by omega) (hq)) rfl (hP 2 _ rfl) (gV mM_X0_76 mI_X2_stretchTimes mS_X2_stretchTimes mN_X2 mC_X2_stretchTimes) (by decide +kernel) rfl rfl ⟨Nat.le_of_ble_eq_true rfl, Nat.le_of_ble_eq_true rfl⟩ hG hP9 hD9 rfl hl.1 rfl (Nat.le_of_ble_eq_true rfl) dX0_stretch_47 ⟨Nat.le_of_ble_eq_true rfl, Nat.le_of_ble_eq_true rfl⟩) hP hD hS hA [2, 4] [0, 1, 3, 5, 6, 7, 8, 9, 10, 11, 12, 13, 14, 15, 16, 17, 18, 19, 20, 21, 22, 23, 24, 25, 26, 27, 28, 29, 30, 31, 32, 33] rfl rfl (by decide) (by decide) (fun u47 H locs h47 hP hD hS hz hfr => ?_)
  have hP : va_P D cls [oO co 0 [.int len, .ref ta, .ref (q 0), .ref (q 1)], aT D ta 4 (tkF t), oO (q 1) 2 [.ref (b 1), .int (nI nc)], aI D (b 1) 8 cn, oO (t 0) 4 [.ref (r 0), .ref (r 1), .ref (r 2)], oO (r 1) 2 [.ref (a 1), .int (nI (sz 0))], oO (r 2) 2 [.ref (a 2), .int (nI (sz 0))], aI D (a 1) 16 (f 1), aI D (a 2) 16 (f 2), oO (t 1) 4 [.ref (r 3), .ref (r 4), .ref (r 5)], oO (r 4) 2 [.ref (a 4), .int (nI (sz 1))], oO (r 5) 2 [.ref (a 5), .int (nI (sz 1))], aI D (a 4) 16 (f 4), aI D (a 5) 16 (f 5), oO (t 2) 4 [.ref (r 6), .ref (r 7), .ref (r 8)], oO (r 7) 2 [.ref (a 7), .int (nI (sz 2))], oO (r 8) 2 [.ref (a 8), .int (nI (sz 2))], aI D (a 7) 16 (f 7), aI D (a 8) 16 (f 8), oO (t 3) 4 [.ref (r 9), .ref (r 10), .ref (r 11)], oO (r 10) 2 [.ref (a 10), .int (nI (sz 3))], oO (r 11) 2 [.ref (a 11), .int (nI (sz 3))], aI D (a 10) 16 (f 10), aI D (a 11) 16 (f 11), oO (r 0) 2 [.ref (a 0), .int (nI (sz 0))], aI D (a 0) 16 (mpF (fun z => z * p1 / q1) (f 0) (sz 0)), oO (r 3) 2 [.ref (a 3), .int (nI (sz 1))], aI D (a 3) 16 (mpF (fun z => z * p1 / q1) (f 3) (sz 1)), oO (r 6) 2 [.ref (a 6), .int (nI (sz 2))], aI D (a 6) 16 (mpF (fun z => z * p1 / q1) (f 6) (sz 2)), oO (r 9) 2 [.ref (a 9), .int (nI (sz 3))], aI D (a 9) 16 (mpF (fun z => z * p1 / q1) (f 9) (sz 3)), oO (q 0) 2 [.ref (b 0), .int (nI nc)], aI D (b 0) 8 (mpF (fun z => z * p1 / q1) ct nc)] H := hP
  have hD : va_D A [oO co 0 [.int len, .ref ta, .ref (q 0), .ref (q 1)], aT D ta 4 (tkF t), oO (q 1) 2 [.ref (b 1), .int (nI nc)], aI D (b 1) 8 cn, oO (t 0) 4 [.ref (r 0), .ref (r 1), .ref (r 2)], oO (r 1) 2 [.ref (a 1), .int (nI (sz 0))], oO (r 2) 2 [.ref (a 2), .int (nI (sz 0))], aI D (a 1) 16 (f 1), aI D (a 2) 16 (f 2), oO (t 1) 4 [.ref (r 3), .ref (r 4), .ref (r 5)], oO (r 4) 2 [.ref (a 4), .int (nI (sz 1))], oO (r 5) 2 [.ref (a 5), .int (nI (sz 1))], aI D (a 4) 16 (f 4), aI D (a 5) 16 (f 5), oO (t 2) 4 [.ref (r 6), .ref (r 7), .ref (r 8)], oO (r 7) 2 [.ref (a 7), .int (nI (sz 2))], oO (r 8) 2 [.ref (a 8), .int (nI (sz 2))], aI D (a 7) 16 (f 7), aI D (a 8) 16 (f 8), oO (t 3) 4 [.ref (r 9), .ref (r 10), .ref (r 11)], oO (r 10) 2 [.ref (a 10), .int (nI (sz 3))], oO (r 11) 2 [.ref (a 11), .int (nI (sz 3))], aI D (a 10) 16 (f 10), aI D (a 11) 16 (f 11), oO (r 0) 2 [.ref (a 0), .int (nI (sz 0))], aI D (a 0) 16 (mpF (fun z => z * p1 / q1) (f 0) (sz 0)), oO (r 3) 2 [.ref (a 3), .int (nI (sz 1))], aI D (a 3) 16 (mpF (fun z => z * p1 / q1) (f 3) (sz 1)), oO (r 6) 2 [.ref (a 6), .int (nI (sz 2))], aI D (a 6) 16 (mpF (fun z => z * p1 / q1) (f 6) (sz 2)), oO (r 9) 2 [.ref (a 9), .int (nI (sz 3))], aI D (a 9) 16 (mpF (fun z => z * p1 / q1) (f 9) (sz 3)), oO (q 0) 2 [.ref (b 0), .int (nI nc)], aI D (b 0) 8 (mpF (fun z => z * p1 / q1) ct nc)] := hD
  refine lv_aload_n hx hb dX0_stretch_50 rfl (lv_at hl 4 rfl) ?_
  refine lv_aload_n hx hb dX0_stretch_51 rfl (lv_at hl 4 rfl) ?_
  refine va_get (D := D) (ci := 0) (v := .int len) (C := RX0) (T := TX0) (N := 4) hx hb hts inlX0 hown hG.K hP 0 rfl rfl 0 (by decide) (hts _ mF_X0_23) (fun _ h9 => h9) rfl dX0_stretch_52 ?_
  refine lv_iload_n hx hb dX0_stretch_55 rfl (lv_at hl 5 rfl) ?_
  refine lv_imul hx hb dX0_stretch_56 ?_
  refine lv_iload_n hx hb dX0_stretch_57 rfl (lv_at hl 6 rfl) ?_
  have hP9 : va_P D cls [] H := fun k q h => by simp at h
  refine vp_callSi (pSN (rest := [.ref co]) [.int (len * p1), .int q1] 2 hC (c_cut l D (x := len * p1) (y := q1) (hq)) (nM_KeyStage_Clip_65 hG) mT_X5_cut mN_X5 mC_X5_cut (by decide +kernel) rfl rfl ⟨Nat.le_of_ble_eq_true rfl, Nat.le_of_ble_eq_true rfl⟩ hG hP9 rfl hl.1 rfl (Nat.le_of_ble_eq_true rfl) dX0_stretch_58 ⟨Nat.le_of_ble_eq_true rfl, Nat.le_of_ble_eq_true rfl⟩) (fun r58 h58 => ?_)
  obtain rfl : r58 = ((len * p1) / q1) := h58
  refine va_put (D := D) (ci := 0) (v := .int ((len * p1) / q1)) (ty := .int) (C := RX0) (T := TX0) (N := 4) hx hb hts inlX0 tyX0 tyX0_ok nmX0 hown hG.K hP hD hS 0 rfl rfl 0 (by decide) (hts _ mF_X0_23) (fun _ h9 => h9) rfl (by decide +kernel) rfl rfl (Nat.le_of_ble_eq_true rfl) dX0_stretch_61 (fun H locs hP hD hS => ?_)
  have hP : va_P D cls [oO co 0 [.int ((len * p1) / q1), .ref ta, .ref (q 0), .ref (q 1)], aT D ta 4 (tkF t), oO (q 1) 2 [.ref (b 1), .int (nI nc)], aI D (b 1) 8 cn, oO (t 0) 4 [.ref (r 0), .ref (r 1), .ref (r 2)], oO (r 1) 2 [.ref (a 1), .int (nI (sz 0))], oO (r 2) 2 [.ref (a 2), .int (nI (sz 0))], aI D (a 1) 16 (f 1), aI D (a 2) 16 (f 2), oO (t 1) 4 [.ref (r 3), .ref (r 4), .ref (r 5)], oO (r 4) 2 [.ref (a 4), .int (nI (sz 1))], oO (r 5) 2 [.ref (a 5), .int (nI (sz 1))], aI D (a 4) 16 (f 4), aI D (a 5) 16 (f 5), oO (t 2) 4 [.ref (r 6), .ref (r 7), .ref (r 8)], oO (r 7) 2 [.ref (a 7), .int (nI (sz 2))], oO (r 8) 2 [.ref (a 8), .int (nI (sz 2))], aI D (a 7) 16 (f 7), aI D (a 8) 16 (f 8), oO (t 3) 4 [.ref (r 9), .ref (r 10), .ref (r 11)], oO (r 10) 2 [.ref (a 10), .int (nI (sz 3))], oO (r 11) 2 [.ref (a 11), .int (nI (sz 3))], aI D (a 10) 16 (f 10), aI D (a 11) 16 (f 11), oO (r 0) 2 [.ref (a 0), .int (nI (sz 0))], aI D (a 0) 16 (mpF (fun z => z * p1 / q1) (f 0) (sz 0)), oO (r 3) 2 [.ref (a 3), .int (nI (sz 1))], aI D (a 3) 16 (mpF (fun z => z * p1 / q1) (f 3) (sz 1)), oO (r 6) 2 [.ref (a 6), .int (nI (sz 2))], aI D (a 6) 16 (mpF (fun z => z * p1 / q1) (f 6) (sz 2)), oO (r 9) 2 [.ref (a 9), .int (nI (sz 3))], aI D (a 9) 16 (mpF (fun z => z * p1 / q1) (f 9) (sz 3)), oO (q 0) 2 [.ref (b 0), .int (nI nc)], aI D (b 0) 8 (mpF (fun z => z * p1 / q1) ct nc)] H := hP
  have hD : va_D A [oO co 0 [.int ((len * p1) / q1), .ref ta, .ref (q 0), .ref (q 1)], aT D ta 4 (tkF t), oO (q 1) 2 [.ref (b 1), .int (nI nc)], aI D (b 1) 8 cn, oO (t 0) 4 [.ref (r 0), .ref (r 1), .ref (r 2)], oO (r 1) 2 [.ref (a 1), .int (nI (sz 0))], oO (r 2) 2 [.ref (a 2), .int (nI (sz 0))], aI D (a 1) 16 (f 1), aI D (a 2) 16 (f 2), oO (t 1) 4 [.ref (r 3), .ref (r 4), .ref (r 5)], oO (r 4) 2 [.ref (a 4), .int (nI (sz 1))], oO (r 5) 2 [.ref (a 5), .int (nI (sz 1))], aI D (a 4) 16 (f 4), aI D (a 5) 16 (f 5), oO (t 2) 4 [.ref (r 6), .ref (r 7), .ref (r 8)], oO (r 7) 2 [.ref (a 7), .int (nI (sz 2))], oO (r 8) 2 [.ref (a 8), .int (nI (sz 2))], aI D (a 7) 16 (f 7), aI D (a 8) 16 (f 8), oO (t 3) 4 [.ref (r 9), .ref (r 10), .ref (r 11)], oO (r 10) 2 [.ref (a 10), .int (nI (sz 3))], oO (r 11) 2 [.ref (a 11), .int (nI (sz 3))], aI D (a 10) 16 (f 10), aI D (a 11) 16 (f 11), oO (r 0) 2 [.ref (a 0), .int (nI (sz 0))], aI D (a 0) 16 (mpF (fun z => z * p1 / q1) (f 0) (sz 0)), oO (r 3) 2 [.ref (a 3), .int (nI (sz 1))], aI D (a 3) 16 (mpF (fun z => z * p1 / q1) (f 3) (sz 1)), oO (r 6) 2 [.ref (a 6), .int (nI (sz 2))], aI D (a 6) 16 (mpF (fun z => z * p1 / q1) (f 6) (sz 2)), oO (r 9) 2 [.ref (a 9), .int (nI (sz 3))], aI D (a 9) 16 (mpF (fun z => z * p1 / q1) (f 9) (sz 3)), oO (q 0) 2 [.ref (b 0), .int (nI nc)], aI D (b 0) 8 (mpF (fun z => z * p1 / q1) ct nc)] := hD
  refine Wv () hx hb hr hlk ?_ (hP.sub [0, 1, 32, 2, 33, 3, 4, 24, 5, 6, 25, 7, 8, 9, 26, 10, 11, 27, 12, 13, 14, 28, 15, 16, 29, 17, 18, 19, 30, 20, 21, 31, 22, 23] rfl) (hD.sub [0, 1, 32, 2, 33, 3, 4, 24, 5, 6, 25, 7, 8, 9, 26, 10, 11, 27, 12, 13, 14, 28, 15, 16, 29, 17, 18, 19, 30, 20, 21, 31, 22, 23] (by decide) rfl) hS (Nat.le_of_ble_eq_true rfl) (by first | exact Nat.le_of_ble_eq_true rfl | exact Nat.le_of_eq (Nat.zero_add _)) dX0_stretch_64
  exact trivial
set_option maxHeartbeats 4000000 in
set_option maxRecDepth 100000 in
theorem c_clip_mixed (l : Launch) (D : va_G) {co ta nc : Nat} {len : Int32} {q b t r a sz : Nat → Nat} {ct cn : Nat → Int32} {f : Nat → Nat → Int32} {d : Int64} (hs0 : sz 0 ≤ 16) (hs1 : sz 1 ≤ 16) (hs2 : sz 2 ≤ 16) (hs3 : sz 3 ≤ 16) (hn : nc ≤ 8) : Met l yX0_mixedInto (ws_ yX0_mixedInto cX0_mixedInto 11 (some .long)) ({ frames := 3, cells := 0, slots := 0, locals := 64 } : Room) (va_Pc [.ref co, .long d] (PW D [oO co 0 [.int len, .ref ta, .ref (q 0), .ref (q 1)], aT D ta 4 (tkF t), oO (q 0) 2 [.ref (b 0), .int (nI nc)], oO (q 1) 2 [.ref (b 1), .int (nI nc)], aI D (b 0) 8 ct, aI D (b 1) 8 cn, oO (t 0) 4 [.ref (r 0), .ref (r 1), .ref (r 2)], oO (r 0) 2 [.ref (a 0), .int (nI (sz 0))], oO (r 1) 2 [.ref (a 1), .int (nI (sz 0))], oO (r 2) 2 [.ref (a 2), .int (nI (sz 0))], aI D (a 0) 16 (f 0), aI D (a 1) 16 (f 1), aI D (a 2) 16 (f 2), oO (t 1) 4 [.ref (r 3), .ref (r 4), .ref (r 5)], oO (r 3) 2 [.ref (a 3), .int (nI (sz 1))], oO (r 4) 2 [.ref (a 4), .int (nI (sz 1))], oO (r 5) 2 [.ref (a 5), .int (nI (sz 1))], aI D (a 3) 16 (f 3), aI D (a 4) 16 (f 4), aI D (a 5) 16 (f 5), oO (t 2) 4 [.ref (r 6), .ref (r 7), .ref (r 8)], oO (r 6) 2 [.ref (a 6), .int (nI (sz 2))], oO (r 7) 2 [.ref (a 7), .int (nI (sz 2))], oO (r 8) 2 [.ref (a 8), .int (nI (sz 2))], aI D (a 6) 16 (f 6), aI D (a 7) 16 (f 7), aI D (a 8) 16 (f 8), oO (t 3) 4 [.ref (r 9), .ref (r 10), .ref (r 11)], oO (r 9) 2 [.ref (a 9), .int (nI (sz 3))], oO (r 10) 2 [.ref (a 10), .int (nI (sz 3))], oO (r 11) 2 [.ref (a 11), .int (nI (sz 3))], aI D (a 9) 16 (f 9), aI D (a 10) 16 (f 10), aI D (a 11) 16 (f 11)])) (vp_Sl (fun v => v = dgClip len sz f nc ct cn d)) 0 0 (fun _ => False) := by
  refine Met.ofW (cc := cX0_mixedInto) (maxL := 11) (ret := (some .long)) (by decide) rfl ?_
  intro p e s m args below meth c s₁ B hml hv
  obtain ⟨rfl, hG, hP⟩ := hv
  have hx := B.exec
  have hb := B.bytes
  have hr := B.returns
  have hts : ∀ w ∈ wsL_law, w.before _ s = true := fun w h => atoms_spec (ws := (ws_ yX0_mixedInto cX0_mixedInto 11 (some .long))) B.pre w (List.mem_cons_of_mem _ h)
  have hown : s.vm.findClass RX0 = some m.cls := findClass_of_methodNamed B.named
  have hlk := B.notSynchronized
  have hC : CallFix p m c cX0_mixedInto 11 s _ wsL_law RX0 := ⟨hx, hb, hml, hown, hts⟩
  have hl := lv_entry ([.ref co, .long d]) (n := 11) (Nat.le_of_ble_eq_true rfl)
  rw [lg_entry_eq]
  generalize (lg_sl ([.ref co, .long d]) ++ List.replicate (11 - (lg_sl ([.ref co, .long d])).length) Slot.unset).toArray = ls at hl ⊢
  have hl : lv_has ls 11 [(0, .ref co), (1, .long d)] := hl
  refine lv_lload_n hx hb dX0_mixedInto_0 rfl (lv_at hl 1 rfl) ?_
  refine lv_aload_n hx hb dX0_mixedInto_1 rfl (lv_at hl 0 rfl) ?_
  refine va_get (D := D) (ci := 0) (v := .int len) (C := RX0) (T := TX0) (N := 4) hx hb hts inlX0 hown hG.K hP 0 rfl rfl 0 (by decide) (hts _ mF_X0_23) (fun _ h9 => h9) rfl dX0_mixedInto_2 ?_
  have hP9 : va_P D cls [] s.heap := fun k q h => by simp at h
  refine vp_callSl (pSN (rest := []) [.long d, .int len] 2 hC (c_mixed l D (d := d) (x := len) ) (nM_KeyStage_Clip_79 hG) mT_X5_mixed mN_X5 mC_X5_mixed (by decide +kernel) rfl rfl ⟨Nat.le_of_ble_eq_true rfl, Nat.le_of_ble_eq_true rfl⟩ hG hP9 rfl hl.1 rfl (Nat.le_of_ble_eq_true rfl) dX0_mixedInto_5 ⟨Nat.le_of_ble_eq_true rfl, Nat.le_of_ble_eq_true rfl⟩) (fun r5 h5 => ?_)
  obtain rfl : r5 = (mix d len) := h5
  refine lv_lstore_n (lv' := [(3, .long (mix d len)), (0, .ref co), (1, .long d)]) hx hb dX0_mixedInto_8 rfl hl (by decide) rfl (fun ls hl => ?_)
  refine lv_aload_n hx hb dX0_mixedInto_9 rfl (lv_at hl 1 rfl) ?_
  refine va_get (D := D) (ci := 0) (v := .ref ta) (C := RX0) (T := TX0) (N := 4) hx hb hts inlX0 hown hG.K hP 0 rfl rfl 1 (by decide) (hts _ mF_X0_29) (fun _ h9 => h9) rfl dX0_mixedInto_10 ?_
  refine lv_astore (lv' := [(5, .ref ta), (3, .long (mix d len)), (0, .ref co), (1, .long d)]) hx hb dX0_mixedInto_13 hl (by decide) rfl (fun ls hl => ?_)
  refine lv_aload hx hb dX0_mixedInto_15 (lv_at hl 0 rfl) ?_
  refine va_alen (v := nI 4) hx hb hG.K hP 1 3 rfl rfl rfl dX0_mixedInto_17 ?_
  refine lv_istore (lv' := [(6, .int (nI 4)), (5, .ref ta), (3, .long (mix d len)), (0, .ref co), (1, .long d)]) hx hb dX0_mixedInto_18 hl (by decide) rfl (fun ls hl => ?_)
  refine lv_iconst (v := 0) hx hb dX0_mixedInto_20 (by decide) ?_
  refine lv_istore (lv' := [(7, .int 0), (6, .int (nI 4)), (5, .ref ta), (3, .long (mix d len)), (0, .ref co), (1, .long d)]) hx hb dX0_mixedInto_21 hl (by decide) rfl (fun ls hl => ?_)
  refine lv_iload hx hb dX0_mixedInto_23 (lv_at hl 0 rfl) ?_
  refine lv_iload hx hb dX0_mixedInto_25 (lv_at hl 1 rfl) ?_
  refine lv_icmp_ge (tgt := 101) hx hb dX0_mixedInto_27 (by decide) (fun h9 => absurd h9 (by decide)) (fun _ => ?_)
  refine lv_aload hx hb dX0_mixedInto_30 (lv_at hl 2 rfl) ?_
  refine lv_iload hx hb dX0_mixedInto_32 (lv_at hl 0 rfl) ?_
  refine ald (n := 4) (j := 0) hx hb hG hP 1 3 rfl rfl (by omega) (by omega) dX0_mixedInto_34 ?_
  refine tpv (y := .ref (t 0)) (tkF_ref (by omega)) ?_
  refine lv_astore (lv' := [(8, .ref (t 0)), (7, .int 0), (6, .int (nI 4)), (5, .ref ta), (3, .long (mix d len)), (0, .ref co), (1, .long d)]) hx hb dX0_mixedInto_35 hl (by decide) rfl (fun ls hl => ?_)
  refine lv_lload_n hx hb dX0_mixedInto_37 rfl (lv_at hl 4 rfl) ?_
  refine lv_aload hx hb dX0_mixedInto_38 (lv_at hl 0 rfl) ?_
  have hP9 := hP.sub (ws' := [oO (t 0) 4 [.ref (r 0), .ref (r 1), .ref (r 2)], oO (r 0) 2 [.ref (a 0), .int (nI (sz 0))], oO (r 1) 2 [.ref (a 1), .int (nI (sz 0))], oO (r 2) 2 [.ref (a 2), .int (nI (sz 0))], aI D (a 0) 16 (f 0), aI D (a 1) 16 (f 1), aI D (a 2) 16 (f 2)]) [6, 7, 8, 9, 10, 11, 12] rfl
  refine vp_callSi (pV (rest := [.long (mix d len)]) (qc := (RX4, TX4, 3)) [] 0 hC (c_count l D (t := t 0) (r1 := r 0) (r2 := r 1) (r3 := r 2) (a1 := a 0) (sz := sz 0) (a2 := a 1) (a3 := a 2) (ft := f 0) (fv := f 1) (fe := f 2) ) rfl (hP 6 _ rfl) (gV mM_X0_34 mI_X4_count mS_X4_count mN_X4 mC_X4_count) (by decide +kernel) rfl rfl ⟨Nat.le_of_ble_eq_true rfl, Nat.le_of_ble_eq_true rfl⟩ hG hP9 rfl hl.1 rfl (Nat.le_of_ble_eq_true rfl) dX0_mixedInto_40 ⟨Nat.le_of_ble_eq_true rfl, Nat.le_of_ble_eq_true rfl⟩) (fun r40 h40 => ?_)
  obtain rfl : r40 = (nI (sz 0)) := h40
  have hP9 : va_P D cls [] s.heap := fun k q h => by simp at h
  refine vp_callSl (pSN (rest := []) [.long (mix d len), .int (nI (sz 0))] 2 hC (c_mixed l D (d := mix d len) (x := nI (sz 0)) ) (nM_KeyStage_Clip_79 hG) mT_X5_mixed mN_X5 mC_X5_mixed (by decide +kernel) rfl rfl ⟨Nat.le_of_ble_eq_true rfl, Nat.le_of_ble_eq_true rfl⟩ hG hP9 rfl hl.1 rfl (Nat.le_of_ble_eq_true rfl) dX0_mixedInto_43 ⟨Nat.le_of_ble_eq_true rfl, Nat.le_of_ble_eq_true rfl⟩) (fun r43 h43 => ?_)
  obtain rfl : r43 = (mix (mix d len) (nI (sz 0))) := h43
  refine lv_lstore_n (lv' := [(3, .long (mix (mix d len) (nI (sz 0)))), (8, .ref (t 0)), (7, .int 0), (6, .int (nI 4)), (5, .ref ta), (0, .ref co), (1, .long d)]) hx hb dX0_mixedInto_46 rfl hl (by decide) rfl (fun ls hl => ?_)
  refine lv_iconst (v := 0) hx hb dX0_mixedInto_47 (by decide) ?_
  refine lv_istore (lv' := [(9, .int 0), (3, .long (mix (mix d len) (nI (sz 0)))), (8, .ref (t 0)), (7, .int 0), (6, .int (nI 4)), (5, .ref ta), (0, .ref co), (1, .long d)]) hx hb dX0_mixedInto_48 hl (by decide) rfl (fun ls hl => ?_)
  have loop50 : ∀ (d9 : Nat) (k : Nat), (sz 0 - k) < d9 → (k ≤ sz 0) → ∀ (ls : Array Slot), lv_has ls 11 [(0, .ref co), (5, .ref ta), (6, .int (nI 4)), (7, .int 0), (8, .ref (t 0)), (3, .long (dgT (f 0) (f 1) (f 2) (mix (mix d len) (nI (sz 0))) k)), (9, .int (nI k))] → W p l e ({ frames := 3, cells := 0, slots := 0, locals := 64 } : Room) s m ([.ref co, .long d] : List Value).toArray below meth c s.heap [] 0 0 (MQ below (vp_Sl (fun v => v = dgClip len sz f nc ct cn d)) ([.ref co, .long d] : List Value).toArray s 0 0 (fun _ => False)) (F0 m 50 ls []) := by
    intro d9
    induction d9 with
    | zero => intro k hd; exact absurd hd (Nat.not_lt_zero _)
    | succ d9 ih50 =>
      intro k hd50 hk ls hl
      refine lv_iload hx hb dX0_mixedInto_50 (lv_at hl 6 rfl) ?_
      refine lv_aload hx hb dX0_mixedInto_52 (lv_at hl 4 rfl) ?_
      have hP9 := hP.sub (ws' := [oO (t 0) 4 [.ref (r 0), .ref (r 1), .ref (r 2)], oO (r 0) 2 [.ref (a 0), .int (nI (sz 0))], oO (r 1) 2 [.ref (a 1), .int (nI (sz 0))], oO (r 2) 2 [.ref (a 2), .int (nI (sz 0))], aI D (a 0) 16 (f 0), aI D (a 1) 16 (f 1), aI D (a 2) 16 (f 2)]) [6, 7, 8, 9, 10, 11, 12] rfl
      refine vp_callSi (pV (rest := [.int (nI k)]) (qc := (RX4, TX4, 3)) [] 0 hC (c_count l D (t := t 0) (r1 := r 0) (r2 := r 1) (r3 := r 2) (a1 := a 0) (sz := sz 0) (a2 := a 1) (a3 := a 2) (ft := f 0) (fv := f 1) (fe := f 2) ) rfl (hP 6 _ rfl) (gV mM_X0_34 mI_X4_count mS_X4_count mN_X4 mC_X4_count) (by decide +kernel) rfl rfl ⟨Nat.le_of_ble_eq_true rfl, Nat.le_of_ble_eq_true rfl⟩ hG hP9 rfl hl.1 rfl (Nat.le_of_ble_eq_true rfl) dX0_mixedInto_54 ⟨Nat.le_of_ble_eq_true rfl, Nat.le_of_ble_eq_true rfl⟩) (fun r54 h54 => ?_)
      obtain rfl : r54 = (nI (sz 0)) := h54
      refine lv_icmp_ge (tgt := 95) hx hb dX0_mixedInto_57 (by decide) (fun c57 => ?_) (fun c57 => ?_)
      · skip
        have n57 := (nI_leI (a := sz 0) (b := k) (by omega) (by omega)).mp c57
        obtain rfl : k = sz 0 := by omega
        refine lv_iinc (v := 1) (lv' := [(7, .int 1), (0, .ref co), (5, .ref ta), (6, .int (nI 4)), (8, .ref (t 0)), (3, .long (dgT (f 0) (f 1) (f 2) (mix (mix d len) (nI (sz 0))) (sz 0))), (9, .int (nI (sz 0)))]) hx hb dX0_mixedInto_95 hl (k := 3) rfl (by decide) (by decide) rfl (fun ls hl => ?_)
        refine lv_goto (tgt := 23) hx hb dX0_mixedInto_98 (by decide) ?_
        refine lv_iload hx hb dX0_mixedInto_23 (lv_at hl 0 rfl) ?_
        refine lv_iload hx hb dX0_mixedInto_25 (lv_at hl 3 rfl) ?_
        refine lv_icmp_ge (tgt := 101) hx hb dX0_mixedInto_27 (by decide) (fun h9 => absurd h9 (by decide)) (fun _ => ?_)
        refine lv_aload hx hb dX0_mixedInto_30 (lv_at hl 2 rfl) ?_
        refine lv_iload hx hb dX0_mixedInto_32 (lv_at hl 0 rfl) ?_
        refine ald (n := 4) (j := 1) hx hb hG hP 1 3 rfl rfl (by omega) (by omega) dX0_mixedInto_34 ?_
        refine tpv (y := .ref (t 1)) (tkF_ref (by omega)) ?_
        refine lv_astore (lv' := [(8, .ref (t 1)), (7, .int 1), (0, .ref co), (5, .ref ta), (6, .int (nI 4)), (3, .long (dgT (f 0) (f 1) (f 2) (mix (mix d len) (nI (sz 0))) (sz 0))), (9, .int (nI (sz 0)))]) hx hb dX0_mixedInto_35 hl (by decide) rfl (fun ls hl => ?_)
        refine lv_lload_n hx hb dX0_mixedInto_37 rfl (lv_at hl 5 rfl) ?_
        refine lv_aload hx hb dX0_mixedInto_38 (lv_at hl 0 rfl) ?_
        have hP9 := hP.sub (ws' := [oO (t 1) 4 [.ref (r 3), .ref (r 4), .ref (r 5)], oO (r 3) 2 [.ref (a 3), .int (nI (sz 1))], oO (r 4) 2 [.ref (a 4), .int (nI (sz 1))], oO (r 5) 2 [.ref (a 5), .int (nI (sz 1))], aI D (a 3) 16 (f 3), aI D (a 4) 16 (f 4), aI D (a 5) 16 (f 5)]) [13, 14, 15, 16, 17, 18, 19] rfl
        refine vp_callSi (pV (rest := [.long (dgT (f 0) (f 1) (f 2) (mix (mix d len) (nI (sz 0))) (sz 0))]) (qc := (RX4, TX4, 3)) [] 0 hC (c_count l D (t := t 1) (r1 := r 3) (r2 := r 4) (r3 := r 5) (a1 := a 3) (sz := sz 1) (a2 := a 4) (a3 := a 5) (ft := f 3) (fv := f 4) (fe := f 5) ) rfl (hP 13 _ rfl) (gV mM_X0_34 mI_X4_count mS_X4_count mN_X4 mC_X4_count) (by decide +kernel) rfl rfl ⟨Nat.le_of_ble_eq_true rfl, Nat.le_of_ble_eq_true rfl⟩ hG hP9 rfl hl.1 rfl (Nat.le_of_ble_eq_true rfl) dX0_mixedInto_40 ⟨Nat.le_of_ble_eq_true rfl, Nat.le_of_ble_eq_true rfl⟩) (fun r40 h40 => ?_)
        obtain rfl : r40 = (nI (sz 1)) := h40
        have hP9 : va_P D cls [] s.heap := fun k q h => by simp at h
        refine vp_callSl (pSN (rest := []) [.long (dgT (f 0) (f 1) (f 2) (mix (mix d len) (nI (sz 0))) (sz 0)), .int (nI (sz 1))] 2 hC (c_mixed l D (d := dgT (f 0) (f 1) (f 2) (mix (mix d len) (nI (sz 0))) (sz 0)) (x := nI (sz 1)) ) (nM_KeyStage_Clip_79 hG) mT_X5_mixed mN_X5 mC_X5_mixed (by decide +kernel) rfl rfl ⟨Nat.le_of_ble_eq_true rfl, Nat.le_of_ble_eq_true rfl⟩ hG hP9 rfl hl.1 rfl (Nat.le_of_ble_eq_true rfl) dX0_mixedInto_43 ⟨Nat.le_of_ble_eq_true rfl, Nat.le_of_ble_eq_true rfl⟩) (fun r43 h43 => ?_)
        obtain rfl : r43 = (mix (dgT (f 0) (f 1) (f 2) (mix (mix d len) (nI (sz 0))) (sz 0)) (nI (sz 1))) := h43
        refine lv_lstore_n (lv' := [(3, .long (mix (dgT (f 0) (f 1) (f 2) (mix (mix d len) (nI (sz 0))) (sz 0)) (nI (sz 1)))), (8, .ref (t 1)), (7, .int 1), (0, .ref co), (5, .ref ta), (6, .int (nI 4)), (9, .int (nI (sz 0)))]) hx hb dX0_mixedInto_46 rfl hl (by decide) rfl (fun ls hl => ?_)
        refine lv_iconst (v := 0) hx hb dX0_mixedInto_47 (by decide) ?_
        refine lv_istore (lv' := [(9, .int 0), (3, .long (mix (dgT (f 0) (f 1) (f 2) (mix (mix d len) (nI (sz 0))) (sz 0)) (nI (sz 1)))), (8, .ref (t 1)), (7, .int 1), (0, .ref co), (5, .ref ta), (6, .int (nI 4))]) hx hb dX0_mixedInto_48 hl (by decide) rfl (fun ls hl => ?_)
        have loop50 : ∀ (d9 : Nat) (k : Nat), (sz 1 - k) < d9 → (k ≤ sz 1) → ∀ (ls : Array Slot), lv_has ls 11 [(0, .ref co), (5, .ref ta), (6, .int (nI 4)), (7, .int 1), (8, .ref (t 1)), (3, .long (dgT (f 3) (f 4) (f 5) (mix (dgT (f 0) (f 1) (f 2) (mix (mix d len) (nI (sz 0))) (sz 0)) (nI (sz 1))) k)), (9, .int (nI k))] → W p l e ({ frames := 3, cells := 0, slots := 0, locals := 64 } : Room) s m ([.ref co, .long d] : List Value).toArray below meth c s.heap [] 0 0 (MQ below (vp_Sl (fun v => v = dgClip len sz f nc ct cn d)) ([.ref co, .long d] : List Value).toArray s 0 0 (fun _ => False)) (F0 m 50 ls []) := by
          intro d9
          induction d9 with
          | zero => intro k hd; exact absurd hd (Nat.not_lt_zero _)
          | succ d9 ih50 =>
            intro k hd50 hk ls hl
            refine lv_iload hx hb dX0_mixedInto_50 (lv_at hl 6 rfl) ?_
            refine lv_aload hx hb dX0_mixedInto_52 (lv_at hl 4 rfl) ?_
            have hP9 := hP.sub (ws' := [oO (t 1) 4 [.ref (r 3), .ref (r 4), .ref (r 5)], oO (r 3) 2 [.ref (a 3), .int (nI (sz 1))], oO (r 4) 2 [.ref (a 4), .int (nI (sz 1))], oO (r 5) 2 [.ref (a 5), .int (nI (sz 1))], aI D (a 3) 16 (f 3), aI D (a 4) 16 (f 4), aI D (a 5) 16 (f 5)]) [13, 14, 15, 16, 17, 18, 19] rfl
            refine vp_callSi (pV (rest := [.int (nI k)]) (qc := (RX4, TX4, 3)) [] 0 hC (c_count l D (t := t 1) (r1 := r 3) (r2 := r 4) (r3 := r 5) (a1 := a 3) (sz := sz 1) (a2 := a 4) (a3 := a 5) (ft := f 3) (fv := f 4) (fe := f 5) ) rfl (hP 13 _ rfl) (gV mM_X0_34 mI_X4_count mS_X4_count mN_X4 mC_X4_count) (by decide +kernel) rfl rfl ⟨Nat.le_of_ble_eq_true rfl, Nat.le_of_ble_eq_true rfl⟩ hG hP9 rfl hl.1 rfl (Nat.le_of_ble_eq_true rfl) dX0_mixedInto_54 ⟨Nat.le_of_ble_eq_true rfl, Nat.le_of_ble_eq_true rfl⟩) (fun r54 h54 => ?_)
            obtain rfl : r54 = (nI (sz 1)) := h54
            refine lv_icmp_ge (tgt := 95) hx hb dX0_mixedInto_57 (by decide) (fun c57 => ?_) (fun c57 => ?_)
            · skip
              have n57 := (nI_leI (a := sz 1) (b := k) (by omega) (by omega)).mp c57
              obtain rfl : k = sz 1 := by omega
              refine lv_iinc (v := 2) (lv' := [(7, .int 2), (0, .ref co), (5, .ref ta), (6, .int (nI 4)), (8, .ref (t 1)), (3, .long (dgT (f 3) (f 4) (f 5) (mix (dgT (f 0) (f 1) (f 2) (mix (mix d len) (nI (sz 0))) (sz 0)) (nI (sz 1))) (sz 1))), (9, .int (nI (sz 1)))]) hx hb dX0_mixedInto_95 hl (k := 3) rfl (by decide) (by decide) rfl (fun ls hl => ?_)
              refine lv_goto (tgt := 23) hx hb dX0_mixedInto_98 (by decide) ?_
              refine lv_iload hx hb dX0_mixedInto_23 (lv_at hl 0 rfl) ?_
              refine lv_iload hx hb dX0_mixedInto_25 (lv_at hl 3 rfl) ?_
              refine lv_icmp_ge (tgt := 101) hx hb dX0_mixedInto_27 (by decide) (fun h9 => absurd h9 (by decide)) (fun _ => ?_)
              refine lv_aload hx hb dX0_mixedInto_30 (lv_at hl 2 rfl) ?_
              refine lv_iload hx hb dX0_mixedInto_32 (lv_at hl 0 rfl) ?_
              refine ald (n := 4) (j := 2) hx hb hG hP 1 3 rfl rfl (by omega) (by omega) dX0_mixedInto_34 ?_
              refine tpv (y := .ref (t 2)) (tkF_ref (by omega)) ?_
              refine lv_astore (lv' := [(8, .ref (t 2)), (7, .int 2), (0, .ref co), (5, .ref ta), (6, .int (nI 4)), (3, .long (dgT (f 3) (f 4) (f 5) (mix (dgT (f 0) (f 1) (f 2) (mix (mix d len) (nI (sz 0))) (sz 0)) (nI (sz 1))) (sz 1))), (9, .int (nI (sz 1)))]) hx hb dX0_mixedInto_35 hl (by decide) rfl (fun ls hl => ?_)
              refine lv_lload_n hx hb dX0_mixedInto_37 rfl (lv_at hl 5 rfl) ?_
              refine lv_aload hx hb dX0_mixedInto_38 (lv_at hl 0 rfl) ?_
              have hP9 := hP.sub (ws' := [oO (t 2) 4 [.ref (r 6), .ref (r 7), .ref (r 8)], oO (r 6) 2 [.ref (a 6), .int (nI (sz 2))], oO (r 7) 2 [.ref (a 7), .int (nI (sz 2))], oO (r 8) 2 [.ref (a 8), .int (nI (sz 2))], aI D (a 6) 16 (f 6), aI D (a 7) 16 (f 7), aI D (a 8) 16 (f 8)]) [20, 21, 22, 23, 24, 25, 26] rfl
              refine vp_callSi (pV (rest := [.long (dgT (f 3) (f 4) (f 5) (mix (dgT (f 0) (f 1) (f 2) (mix (mix d len) (nI (sz 0))) (sz 0)) (nI (sz 1))) (sz 1))]) (qc := (RX4, TX4, 3)) [] 0 hC (c_count l D (t := t 2) (r1 := r 6) (r2 := r 7) (r3 := r 8) (a1 := a 6) (sz := sz 2) (a2 := a 7) (a3 := a 8) (ft := f 6) (fv := f 7) (fe := f 8) ) rfl (hP 20 _ rfl) (gV mM_X0_34 mI_X4_count mS_X4_count mN_X4 mC_X4_count) (by decide +kernel) rfl rfl ⟨Nat.le_of_ble_eq_true rfl, Nat.le_of_ble_eq_true rfl⟩ hG hP9 rfl hl.1 rfl (Nat.le_of_ble_eq_true rfl) dX0_mixedInto_40 ⟨Nat.le_of_ble_eq_true rfl, Nat.le_of_ble_eq_true rfl⟩) (fun r40 h40 => ?_)
              obtain rfl : r40 = (nI (sz 2)) := h40
              have hP9 : va_P D cls [] s.heap := fun k q h => by simp at h
              refine vp_callSl (pSN (rest := []) [.long (dgT (f 3) (f 4) (f 5) (mix (dgT (f 0) (f 1) (f 2) (mix (mix d len) (nI (sz 0))) (sz 0)) (nI (sz 1))) (sz 1)), .int (nI (sz 2))] 2 hC (c_mixed l D (d := dgT (f 3) (f 4) (f 5) (mix (dgT (f 0) (f 1) (f 2) (mix (mix d len) (nI (sz 0))) (sz 0)) (nI (sz 1))) (sz 1)) (x := nI (sz 2)) ) (nM_KeyStage_Clip_79 hG) mT_X5_mixed mN_X5 mC_X5_mixed (by decide +kernel) rfl rfl ⟨Nat.le_of_ble_eq_true rfl, Nat.le_of_ble_eq_true rfl⟩ hG hP9 rfl hl.1 rfl (Nat.le_of_ble_eq_true rfl) dX0_mixedInto_43 ⟨Nat.le_of_ble_eq_true rfl, Nat.le_of_ble_eq_true rfl⟩) (fun r43 h43 => ?_)
              obtain rfl : r43 = (mix (dgT (f 3) (f 4) (f 5) (mix (dgT (f 0) (f 1) (f 2) (mix (mix d len) (nI (sz 0))) (sz 0)) (nI (sz 1))) (sz 1)) (nI (sz 2))) := h43
              refine lv_lstore_n (lv' := [(3, .long (mix (dgT (f 3) (f 4) (f 5) (mix (dgT (f 0) (f 1) (f 2) (mix (mix d len) (nI (sz 0))) (sz 0)) (nI (sz 1))) (sz 1)) (nI (sz 2)))), (8, .ref (t 2)), (7, .int 2), (0, .ref co), (5, .ref ta), (6, .int (nI 4)), (9, .int (nI (sz 1)))]) hx hb dX0_mixedInto_46 rfl hl (by decide) rfl (fun ls hl => ?_)
              refine lv_iconst (v := 0) hx hb dX0_mixedInto_47 (by decide) ?_
              refine lv_istore (lv' := [(9, .int 0), (3, .long (mix (dgT (f 3) (f 4) (f 5) (mix (dgT (f 0) (f 1) (f 2) (mix (mix d len) (nI (sz 0))) (sz 0)) (nI (sz 1))) (sz 1)) (nI (sz 2)))), (8, .ref (t 2)), (7, .int 2), (0, .ref co), (5, .ref ta), (6, .int (nI 4))]) hx hb dX0_mixedInto_48 hl (by decide) rfl (fun ls hl => ?_)
              have loop50 : ∀ (d9 : Nat) (k : Nat), (sz 2 - k) < d9 → (k ≤ sz 2) → ∀ (ls : Array Slot), lv_has ls 11 [(0, .ref co), (5, .ref ta), (6, .int (nI 4)), (7, .int 2), (8, .ref (t 2)), (3, .long (dgT (f 6) (f 7) (f 8) (mix (dgT (f 3) (f 4) (f 5) (mix (dgT (f 0) (f 1) (f 2) (mix (mix d len) (nI (sz 0))) (sz 0)) (nI (sz 1))) (sz 1)) (nI (sz 2))) k)), (9, .int (nI k))] → W p l e ({ frames := 3, cells := 0, slots := 0, locals := 64 } : Room) s m ([.ref co, .long d] : List Value).toArray below meth c s.heap [] 0 0 (MQ below (vp_Sl (fun v => v = dgClip len sz f nc ct cn d)) ([.ref co, .long d] : List Value).toArray s 0 0 (fun _ => False)) (F0 m 50 ls []) := by
                intro d9
                induction d9 with
                | zero => intro k hd; exact absurd hd (Nat.not_lt_zero _)
                | succ d9 ih50 =>
                  intro k hd50 hk ls hl
                  refine lv_iload hx hb dX0_mixedInto_50 (lv_at hl 6 rfl) ?_
                  refine lv_aload hx hb dX0_mixedInto_52 (lv_at hl 4 rfl) ?_
                  have hP9 := hP.sub (ws' := [oO (t 2) 4 [.ref (r 6), .ref (r 7), .ref (r 8)], oO (r 6) 2 [.ref (a 6), .int (nI (sz 2))], oO (r 7) 2 [.ref (a 7), .int (nI (sz 2))], oO (r 8) 2 [.ref (a 8), .int (nI (sz 2))], aI D (a 6) 16 (f 6), aI D (a 7) 16 (f 7), aI D (a 8) 16 (f 8)]) [20, 21, 22, 23, 24, 25, 26] rfl
                  refine vp_callSi (pV (rest := [.int (nI k)]) (qc := (RX4, TX4, 3)) [] 0 hC (c_count l D (t := t 2) (r1 := r 6) (r2 := r 7) (r3 := r 8) (a1 := a 6) (sz := sz 2) (a2 := a 7) (a3 := a 8) (ft := f 6) (fv := f 7) (fe := f 8) ) rfl (hP 20 _ rfl) (gV mM_X0_34 mI_X4_count mS_X4_count mN_X4 mC_X4_count) (by decide +kernel) rfl rfl ⟨Nat.le_of_ble_eq_true rfl, Nat.le_of_ble_eq_true rfl⟩ hG hP9 rfl hl.1 rfl (Nat.le_of_ble_eq_true rfl) dX0_mixedInto_54 ⟨Nat.le_of_ble_eq_true rfl, Nat.le_of_ble_eq_true rfl⟩) (fun r54 h54 => ?_)
                  obtain rfl : r54 = (nI (sz 2)) := h54
                  refine lv_icmp_ge (tgt := 95) hx hb dX0_mixedInto_57 (by decide) (fun c57 => ?_) (fun c57 => ?_)
                  · skip
                    have n57 := (nI_leI (a := sz 2) (b := k) (by omega) (by omega)).mp c57
                    obtain rfl : k = sz 2 := by omega
                    refine lv_iinc (v := 3) (lv' := [(7, .int 3), (0, .ref co), (5, .ref ta), (6, .int (nI 4)), (8, .ref (t 2)), (3, .long (dgT (f 6) (f 7) (f 8) (mix (dgT (f 3) (f 4) (f 5) (mix (dgT (f 0) (f 1) (f 2) (mix (mix d len) (nI (sz 0))) (sz 0)) (nI (sz 1))) (sz 1)) (nI (sz 2))) (sz 2))), (9, .int (nI (sz 2)))]) hx hb dX0_mixedInto_95 hl (k := 3) rfl (by decide) (by decide) rfl (fun ls hl => ?_)
                    refine lv_goto (tgt := 23) hx hb dX0_mixedInto_98 (by decide) ?_
                    refine lv_iload hx hb dX0_mixedInto_23 (lv_at hl 0 rfl) ?_
                    refine lv_iload hx hb dX0_mixedInto_25 (lv_at hl 3 rfl) ?_
                    refine lv_icmp_ge (tgt := 101) hx hb dX0_mixedInto_27 (by decide) (fun h9 => absurd h9 (by decide)) (fun _ => ?_)
                    refine lv_aload hx hb dX0_mixedInto_30 (lv_at hl 2 rfl) ?_
                    refine lv_iload hx hb dX0_mixedInto_32 (lv_at hl 0 rfl) ?_
                    refine ald (n := 4) (j := 3) hx hb hG hP 1 3 rfl rfl (by omega) (by omega) dX0_mixedInto_34 ?_
                    refine tpv (y := .ref (t 3)) (tkF_ref (by omega)) ?_
                    refine lv_astore (lv' := [(8, .ref (t 3)), (7, .int 3), (0, .ref co), (5, .ref ta), (6, .int (nI 4)), (3, .long (dgT (f 6) (f 7) (f 8) (mix (dgT (f 3) (f 4) (f 5) (mix (dgT (f 0) (f 1) (f 2) (mix (mix d len) (nI (sz 0))) (sz 0)) (nI (sz 1))) (sz 1)) (nI (sz 2))) (sz 2))), (9, .int (nI (sz 2)))]) hx hb dX0_mixedInto_35 hl (by decide) rfl (fun ls hl => ?_)
                    refine lv_lload_n hx hb dX0_mixedInto_37 rfl (lv_at hl 5 rfl) ?_
                    refine lv_aload hx hb dX0_mixedInto_38 (lv_at hl 0 rfl) ?_
                    have hP9 := hP.sub (ws' := [oO (t 3) 4 [.ref (r 9), .ref (r 10), .ref (r 11)], oO (r 9) 2 [.ref (a 9), .int (nI (sz 3))], oO (r 10) 2 [.ref (a 10), .int (nI (sz 3))], oO (r 11) 2 [.ref (a 11), .int (nI (sz 3))], aI D (a 9) 16 (f 9), aI D (a 10) 16 (f 10), aI D (a 11) 16 (f 11)]) [27, 28, 29, 30, 31, 32, 33] rfl
                    refine vp_callSi (pV (rest := [.long (dgT (f 6) (f 7) (f 8) (mix (dgT (f 3) (f 4) (f 5) (mix (dgT (f 0) (f 1) (f 2) (mix (mix d len) (nI (sz 0))) (sz 0)) (nI (sz 1))) (sz 1)) (nI (sz 2))) (sz 2))]) (qc := (RX4, TX4, 3)) [] 0 hC (c_count l D (t := t 3) (r1 := r 9) (r2 := r 10) (r3 := r 11) (a1 := a 9) (sz := sz 3) (a2 := a 10) (a3 := a 11) (ft := f 9) (fv := f 10) (fe := f 11) ) rfl (hP 27 _ rfl) (gV mM_X0_34 mI_X4_count mS_X4_count mN_X4 mC_X4_count) (by decide +kernel) rfl rfl ⟨Nat.le_of_ble_eq_true rfl, Nat.le_of_ble_eq_true rfl⟩ hG hP9 rfl hl.1 rfl (Nat.le_of_ble_eq_true rfl) dX0_mixedInto_40 ⟨Nat.le_of_ble_eq_true rfl, Nat.le_of_ble_eq_true rfl⟩) (fun r40 h40 => ?_)
                    obtain rfl : r40 = (nI (sz 3)) := h40
                    have hP9 : va_P D cls [] s.heap := fun k q h => by simp at h
                    refine vp_callSl (pSN (rest := []) [.long (dgT (f 6) (f 7) (f 8) (mix (dgT (f 3) (f 4) (f 5) (mix (dgT (f 0) (f 1) (f 2) (mix (mix d len) (nI (sz 0))) (sz 0)) (nI (sz 1))) (sz 1)) (nI (sz 2))) (sz 2)), .int (nI (sz 3))] 2 hC (c_mixed l D (d := dgT (f 6) (f 7) (f 8) (mix (dgT (f 3) (f 4) (f 5) (mix (dgT (f 0) (f 1) (f 2) (mix (mix d len) (nI (sz 0))) (sz 0)) (nI (sz 1))) (sz 1)) (nI (sz 2))) (sz 2)) (x := nI (sz 3)) ) (nM_KeyStage_Clip_79 hG) mT_X5_mixed mN_X5 mC_X5_mixed (by decide +kernel) rfl rfl ⟨Nat.le_of_ble_eq_true rfl, Nat.le_of_ble_eq_true rfl⟩ hG hP9 rfl hl.1 rfl (Nat.le_of_ble_eq_true rfl) dX0_mixedInto_43 ⟨Nat.le_of_ble_eq_true rfl, Nat.le_of_ble_eq_true rfl⟩) (fun r43 h43 => ?_)
                    obtain rfl : r43 = (mix (dgT (f 6) (f 7) (f 8) (mix (dgT (f 3) (f 4) (f 5) (mix (dgT (f 0) (f 1) (f 2) (mix (mix d len) (nI (sz 0))) (sz 0)) (nI (sz 1))) (sz 1)) (nI (sz 2))) (sz 2)) (nI (sz 3))) := h43
                    refine lv_lstore_n (lv' := [(3, .long (mix (dgT (f 6) (f 7) (f 8) (mix (dgT (f 3) (f 4) (f 5) (mix (dgT (f 0) (f 1) (f 2) (mix (mix d len) (nI (sz 0))) (sz 0)) (nI (sz 1))) (sz 1)) (nI (sz 2))) (sz 2)) (nI (sz 3)))), (8, .ref (t 3)), (7, .int 3), (0, .ref co), (5, .ref ta), (6, .int (nI 4)), (9, .int (nI (sz 2)))]) hx hb dX0_mixedInto_46 rfl hl (by decide) rfl (fun ls hl => ?_)
                    refine lv_iconst (v := 0) hx hb dX0_mixedInto_47 (by decide) ?_
                    refine lv_istore (lv' := [(9, .int 0), (3, .long (mix (dgT (f 6) (f 7) (f 8) (mix (dgT (f 3) (f 4) (f 5) (mix (dgT (f 0) (f 1) (f 2) (mix (mix d len) (nI (sz 0))) (sz 0)) (nI (sz 1))) (sz 1)) (nI (sz 2))) (sz 2)) (nI (sz 3)))), (8, .ref (t 3)), (7, .int 3), (0, .ref co), (5, .ref ta), (6, .int (nI 4))]) hx hb dX0_mixedInto_48 hl (by decide) rfl (fun ls hl => ?_)
                    have loop50 : ∀ (d9 : Nat) (k : Nat), (sz 3 - k) < d9 → (k ≤ sz 3) → ∀ (ls : Array Slot), lv_has ls 11 [(0, .ref co), (5, .ref ta), (6, .int (nI 4)), (7, .int 3), (8, .ref (t 3)), (3, .long (dgT (f 9) (f 10) (f 11) (mix (dgT (f 6) (f 7) (f 8) (mix (dgT (f 3) (f 4) (f 5) (mix (dgT (f 0) (f 1) (f 2) (mix (mix d len) (nI (sz 0))) (sz 0)) (nI (sz 1))) (sz 1)) (nI (sz 2))) (sz 2)) (nI (sz 3))) k)), (9, .int (nI k))] → W p l e ({ frames := 3, cells := 0, slots := 0, locals := 64 } : Room) s m ([.ref co, .long d] : List Value).toArray below meth c s.heap [] 0 0 (MQ below (vp_Sl (fun v => v = dgClip len sz f nc ct cn d)) ([.ref co, .long d] : List Value).toArray s 0 0 (fun _ => False)) (F0 m 50 ls []) := by
                      intro d9
                      induction d9 with
                      | zero => intro k hd; exact absurd hd (Nat.not_lt_zero _)
                      | succ d9 ih50 =>
                        intro k hd50 hk ls hl
                        refine lv_iload hx hb dX0_mixedInto_50 (lv_at hl 6 rfl) ?_
                        refine lv_aload hx hb dX0_mixedInto_52 (lv_at hl 4 rfl) ?_
                        have hP9 := hP.sub (ws' := [oO (t 3) 4 [.ref (r 9), .ref (r 10), .ref (r 11)], oO (r 9) 2 [.ref (a 9), .int (nI (sz 3))], oO (r 10) 2 [.ref (a 10), .int (nI (sz 3))], oO (r 11) 2 [.ref (a 11), .int (nI (sz 3))], aI D (a 9) 16 (f 9), aI D (a 10) 16 (f 10), aI D (a 11) 16 (f 11)]) [27, 28, 29, 30, 31, 32, 33] rfl
                        refine vp_callSi (pV (rest := [.int (nI k)]) (qc := (RX4, TX4, 3)) [] 0 hC (c_count l D (t := t 3) (r1 := r 9) (r2 := r 10) (r3 := r 11) (a1 := a 9) (sz := sz 3) (a2 := a 10) (a3 := a 11) (ft := f 9) (fv := f 10) (fe := f 11) ) rfl (hP 27 _ rfl) (gV mM_X0_34 mI_X4_count mS_X4_count mN_X4 mC_X4_count) (by decide +kernel) rfl rfl ⟨Nat.le_of_ble_eq_true rfl, Nat.le_of_ble_eq_true rfl⟩ hG hP9 rfl hl.1 rfl (Nat.le_of_ble_eq_true rfl) dX0_mixedInto_54 ⟨Nat.le_of_ble_eq_true rfl, Nat.le_of_ble_eq_true rfl⟩) (fun r54 h54 => ?_)
                        obtain rfl : r54 = (nI (sz 3)) := h54
                        refine lv_icmp_ge (tgt := 95) hx hb dX0_mixedInto_57 (by decide) (fun c57 => ?_) (fun c57 => ?_)
                        · skip
                          have n57 := (nI_leI (a := sz 3) (b := k) (by omega) (by omega)).mp c57
                          obtain rfl : k = sz 3 := by omega
                          refine lv_iinc (v := 4) (lv' := [(7, .int 4), (0, .ref co), (5, .ref ta), (6, .int (nI 4)), (8, .ref (t 3)), (3, .long (dgT (f 9) (f 10) (f 11) (mix (dgT (f 6) (f 7) (f 8) (mix (dgT (f 3) (f 4) (f 5) (mix (dgT (f 0) (f 1) (f 2) (mix (mix d len) (nI (sz 0))) (sz 0)) (nI (sz 1))) (sz 1)) (nI (sz 2))) (sz 2)) (nI (sz 3))) (sz 3))), (9, .int (nI (sz 3)))]) hx hb dX0_mixedInto_95 hl (k := 3) rfl (by decide) (by decide) rfl (fun ls hl => ?_)
                          refine lv_goto (tgt := 23) hx hb dX0_mixedInto_98 (by decide) ?_
                          refine lv_iload hx hb dX0_mixedInto_23 (lv_at hl 0 rfl) ?_
                          refine lv_iload hx hb dX0_mixedInto_25 (lv_at hl 3 rfl) ?_
                          refine lv_icmp_ge (tgt := 101) hx hb dX0_mixedInto_27 (by decide) (fun _ => ?_) (fun h9 => (h9 (by decide)).elim)
                          refine lv_lload_n hx hb dX0_mixedInto_101 rfl (lv_at hl 5 rfl) ?_
                          refine lv_aload_n hx hb dX0_mixedInto_102 rfl (lv_at hl 1 rfl) ?_
                          have hP9 := hP.sub (ws' := [oO co 0 [.int len, .ref ta, .ref (q 0), .ref (q 1)], aT D ta 4 (tkF t), oO (q 0) 2 [.ref (b 0), .int (nI nc)], oO (q 1) 2 [.ref (b 1), .int (nI nc)], aI D (b 0) 8 ct, aI D (b 1) 8 cn]) [0, 1, 2, 3, 4, 5] rfl
                          refine vp_callSi (pV (rest := [.long (dgT (f 9) (f 10) (f 11) (mix (dgT (f 6) (f 7) (f 8) (mix (dgT (f 3) (f 4) (f 5) (mix (dgT (f 0) (f 1) (f 2) (mix (mix d len) (nI (sz 0))) (sz 0)) (nI (sz 1))) (sz 1)) (nI (sz 2))) (sz 2)) (nI (sz 3))) (sz 3))]) (qc := (RX0, TX0, 4)) [] 0 hC (c_cueCount l D (co := co) (len := len) (ta := ta) ) rfl (hP 0 _ rfl) (gV mM_X0_86 mI_X0_cueCount mS_X0_cueCount mN_X0 mC_X0_cueCount) (by decide +kernel) rfl rfl ⟨Nat.le_of_ble_eq_true rfl, Nat.le_of_ble_eq_true rfl⟩ hG hP9 rfl hl.1 rfl (Nat.le_of_ble_eq_true rfl) dX0_mixedInto_103 ⟨Nat.le_of_ble_eq_true rfl, Nat.le_of_ble_eq_true rfl⟩) (fun r103 h103 => ?_)
                          obtain rfl : r103 = (nI nc) := h103
                          have hP9 : va_P D cls [] s.heap := fun k q h => by simp at h
                          refine vp_callSl (pSN (rest := []) [.long (dgT (f 9) (f 10) (f 11) (mix (dgT (f 6) (f 7) (f 8) (mix (dgT (f 3) (f 4) (f 5) (mix (dgT (f 0) (f 1) (f 2) (mix (mix d len) (nI (sz 0))) (sz 0)) (nI (sz 1))) (sz 1)) (nI (sz 2))) (sz 2)) (nI (sz 3))) (sz 3)), .int (nI nc)] 2 hC (c_mixed l D (d := dgT (f 9) (f 10) (f 11) (mix (dgT (f 6) (f 7) (f 8) (mix (dgT (f 3) (f 4) (f 5) (mix (dgT (f 0) (f 1) (f 2) (mix (mix d len) (nI (sz 0))) (sz 0)) (nI (sz 1))) (sz 1)) (nI (sz 2))) (sz 2)) (nI (sz 3))) (sz 3)) (x := nI nc) ) (nM_KeyStage_Clip_79 hG) mT_X5_mixed mN_X5 mC_X5_mixed (by decide +kernel) rfl rfl ⟨Nat.le_of_ble_eq_true rfl, Nat.le_of_ble_eq_true rfl⟩ hG hP9 rfl hl.1 rfl (Nat.le_of_ble_eq_true rfl) dX0_mixedInto_106 ⟨Nat.le_of_ble_eq_true rfl, Nat.le_of_ble_eq_true rfl⟩) (fun r106 h106 => ?_)
                          obtain rfl : r106 = (mix (dgT (f 9) (f 10) (f 11) (mix (dgT (f 6) (f 7) (f 8) (mix (dgT (f 3) (f 4) (f 5) (mix (dgT (f 0) (f 1) (f 2) (mix (mix d len) (nI (sz 0))) (sz 0)) (nI (sz 1))) (sz 1)) (nI (sz 2))) (sz 2)) (nI (sz 3))) (sz 3)) (nI nc)) := h106
                          refine lv_lstore_n (lv' := [(3, .long (mix (dgT (f 9) (f 10) (f 11) (mix (dgT (f 6) (f 7) (f 8) (mix (dgT (f 3) (f 4) (f 5) (mix (dgT (f 0) (f 1) (f 2) (mix (mix d len) (nI (sz 0))) (sz 0)) (nI (sz 1))) (sz 1)) (nI (sz 2))) (sz 2)) (nI (sz 3))) (sz 3)) (nI nc))), (7, .int 4), (0, .ref co), (5, .ref ta), (6, .int (nI 4)), (8, .ref (t 3)), (9, .int (nI (sz 3)))]) hx hb dX0_mixedInto_109 rfl hl (by decide) rfl (fun ls hl => ?_)
                          refine lv_iconst (v := 0) hx hb dX0_mixedInto_110 (by decide) ?_
                          refine lv_istore (lv' := [(5, .int 0), (3, .long (mix (dgT (f 9) (f 10) (f 11) (mix (dgT (f 6) (f 7) (f 8) (mix (dgT (f 3) (f 4) (f 5) (mix (dgT (f 0) (f 1) (f 2) (mix (mix d len) (nI (sz 0))) (sz 0)) (nI (sz 1))) (sz 1)) (nI (sz 2))) (sz 2)) (nI (sz 3))) (sz 3)) (nI nc))), (7, .int 4), (0, .ref co), (6, .int (nI 4)), (8, .ref (t 3)), (9, .int (nI (sz 3)))]) hx hb dX0_mixedInto_111 hl (by decide) rfl (fun ls hl => ?_)
                          have loop113 : ∀ (d9 : Nat) (k : Nat), (nc - k) < d9 → (k ≤ nc) → ∀ (ls : Array Slot), lv_has ls 11 [(0, .ref co), (3, .long (dgC ct cn (mix (dgT (f 9) (f 10) (f 11) (mix (dgT (f 6) (f 7) (f 8) (mix (dgT (f 3) (f 4) (f 5) (mix (dgT (f 0) (f 1) (f 2) (mix (mix d len) (nI (sz 0))) (sz 0)) (nI (sz 1))) (sz 1)) (nI (sz 2))) (sz 2)) (nI (sz 3))) (sz 3)) (nI nc)) k)), (5, .int (nI k))] → W p l e ({ frames := 3, cells := 0, slots := 0, locals := 64 } : Room) s m ([.ref co, .long d] : List Value).toArray below meth c s.heap [] 0 0 (MQ below (vp_Sl (fun v => v = dgClip len sz f nc ct cn d)) ([.ref co, .long d] : List Value).toArray s 0 0 (fun _ => False)) (F0 m 113 ls []) := by
                            intro d9
                            induction d9 with
                            | zero => intro k hd; exact absurd hd (Nat.not_lt_zero _)
                            | succ d9 ih113 =>
                              intro k hd113 hk ls hl
                              refine lv_iload hx hb dX0_mixedInto_113 (lv_at hl 2 rfl) ?_
                              refine lv_aload_n hx hb dX0_mixedInto_115 rfl (lv_at hl 0 rfl) ?_
                              have hP9 := hP.sub (ws' := [oO co 0 [.int len, .ref ta, .ref (q 0), .ref (q 1)], aT D ta 4 (tkF t), oO (q 0) 2 [.ref (b 0), .int (nI nc)], oO (q 1) 2 [.ref (b 1), .int (nI nc)], aI D (b 0) 8 ct, aI D (b 1) 8 cn]) [0, 1, 2, 3, 4, 5] rfl
                              refine vp_callSi (pV (rest := [.int (nI k)]) (qc := (RX0, TX0, 4)) [] 0 hC (c_cueCount l D (co := co) (len := len) (ta := ta) ) rfl (hP 0 _ rfl) (gV mM_X0_86 mI_X0_cueCount mS_X0_cueCount mN_X0 mC_X0_cueCount) (by decide +kernel) rfl rfl ⟨Nat.le_of_ble_eq_true rfl, Nat.le_of_ble_eq_true rfl⟩ hG hP9 rfl hl.1 rfl (Nat.le_of_ble_eq_true rfl) dX0_mixedInto_116 ⟨Nat.le_of_ble_eq_true rfl, Nat.le_of_ble_eq_true rfl⟩) (fun r116 h116 => ?_)
                              obtain rfl : r116 = (nI nc) := h116
                              refine lv_icmp_ge (tgt := 156) hx hb dX0_mixedInto_119 (by decide) (fun c119 => ?_) (fun c119 => ?_)
                              · skip
                                have n119 := (nI_leI (a := nc) (b := k) (by omega) (by omega)).mp c119
                                obtain rfl : k = nc := by omega
                                refine lv_lload_n hx hb dX0_mixedInto_156 rfl (lv_at hl 1 rfl) ?_
                                refine Rl hx hb hr hlk ?_ dX0_mixedInto_157
                                exact rfl
                              · skip
                                have n119 := mt (nI_leI (a := nc) (b := k) (by omega) (by omega)).mpr c119
                                refine lv_iconst (v := 0) hx hb dX0_mixedInto_122 (by decide) ?_
                                refine lv_istore (lv' := [(6, .int 0), (0, .ref co), (3, .long (dgC ct cn (mix (dgT (f 9) (f 10) (f 11) (mix (dgT (f 6) (f 7) (f 8) (mix (dgT (f 3) (f 4) (f 5) (mix (dgT (f 0) (f 1) (f 2) (mix (mix d len) (nI (sz 0))) (sz 0)) (nI (sz 1))) (sz 1)) (nI (sz 2))) (sz 2)) (nI (sz 3))) (sz 3)) (nI nc)) k)), (5, .int (nI k))]) hx hb dX0_mixedInto_123 hl (by decide) rfl (fun ls hl => ?_)
                                refine lv_iload hx hb dX0_mixedInto_125 (lv_at hl 0 rfl) ?_
                                refine lv_iconst (v := 2) hx hb dX0_mixedInto_127 (by decide) ?_
                                refine lv_icmp_ge (tgt := 150) hx hb dX0_mixedInto_128 (by decide) (fun h9 => absurd h9 (by decide)) (fun _ => ?_)
                                refine lv_lload_n hx hb dX0_mixedInto_131 rfl (lv_at hl 2 rfl) ?_
                                refine lv_aload_n hx hb dX0_mixedInto_132 rfl (lv_at hl 1 rfl) ?_
                                refine lv_iload hx hb dX0_mixedInto_133 (lv_at hl 3 rfl) ?_
                                refine lv_iload hx hb dX0_mixedInto_135 (lv_at hl 0 rfl) ?_
                                have hP9 := hP.sub (ws' := [oO co 0 [.int len, .ref ta, .ref (q 0), .ref (q 1)], aT D ta 4 (tkF t), oO (q 0) 2 [.ref (b 0), .int (nI nc)], oO (q 1) 2 [.ref (b 1), .int (nI nc)], aI D (b 0) 8 ct, aI D (b 1) 8 cn]) [0, 1, 2, 3, 4, 5] rfl
                                refine vp_callSi (pV (rest := [.long (dgC ct cn (mix (dgT (f 9) (f 10) (f 11) (mix (dgT (f 6) (f 7) (f 8) (mix (dgT (f 3) (f 4) (f 5) (mix (dgT (f 0) (f 1) (f 2) (mix (mix d len) (nI (sz 0))) (sz 0)) (nI (sz 1))) (sz 1)) (nI (sz 2))) (sz 2)) (nI (sz 3))) (sz 3)) (nI nc)) k)]) (qc := (RX0, TX0, 4)) [.int (nI k), .int 0] 2 hC (c_cueFact l D (co := co) (j := k) (w := 0) (len := len) (ta := ta) (by omega) (by omega)) rfl (hP 0 _ rfl) (gV mM_X0_89 mI_X0_cueFact mS_X0_cueFact mN_X0 mC_X0_cueFact) (by decide +kernel) rfl rfl ⟨Nat.le_of_ble_eq_true rfl, Nat.le_of_ble_eq_true rfl⟩ hG hP9 rfl hl.1 rfl (Nat.le_of_ble_eq_true rfl) dX0_mixedInto_137 ⟨Nat.le_of_ble_eq_true rfl, Nat.le_of_ble_eq_true rfl⟩) (fun r137 h137 => ?_)
                                obtain rfl : r137 = (if 0 = 0 then ct k else cn k) := h137
                                refine tpi (y := ct k) (if_pos rfl) ?_
                                have hP9 : va_P D cls [] s.heap := fun k q h => by simp at h
                                refine vp_callSl (pSN (rest := []) [.long (dgC ct cn (mix (dgT (f 9) (f 10) (f 11) (mix (dgT (f 6) (f 7) (f 8) (mix (dgT (f 3) (f 4) (f 5) (mix (dgT (f 0) (f 1) (f 2) (mix (mix d len) (nI (sz 0))) (sz 0)) (nI (sz 1))) (sz 1)) (nI (sz 2))) (sz 2)) (nI (sz 3))) (sz 3)) (nI nc)) k), .int (ct k)] 2 hC (c_mixed l D (d := dgC ct cn (mix (dgT (f 9) (f 10) (f 11) (mix (dgT (f 6) (f 7) (f 8) (mix (dgT (f 3) (f 4) (f 5) (mix (dgT (f 0) (f 1) (f 2) (mix (mix d len) (nI (sz 0))) (sz 0)) (nI (sz 1))) (sz 1)) (nI (sz 2))) (sz 2)) (nI (sz 3))) (sz 3)) (nI nc)) k) (x := ct k) ) (nM_KeyStage_Clip_79 hG) mT_X5_mixed mN_X5 mC_X5_mixed (by decide +kernel) rfl rfl ⟨Nat.le_of_ble_eq_true rfl, Nat.le_of_ble_eq_true rfl⟩ hG hP9 rfl hl.1 rfl (Nat.le_of_ble_eq_true rfl) dX0_mixedInto_140 ⟨Nat.le_of_ble_eq_true rfl, Nat.le_of_ble_eq_true rfl⟩) (fun r140 h140 => ?_)
                                obtain rfl : r140 = (mix (dgC ct cn (mix (dgT (f 9) (f 10) (f 11) (mix (dgT (f 6) (f 7) (f 8) (mix (dgT (f 3) (f 4) (f 5) (mix (dgT (f 0) (f 1) (f 2) (mix (mix d len) (nI (sz 0))) (sz 0)) (nI (sz 1))) (sz 1)) (nI (sz 2))) (sz 2)) (nI (sz 3))) (sz 3)) (nI nc)) k) (ct k)) := h140
                                refine lv_lstore_n (lv' := [(3, .long (mix (dgC ct cn (mix (dgT (f 9) (f 10) (f 11) (mix (dgT (f 6) (f 7) (f 8) (mix (dgT (f 3) (f 4) (f 5) (mix (dgT (f 0) (f 1) (f 2) (mix (mix d len) (nI (sz 0))) (sz 0)) (nI (sz 1))) (sz 1)) (nI (sz 2))) (sz 2)) (nI (sz 3))) (sz 3)) (nI nc)) k) (ct k))), (6, .int 0), (0, .ref co), (5, .int (nI k))]) hx hb dX0_mixedInto_143 rfl hl (by decide) rfl (fun ls hl => ?_)
                                refine lv_iinc (v := 1) (lv' := [(6, .int 1), (3, .long (mix (dgC ct cn (mix (dgT (f 9) (f 10) (f 11) (mix (dgT (f 6) (f 7) (f 8) (mix (dgT (f 3) (f 4) (f 5) (mix (dgT (f 0) (f 1) (f 2) (mix (mix d len) (nI (sz 0))) (sz 0)) (nI (sz 1))) (sz 1)) (nI (sz 2))) (sz 2)) (nI (sz 3))) (sz 3)) (nI nc)) k) (ct k))), (0, .ref co), (5, .int (nI k))]) hx hb dX0_mixedInto_144 hl (k := 1) rfl (by decide) (by decide) rfl (fun ls hl => ?_)
                                refine lv_goto (tgt := 125) hx hb dX0_mixedInto_147 (by decide) ?_
                                refine lv_iload hx hb dX0_mixedInto_125 (lv_at hl 0 rfl) ?_
                                refine lv_iconst (v := 2) hx hb dX0_mixedInto_127 (by decide) ?_
                                refine lv_icmp_ge (tgt := 150) hx hb dX0_mixedInto_128 (by decide) (fun h9 => absurd h9 (by decide)) (fun _ => ?_)
                                refine lv_lload_n hx hb dX0_mixedInto_131 rfl (lv_at hl 1 rfl) ?_
                                refine lv_aload_n hx hb dX0_mixedInto_132 rfl (lv_at hl 2 rfl) ?_
                                refine lv_iload hx hb dX0_mixedInto_133 (lv_at hl 3 rfl) ?_
                                refine lv_iload hx hb dX0_mixedInto_135 (lv_at hl 0 rfl) ?_
                                have hP9 := hP.sub (ws' := [oO co 0 [.int len, .ref ta, .ref (q 0), .ref (q 1)], aT D ta 4 (tkF t), oO (q 0) 2 [.ref (b 0), .int (nI nc)], oO (q 1) 2 [.ref (b 1), .int (nI nc)], aI D (b 0) 8 ct, aI D (b 1) 8 cn]) [0, 1, 2, 3, 4, 5] rfl
                                refine vp_callSi (pV (rest := [.long (mix (dgC ct cn (mix (dgT (f 9) (f 10) (f 11) (mix (dgT (f 6) (f 7) (f 8) (mix (dgT (f 3) (f 4) (f 5) (mix (dgT (f 0) (f 1) (f 2) (mix (mix d len) (nI (sz 0))) (sz 0)) (nI (sz 1))) (sz 1)) (nI (sz 2))) (sz 2)) (nI (sz 3))) (sz 3)) (nI nc)) k) (ct k))]) (qc := (RX0, TX0, 4)) [.int (nI k), .int 1] 2 hC (c_cueFact l D (co := co) (j := k) (w := 1) (len := len) (ta := ta) (by omega) (by omega)) rfl (hP 0 _ rfl) (gV mM_X0_89 mI_X0_cueFact mS_X0_cueFact mN_X0 mC_X0_cueFact) (by decide +kernel) rfl rfl ⟨Nat.le_of_ble_eq_true rfl, Nat.le_of_ble_eq_true rfl⟩ hG hP9 rfl hl.1 rfl (Nat.le_of_ble_eq_true rfl) dX0_mixedInto_137 ⟨Nat.le_of_ble_eq_true rfl, Nat.le_of_ble_eq_true rfl⟩) (fun r137 h137 => ?_)
                                obtain rfl : r137 = (if 1 = 0 then ct k else cn k) := h137
                                refine tpi (y := cn k) (if_neg (by decide)) ?_
                                have hP9 : va_P D cls [] s.heap := fun k q h => by simp at h
                                refine vp_callSl (pSN (rest := []) [.long (mix (dgC ct cn (mix (dgT (f 9) (f 10) (f 11) (mix (dgT (f 6) (f 7) (f 8) (mix (dgT (f 3) (f 4) (f 5) (mix (dgT (f 0) (f 1) (f 2) (mix (mix d len) (nI (sz 0))) (sz 0)) (nI (sz 1))) (sz 1)) (nI (sz 2))) (sz 2)) (nI (sz 3))) (sz 3)) (nI nc)) k) (ct k)), .int (cn k)] 2 hC (c_mixed l D (d := mix (dgC ct cn (mix (dgT (f 9) (f 10) (f 11) (mix (dgT (f 6) (f 7) (f 8) (mix (dgT (f 3) (f 4) (f 5) (mix (dgT (f 0) (f 1) (f 2) (mix (mix d len) (nI (sz 0))) (sz 0)) (nI (sz 1))) (sz 1)) (nI (sz 2))) (sz 2)) (nI (sz 3))) (sz 3)) (nI nc)) k) (ct k)) (x := cn k) ) (nM_KeyStage_Clip_79 hG) mT_X5_mixed mN_X5 mC_X5_mixed (by decide +kernel) rfl rfl ⟨Nat.le_of_ble_eq_true rfl, Nat.le_of_ble_eq_true rfl⟩ hG hP9 rfl hl.1 rfl (Nat.le_of_ble_eq_true rfl) dX0_mixedInto_140 ⟨Nat.le_of_ble_eq_true rfl, Nat.le_of_ble_eq_true rfl⟩) (fun r140 h140 => ?_)
                                obtain rfl : r140 = (mix (mix (dgC ct cn (mix (dgT (f 9) (f 10) (f 11) (mix (dgT (f 6) (f 7) (f 8) (mix (dgT (f 3) (f 4) (f 5) (mix (dgT (f 0) (f 1) (f 2) (mix (mix d len) (nI (sz 0))) (sz 0)) (nI (sz 1))) (sz 1)) (nI (sz 2))) (sz 2)) (nI (sz 3))) (sz 3)) (nI nc)) k) (ct k)) (cn k)) := h140
                                refine lv_lstore_n (lv' := [(3, .long (mix (mix (dgC ct cn (mix (dgT (f 9) (f 10) (f 11) (mix (dgT (f 6) (f 7) (f 8) (mix (dgT (f 3) (f 4) (f 5) (mix (dgT (f 0) (f 1) (f 2) (mix (mix d len) (nI (sz 0))) (sz 0)) (nI (sz 1))) (sz 1)) (nI (sz 2))) (sz 2)) (nI (sz 3))) (sz 3)) (nI nc)) k) (ct k)) (cn k))), (6, .int 1), (0, .ref co), (5, .int (nI k))]) hx hb dX0_mixedInto_143 rfl hl (by decide) rfl (fun ls hl => ?_)
                                refine lv_iinc (v := 2) (lv' := [(6, .int 2), (3, .long (mix (mix (dgC ct cn (mix (dgT (f 9) (f 10) (f 11) (mix (dgT (f 6) (f 7) (f 8) (mix (dgT (f 3) (f 4) (f 5) (mix (dgT (f 0) (f 1) (f 2) (mix (mix d len) (nI (sz 0))) (sz 0)) (nI (sz 1))) (sz 1)) (nI (sz 2))) (sz 2)) (nI (sz 3))) (sz 3)) (nI nc)) k) (ct k)) (cn k))), (0, .ref co), (5, .int (nI k))]) hx hb dX0_mixedInto_144 hl (k := 1) rfl (by decide) (by decide) rfl (fun ls hl => ?_)
                                refine lv_goto (tgt := 125) hx hb dX0_mixedInto_147 (by decide) ?_
                                refine lv_iload hx hb dX0_mixedInto_125 (lv_at hl 0 rfl) ?_
                                refine lv_iconst (v := 2) hx hb dX0_mixedInto_127 (by decide) ?_
                                refine lv_icmp_ge (tgt := 150) hx hb dX0_mixedInto_128 (by decide) (fun _ => ?_) (fun h9 => (h9 (by decide)).elim)
                                refine lv_iinc (v := nI (k + 1)) (lv' := [(5, .int (nI (k + 1))), (6, .int 2), (3, .long (mix (mix (dgC ct cn (mix (dgT (f 9) (f 10) (f 11) (mix (dgT (f 6) (f 7) (f 8) (mix (dgT (f 3) (f 4) (f 5) (mix (dgT (f 0) (f 1) (f 2) (mix (mix d len) (nI (sz 0))) (sz 0)) (nI (sz 1))) (sz 1)) (nI (sz 2))) (sz 2)) (nI (sz 3))) (sz 3)) (nI nc)) k) (ct k)) (cn k))), (0, .ref co)]) hx hb dX0_mixedInto_150 hl (k := 3) rfl (nI_1 _) (by decide) rfl (fun ls hl => ?_)
                                refine lv_goto (tgt := 113) hx hb dX0_mixedInto_153 (by decide) ?_
                                exact ih113 (k + 1) (by omega) (by omega) _ (lv_sub hl [3, 2, 0] rfl)
                          exact loop113 _ 0 (Nat.lt_succ_self _) (by omega) _ (lv_sub hl [3, 1, 0] rfl)
                        · skip
                          have n57 := mt (nI_leI (a := sz 3) (b := k) (by omega) (by omega)).mpr c57
                          refine lv_iconst (v := 0) hx hb dX0_mixedInto_60 (by decide) ?_
                          refine lv_istore (lv' := [(10, .int 0), (0, .ref co), (5, .ref ta), (6, .int (nI 4)), (7, .int 3), (8, .ref (t 3)), (3, .long (dgT (f 9) (f 10) (f 11) (mix (dgT (f 6) (f 7) (f 8) (mix (dgT (f 3) (f 4) (f 5) (mix (dgT (f 0) (f 1) (f 2) (mix (mix d len) (nI (sz 0))) (sz 0)) (nI (sz 1))) (sz 1)) (nI (sz 2))) (sz 2)) (nI (sz 3))) k)), (9, .int (nI k))]) hx hb dX0_mixedInto_61 hl (by decide) rfl (fun ls hl => ?_)
                          refine lv_iload hx hb dX0_mixedInto_63 (lv_at hl 0 rfl) ?_
                          refine lv_iconst (v := 3) hx hb dX0_mixedInto_65 (by decide) ?_
                          refine lv_icmp_ge (tgt := 89) hx hb dX0_mixedInto_66 (by decide) (fun h9 => absurd h9 (by decide)) (fun _ => ?_)
                          refine lv_lload_n hx hb dX0_mixedInto_69 rfl (lv_at hl 6 rfl) ?_
                          refine lv_aload hx hb dX0_mixedInto_70 (lv_at hl 5 rfl) ?_
                          refine lv_iload hx hb dX0_mixedInto_72 (lv_at hl 7 rfl) ?_
                          refine lv_iload hx hb dX0_mixedInto_74 (lv_at hl 0 rfl) ?_
                          have hP9 := hP.sub (ws' := [oO (t 3) 4 [.ref (r 9), .ref (r 10), .ref (r 11)], oO (r 9) 2 [.ref (a 9), .int (nI (sz 3))], oO (r 10) 2 [.ref (a 10), .int (nI (sz 3))], oO (r 11) 2 [.ref (a 11), .int (nI (sz 3))], aI D (a 9) 16 (f 9), aI D (a 10) 16 (f 10), aI D (a 11) 16 (f 11)]) [27, 28, 29, 30, 31, 32, 33] rfl
                          refine vp_callSi (pV (rest := [.long (dgT (f 9) (f 10) (f 11) (mix (dgT (f 6) (f 7) (f 8) (mix (dgT (f 3) (f 4) (f 5) (mix (dgT (f 0) (f 1) (f 2) (mix (mix d len) (nI (sz 0))) (sz 0)) (nI (sz 1))) (sz 1)) (nI (sz 2))) (sz 2)) (nI (sz 3))) k)]) (qc := (RX4, TX4, 3)) [.int (nI k), .int 0] 2 hC (c_fact l D (t := t 3) (j := k) (w := 0) (r1 := r 9) (r2 := r 10) (r3 := r 11) (a1 := a 9) (sz := sz 3) (a2 := a 10) (a3 := a 11) (ft := f 9) (fv := f 10) (fe := f 11) (by omega) (by omega)) rfl (hP 27 _ rfl) (gV mM_X0_83 mI_X4_fact mS_X4_fact mN_X4 mC_X4_fact) (by decide +kernel) rfl rfl ⟨Nat.le_of_ble_eq_true rfl, Nat.le_of_ble_eq_true rfl⟩ hG hP9 rfl hl.1 rfl (Nat.le_of_ble_eq_true rfl) dX0_mixedInto_76 ⟨Nat.le_of_ble_eq_true rfl, Nat.le_of_ble_eq_true rfl⟩) (fun r76 h76 => ?_)
                          obtain rfl : r76 = (if 0 = 0 then (f 9) k else if 0 = 1 then (f 10) k else (f 11) k) := h76
                          refine tpi (y := f 9 k) (if_pos rfl) ?_
                          have hP9 : va_P D cls [] s.heap := fun k q h => by simp at h
                          refine vp_callSl (pSN (rest := []) [.long (dgT (f 9) (f 10) (f 11) (mix (dgT (f 6) (f 7) (f 8) (mix (dgT (f 3) (f 4) (f 5) (mix (dgT (f 0) (f 1) (f 2) (mix (mix d len) (nI (sz 0))) (sz 0)) (nI (sz 1))) (sz 1)) (nI (sz 2))) (sz 2)) (nI (sz 3))) k), .int (f 9 k)] 2 hC (c_mixed l D (d := dgT (f 9) (f 10) (f 11) (mix (dgT (f 6) (f 7) (f 8) (mix (dgT (f 3) (f 4) (f 5) (mix (dgT (f 0) (f 1) (f 2) (mix (mix d len) (nI (sz 0))) (sz 0)) (nI (sz 1))) (sz 1)) (nI (sz 2))) (sz 2)) (nI (sz 3))) k) (x := f 9 k) ) (nM_KeyStage_Clip_79 hG) mT_X5_mixed mN_X5 mC_X5_mixed (by decide +kernel) rfl rfl ⟨Nat.le_of_ble_eq_true rfl, Nat.le_of_ble_eq_true rfl⟩ hG hP9 rfl hl.1 rfl (Nat.le_of_ble_eq_true rfl) dX0_mixedInto_79 ⟨Nat.le_of_ble_eq_true rfl, Nat.le_of_ble_eq_true rfl⟩) (fun r79 h79 => ?_)
                          obtain rfl : r79 = (mix (dgT (f 9) (f 10) (f 11) (mix (dgT (f 6) (f 7) (f 8) (mix (dgT (f 3) (f 4) (f 5) (mix (dgT (f 0) (f 1) (f 2) (mix (mix d len) (nI (sz 0))) (sz 0)) (nI (sz 1))) (sz 1)) (nI (sz 2))) (sz 2)) (nI (sz 3))) k) (f 9 k)) := h79
                          refine lv_lstore_n (lv' := [(3, .long (mix (dgT (f 9) (f 10) (f 11) (mix (dgT (f 6) (f 7) (f 8) (mix (dgT (f 3) (f 4) (f 5) (mix (dgT (f 0) (f 1) (f 2) (mix (mix d len) (nI (sz 0))) (sz 0)) (nI (sz 1))) (sz 1)) (nI (sz 2))) (sz 2)) (nI (sz 3))) k) (f 9 k))), (10, .int 0), (0, .ref co), (5, .ref ta), (6, .int (nI 4)), (7, .int 3), (8, .ref (t 3)), (9, .int (nI k))]) hx hb dX0_mixedInto_82 rfl hl (by decide) rfl (fun ls hl => ?_)
                          refine lv_iinc (v := 1) (lv' := [(10, .int 1), (3, .long (mix (dgT (f 9) (f 10) (f 11) (mix (dgT (f 6) (f 7) (f 8) (mix (dgT (f 3) (f 4) (f 5) (mix (dgT (f 0) (f 1) (f 2) (mix (mix d len) (nI (sz 0))) (sz 0)) (nI (sz 1))) (sz 1)) (nI (sz 2))) (sz 2)) (nI (sz 3))) k) (f 9 k))), (0, .ref co), (5, .ref ta), (6, .int (nI 4)), (7, .int 3), (8, .ref (t 3)), (9, .int (nI k))]) hx hb dX0_mixedInto_83 hl (k := 1) rfl (by decide) (by decide) rfl (fun ls hl => ?_)
                          refine lv_goto (tgt := 63) hx hb dX0_mixedInto_86 (by decide) ?_
                          refine lv_iload hx hb dX0_mixedInto_63 (lv_at hl 0 rfl) ?_
                          refine lv_iconst (v := 3) hx hb dX0_mixedInto_65 (by decide) ?_
                          refine lv_icmp_ge (tgt := 89) hx hb dX0_mixedInto_66 (by decide) (fun h9 => absurd h9 (by decide)) (fun _ => ?_)
                          refine lv_lload_n hx hb dX0_mixedInto_69 rfl (lv_at hl 1 rfl) ?_
                          refine lv_aload hx hb dX0_mixedInto_70 (lv_at hl 6 rfl) ?_
                          refine lv_iload hx hb dX0_mixedInto_72 (lv_at hl 7 rfl) ?_
                          refine lv_iload hx hb dX0_mixedInto_74 (lv_at hl 0 rfl) ?_
                          have hP9 := hP.sub (ws' := [oO (t 3) 4 [.ref (r 9), .ref (r 10), .ref (r 11)], oO (r 9) 2 [.ref (a 9), .int (nI (sz 3))], oO (r 10) 2 [.ref (a 10), .int (nI (sz 3))], oO (r 11) 2 [.ref (a 11), .int (nI (sz 3))], aI D (a 9) 16 (f 9), aI D (a 10) 16 (f 10), aI D (a 11) 16 (f 11)]) [27, 28, 29, 30, 31, 32, 33] rfl
                          refine vp_callSi (pV (rest := [.long (mix (dgT (f 9) (f 10) (f 11) (mix (dgT (f 6) (f 7) (f 8) (mix (dgT (f 3) (f 4) (f 5) (mix (dgT (f 0) (f 1) (f 2) (mix (mix d len) (nI (sz 0))) (sz 0)) (nI (sz 1))) (sz 1)) (nI (sz 2))) (sz 2)) (nI (sz 3))) k) (f 9 k))]) (qc := (RX4, TX4, 3)) [.int (nI k), .int 1] 2 hC (c_fact l D (t := t 3) (j := k) (w := 1) (r1 := r 9) (r2 := r 10) (r3 := r 11) (a1 := a 9) (sz := sz 3) (a2 := a 10) (a3 := a 11) (ft := f 9) (fv := f 10) (fe := f 11) (by omega) (by omega)) rfl (hP 27 _ rfl) (gV mM_X0_83 mI_X4_fact mS_X4_fact mN_X4 mC_X4_fact) (by decide +kernel) rfl rfl ⟨Nat.le_of_ble_eq_true rfl, Nat.le_of_ble_eq_true rfl⟩ hG hP9 rfl hl.1 rfl (Nat.le_of_ble_eq_true rfl) dX0_mixedInto_76 ⟨Nat.le_of_ble_eq_true rfl, Nat.le_of_ble_eq_true rfl⟩) (fun r76 h76 => ?_)
                          obtain rfl : r76 = (if 1 = 0 then (f 9) k else if 1 = 1 then (f 10) k else (f 11) k) := h76
                          refine tpi (y := f 10 k) ((if_neg (by decide)).trans (if_pos rfl)) ?_
                          have hP9 : va_P D cls [] s.heap := fun k q h => by simp at h
                          refine vp_callSl (pSN (rest := []) [.long (mix (dgT (f 9) (f 10) (f 11) (mix (dgT (f 6) (f 7) (f 8) (mix (dgT (f 3) (f 4) (f 5) (mix (dgT (f 0) (f 1) (f 2) (mix (mix d len) (nI (sz 0))) (sz 0)) (nI (sz 1))) (sz 1)) (nI (sz 2))) (sz 2)) (nI (sz 3))) k) (f 9 k)), .int (f 10 k)] 2 hC (c_mixed l D (d := mix (dgT (f 9) (f 10) (f 11) (mix (dgT (f 6) (f 7) (f 8) (mix (dgT (f 3) (f 4) (f 5) (mix (dgT (f 0) (f 1) (f 2) (mix (mix d len) (nI (sz 0))) (sz 0)) (nI (sz 1))) (sz 1)) (nI (sz 2))) (sz 2)) (nI (sz 3))) k) (f 9 k)) (x := f 10 k) ) (nM_KeyStage_Clip_79 hG) mT_X5_mixed mN_X5 mC_X5_mixed (by decide +kernel) rfl rfl ⟨Nat.le_of_ble_eq_true rfl, Nat.le_of_ble_eq_true rfl⟩ hG hP9 rfl hl.1 rfl (Nat.le_of_ble_eq_true rfl) dX0_mixedInto_79 ⟨Nat.le_of_ble_eq_true rfl, Nat.le_of_ble_eq_true rfl⟩) (fun r79 h79 => ?_)
                          obtain rfl : r79 = (mix (mix (dgT (f 9) (f 10) (f 11) (mix (dgT (f 6) (f 7) (f 8) (mix (dgT (f 3) (f 4) (f 5) (mix (dgT (f 0) (f 1) (f 2) (mix (mix d len) (nI (sz 0))) (sz 0)) (nI (sz 1))) (sz 1)) (nI (sz 2))) (sz 2)) (nI (sz 3))) k) (f 9 k)) (f 10 k)) := h79
                          refine lv_lstore_n (lv' := [(3, .long (mix (mix (dgT (f 9) (f 10) (f 11) (mix (dgT (f 6) (f 7) (f 8) (mix (dgT (f 3) (f 4) (f 5) (mix (dgT (f 0) (f 1) (f 2) (mix (mix d len) (nI (sz 0))) (sz 0)) (nI (sz 1))) (sz 1)) (nI (sz 2))) (sz 2)) (nI (sz 3))) k) (f 9 k)) (f 10 k))), (10, .int 1), (0, .ref co), (5, .ref ta), (6, .int (nI 4)), (7, .int 3), (8, .ref (t 3)), (9, .int (nI k))]) hx hb dX0_mixedInto_82 rfl hl (by decide) rfl (fun ls hl => ?_)
                          refine lv_iinc (v := 2) (lv' := [(10, .int 2), (3, .long (mix (mix (dgT (f 9) (f 10) (f 11) (mix (dgT (f 6) (f 7) (f 8) (mix (dgT (f 3) (f 4) (f 5) (mix (dgT (f 0) (f 1) (f 2) (mix (mix d len) (nI (sz 0))) (sz 0)) (nI (sz 1))) (sz 1)) (nI (sz 2))) (sz 2)) (nI (sz 3))) k) (f 9 k)) (f 10 k))), (0, .ref co), (5, .ref ta), (6, .int (nI 4)), (7, .int 3), (8, .ref (t 3)), (9, .int (nI k))]) hx hb dX0_mixedInto_83 hl (k := 1) rfl (by decide) (by decide) rfl (fun ls hl => ?_)
                          refine lv_goto (tgt := 63) hx hb dX0_mixedInto_86 (by decide) ?_
                          refine lv_iload hx hb dX0_mixedInto_63 (lv_at hl 0 rfl) ?_
                          refine lv_iconst (v := 3) hx hb dX0_mixedInto_65 (by decide) ?_
                          refine lv_icmp_ge (tgt := 89) hx hb dX0_mixedInto_66 (by decide) (fun h9 => absurd h9 (by decide)) (fun _ => ?_)
                          refine lv_lload_n hx hb dX0_mixedInto_69 rfl (lv_at hl 1 rfl) ?_
                          refine lv_aload hx hb dX0_mixedInto_70 (lv_at hl 6 rfl) ?_
                          refine lv_iload hx hb dX0_mixedInto_72 (lv_at hl 7 rfl) ?_
                          refine lv_iload hx hb dX0_mixedInto_74 (lv_at hl 0 rfl) ?_
                          have hP9 := hP.sub (ws' := [oO (t 3) 4 [.ref (r 9), .ref (r 10), .ref (r 11)], oO (r 9) 2 [.ref (a 9), .int (nI (sz 3))], oO (r 10) 2 [.ref (a 10), .int (nI (sz 3))], oO (r 11) 2 [.ref (a 11), .int (nI (sz 3))], aI D (a 9) 16 (f 9), aI D (a 10) 16 (f 10), aI D (a 11) 16 (f 11)]) [27, 28, 29, 30, 31, 32, 33] rfl
                          refine vp_callSi (pV (rest := [.long (mix (mix (dgT (f 9) (f 10) (f 11) (mix (dgT (f 6) (f 7) (f 8) (mix (dgT (f 3) (f 4) (f 5) (mix (dgT (f 0) (f 1) (f 2) (mix (mix d len) (nI (sz 0))) (sz 0)) (nI (sz 1))) (sz 1)) (nI (sz 2))) (sz 2)) (nI (sz 3))) k) (f 9 k)) (f 10 k))]) (qc := (RX4, TX4, 3)) [.int (nI k), .int 2] 2 hC (c_fact l D (t := t 3) (j := k) (w := 2) (r1 := r 9) (r2 := r 10) (r3 := r 11) (a1 := a 9) (sz := sz 3) (a2 := a 10) (a3 := a 11) (ft := f 9) (fv := f 10) (fe := f 11) (by omega) (by omega)) rfl (hP 27 _ rfl) (gV mM_X0_83 mI_X4_fact mS_X4_fact mN_X4 mC_X4_fact) (by decide +kernel) rfl rfl ⟨Nat.le_of_ble_eq_true rfl, Nat.le_of_ble_eq_true rfl⟩ hG hP9 rfl hl.1 rfl (Nat.le_of_ble_eq_true rfl) dX0_mixedInto_76 ⟨Nat.le_of_ble_eq_true rfl, Nat.le_of_ble_eq_true rfl⟩) (fun r76 h76 => ?_)
                          obtain rfl : r76 = (if 2 = 0 then (f 9) k else if 2 = 1 then (f 10) k else (f 11) k) := h76
                          refine tpi (y := f 11 k) ((if_neg (by decide)).trans (if_neg (by decide))) ?_
                          have hP9 : va_P D cls [] s.heap := fun k q h => by simp at h
                          refine vp_callSl (pSN (rest := []) [.long (mix (mix (dgT (f 9) (f 10) (f 11) (mix (dgT (f 6) (f 7) (f 8) (mix (dgT (f 3) (f 4) (f 5) (mix (dgT (f 0) (f 1) (f 2) (mix (mix d len) (nI (sz 0))) (sz 0)) (nI (sz 1))) (sz 1)) (nI (sz 2))) (sz 2)) (nI (sz 3))) k) (f 9 k)) (f 10 k)), .int (f 11 k)] 2 hC (c_mixed l D (d := mix (mix (dgT (f 9) (f 10) (f 11) (mix (dgT (f 6) (f 7) (f 8) (mix (dgT (f 3) (f 4) (f 5) (mix (dgT (f 0) (f 1) (f 2) (mix (mix d len) (nI (sz 0))) (sz 0)) (nI (sz 1))) (sz 1)) (nI (sz 2))) (sz 2)) (nI (sz 3))) k) (f 9 k)) (f 10 k)) (x := f 11 k) ) (nM_KeyStage_Clip_79 hG) mT_X5_mixed mN_X5 mC_X5_mixed (by decide +kernel) rfl rfl ⟨Nat.le_of_ble_eq_true rfl, Nat.le_of_ble_eq_true rfl⟩ hG hP9 rfl hl.1 rfl (Nat.le_of_ble_eq_true rfl) dX0_mixedInto_79 ⟨Nat.le_of_ble_eq_true rfl, Nat.le_of_ble_eq_true rfl⟩) (fun r79 h79 => ?_)
                          obtain rfl : r79 = (mix (mix (mix (dgT (f 9) (f 10) (f 11) (mix (dgT (f 6) (f 7) (f 8) (mix (dgT (f 3) (f 4) (f 5) (mix (dgT (f 0) (f 1) (f 2) (mix (mix d len) (nI (sz 0))) (sz 0)) (nI (sz 1))) (sz 1)) (nI (sz 2))) (sz 2)) (nI (sz 3))) k) (f 9 k)) (f 10 k)) (f 11 k)) := h79
                          refine lv_lstore_n (lv' := [(3, .long (mix (mix (mix (dgT (f 9) (f 10) (f 11) (mix (dgT (f 6) (f 7) (f 8) (mix (dgT (f 3) (f 4) (f 5) (mix (dgT (f 0) (f 1) (f 2) (mix (mix d len) (nI (sz 0))) (sz 0)) (nI (sz 1))) (sz 1)) (nI (sz 2))) (sz 2)) (nI (sz 3))) k) (f 9 k)) (f 10 k)) (f 11 k))), (10, .int 2), (0, .ref co), (5, .ref ta), (6, .int (nI 4)), (7, .int 3), (8, .ref (t 3)), (9, .int (nI k))]) hx hb dX0_mixedInto_82 rfl hl (by decide) rfl (fun ls hl => ?_)
                          refine lv_iinc (v := 3) (lv' := [(10, .int 3), (3, .long (mix (mix (mix (dgT (f 9) (f 10) (f 11) (mix (dgT (f 6) (f 7) (f 8) (mix (dgT (f 3) (f 4) (f 5) (mix (dgT (f 0) (f 1) (f 2) (mix (mix d len) (nI (sz 0))) (sz 0)) (nI (sz 1))) (sz 1)) (nI (sz 2))) (sz 2)) (nI (sz 3))) k) (f 9 k)) (f 10 k)) (f 11 k))), (0, .ref co), (5, .ref ta), (6, .int (nI 4)), (7, .int 3), (8, .ref (t 3)), (9, .int (nI k))]) hx hb dX0_mixedInto_83 hl (k := 1) rfl (by decide) (by decide) rfl (fun ls hl => ?_)
                          refine lv_goto (tgt := 63) hx hb dX0_mixedInto_86 (by decide) ?_
                          refine lv_iload hx hb dX0_mixedInto_63 (lv_at hl 0 rfl) ?_
                          refine lv_iconst (v := 3) hx hb dX0_mixedInto_65 (by decide) ?_
                          refine lv_icmp_ge (tgt := 89) hx hb dX0_mixedInto_66 (by decide) (fun _ => ?_) (fun h9 => (h9 (by decide)).elim)
                          refine lv_iinc (v := nI (k + 1)) (lv' := [(9, .int (nI (k + 1))), (10, .int 3), (3, .long (mix (mix (mix (dgT (f 9) (f 10) (f 11) (mix (dgT (f 6) (f 7) (f 8) (mix (dgT (f 3) (f 4) (f 5) (mix (dgT (f 0) (f 1) (f 2) (mix (mix d len) (nI (sz 0))) (sz 0)) (nI (sz 1))) (sz 1)) (nI (sz 2))) (sz 2)) (nI (sz 3))) k) (f 9 k)) (f 10 k)) (f 11 k))), (0, .ref co), (5, .ref ta), (6, .int (nI 4)), (7, .int 3), (8, .ref (t 3))]) hx hb dX0_mixedInto_89 hl (k := 7) rfl (nI_1 _) (by decide) rfl (fun ls hl => ?_)
                          refine lv_goto (tgt := 50) hx hb dX0_mixedInto_92 (by decide) ?_
                          exact ih50 (k + 1) (by omega) (by omega) _ (lv_sub hl [3, 4, 5, 6, 7, 2, 0] rfl)
                    exact loop50 _ 0 (Nat.lt_succ_self _) (by omega) _ (lv_sub hl [4, 5, 6, 3, 2, 1, 0] rfl)
                  · skip
                    have n57 := mt (nI_leI (a := sz 2) (b := k) (by omega) (by omega)).mpr c57
                    refine lv_iconst (v := 0) hx hb dX0_mixedInto_60 (by decide) ?_
                    refine lv_istore (lv' := [(10, .int 0), (0, .ref co), (5, .ref ta), (6, .int (nI 4)), (7, .int 2), (8, .ref (t 2)), (3, .long (dgT (f 6) (f 7) (f 8) (mix (dgT (f 3) (f 4) (f 5) (mix (dgT (f 0) (f 1) (f 2) (mix (mix d len) (nI (sz 0))) (sz 0)) (nI (sz 1))) (sz 1)) (nI (sz 2))) k)), (9, .int (nI k))]) hx hb dX0_mixedInto_61 hl (by decide) rfl (fun ls hl => ?_)
                    refine lv_iload hx hb dX0_mixedInto_63 (lv_at hl 0 rfl) ?_
                    refine lv_iconst (v := 3) hx hb dX0_mixedInto_65 (by decide) ?_
                    refine lv_icmp_ge (tgt := 89) hx hb dX0_mixedInto_66 (by decide) (fun h9 => absurd h9 (by decide)) (fun _ => ?_)
                    refine lv_lload_n hx hb dX0_mixedInto_69 rfl (lv_at hl 6 rfl) ?_
                    refine lv_aload hx hb dX0_mixedInto_70 (lv_at hl 5 rfl) ?_
                    refine lv_iload hx hb dX0_mixedInto_72 (lv_at hl 7 rfl) ?_
                    refine lv_iload hx hb dX0_mixedInto_74 (lv_at hl 0 rfl) ?_
                    have hP9 := hP.sub (ws' := [oO (t 2) 4 [.ref (r 6), .ref (r 7), .ref (r 8)], oO (r 6) 2 [.ref (a 6), .int (nI (sz 2))], oO (r 7) 2 [.ref (a 7), .int (nI (sz 2))], oO (r 8) 2 [.ref (a 8), .int (nI (sz 2))], aI D (a 6) 16 (f 6), aI D (a 7) 16 (f 7), aI D (a 8) 16 (f 8)]) [20, 21, 22, 23, 24, 25, 26] rfl
                    refine vp_callSi (pV (rest := [.long (dgT (f 6) (f 7) (f 8) (mix (dgT (f 3) (f 4) (f 5) (mix (dgT (f 0) (f 1) (f 2) (mix (mix d len) (nI (sz 0))) (sz 0)) (nI (sz 1))) (sz 1)) (nI (sz 2))) k)]) (qc := (RX4, TX4, 3)) [.int (nI k), .int 0] 2 hC (c_fact l D (t := t 2) (j := k) (w := 0) (r1 := r 6) (r2 := r 7) (r3 := r 8) (a1 := a 6) (sz := sz 2) (a2 := a 7) (a3 := a 8) (ft := f 6) (fv := f 7) (fe := f 8) (by omega) (by omega)) rfl (hP 20 _ rfl) (gV mM_X0_83 mI_X4_fact mS_X4_fact mN_X4 mC_X4_fact) (by decide +kernel) rfl rfl ⟨Nat.le_of_ble_eq_true rfl, Nat.le_of_ble_eq_true rfl⟩ hG hP9 rfl hl.1 rfl (Nat.le_of_ble_eq_true rfl) dX0_mixedInto_76 ⟨Nat.le_of_ble_eq_true rfl, Nat.le_of_ble_eq_true rfl⟩) (fun r76 h76 => ?_)
                    obtain rfl : r76 = (if 0 = 0 then (f 6) k else if 0 = 1 then (f 7) k else (f 8) k) := h76
                    refine tpi (y := f 6 k) (if_pos rfl) ?_
                    have hP9 : va_P D cls [] s.heap := fun k q h => by simp at h
                    refine vp_callSl (pSN (rest := []) [.long (dgT (f 6) (f 7) (f 8) (mix (dgT (f 3) (f 4) (f 5) (mix (dgT (f 0) (f 1) (f 2) (mix (mix d len) (nI (sz 0))) (sz 0)) (nI (sz 1))) (sz 1)) (nI (sz 2))) k), .int (f 6 k)] 2 hC (c_mixed l D (d := dgT (f 6) (f 7) (f 8) (mix (dgT (f 3) (f 4) (f 5) (mix (dgT (f 0) (f 1) (f 2) (mix (mix d len) (nI (sz 0))) (sz 0)) (nI (sz 1))) (sz 1)) (nI (sz 2))) k) (x := f 6 k) ) (nM_KeyStage_Clip_79 hG) mT_X5_mixed mN_X5 mC_X5_mixed (by decide +kernel) rfl rfl ⟨Nat.le_of_ble_eq_true rfl, Nat.le_of_ble_eq_true rfl⟩ hG hP9 rfl hl.1 rfl (Nat.le_of_ble_eq_true rfl) dX0_mixedInto_79 ⟨Nat.le_of_ble_eq_true rfl, Nat.le_of_ble_eq_true rfl⟩) (fun r79 h79 => ?_)
                    obtain rfl : r79 = (mix (dgT (f 6) (f 7) (f 8) (mix (dgT (f 3) (f 4) (f 5) (mix (dgT (f 0) (f 1) (f 2) (mix (mix d len) (nI (sz 0))) (sz 0)) (nI (sz 1))) (sz 1)) (nI (sz 2))) k) (f 6 k)) := h79
                    refine lv_lstore_n (lv' := [(3, .long (mix (dgT (f 6) (f 7) (f 8) (mix (dgT (f 3) (f 4) (f 5) (mix (dgT (f 0) (f 1) (f 2) (mix (mix d len) (nI (sz 0))) (sz 0)) (nI (sz 1))) (sz 1)) (nI (sz 2))) k) (f 6 k))), (10, .int 0), (0, .ref co), (5, .ref ta), (6, .int (nI 4)), (7, .int 2), (8, .ref (t 2)), (9, .int (nI k))]) hx hb dX0_mixedInto_82 rfl hl (by decide) rfl (fun ls hl => ?_)
                    refine lv_iinc (v := 1) (lv' := [(10, .int 1), (3, .long (mix (dgT (f 6) (f 7) (f 8) (mix (dgT (f 3) (f 4) (f 5) (mix (dgT (f 0) (f 1) (f 2) (mix (mix d len) (nI (sz 0))) (sz 0)) (nI (sz 1))) (sz 1)) (nI (sz 2))) k) (f 6 k))), (0, .ref co), (5, .ref ta), (6, .int (nI 4)), (7, .int 2), (8, .ref (t 2)), (9, .int (nI k))]) hx hb dX0_mixedInto_83 hl (k := 1) rfl (by decide) (by decide) rfl (fun ls hl => ?_)
                    refine lv_goto (tgt := 63) hx hb dX0_mixedInto_86 (by decide) ?_
                    refine lv_iload hx hb dX0_mixedInto_63 (lv_at hl 0 rfl) ?_
                    refine lv_iconst (v := 3) hx hb dX0_mixedInto_65 (by decide) ?_
                    refine lv_icmp_ge (tgt := 89) hx hb dX0_mixedInto_66 (by decide) (fun h9 => absurd h9 (by decide)) (fun _ => ?_)
                    refine lv_lload_n hx hb dX0_mixedInto_69 rfl (lv_at hl 1 rfl) ?_
                    refine lv_aload hx hb dX0_mixedInto_70 (lv_at hl 6 rfl) ?_
                    refine lv_iload hx hb dX0_mixedInto_72 (lv_at hl 7 rfl) ?_
                    refine lv_iload hx hb dX0_mixedInto_74 (lv_at hl 0 rfl) ?_
                    have hP9 := hP.sub (ws' := [oO (t 2) 4 [.ref (r 6), .ref (r 7), .ref (r 8)], oO (r 6) 2 [.ref (a 6), .int (nI (sz 2))], oO (r 7) 2 [.ref (a 7), .int (nI (sz 2))], oO (r 8) 2 [.ref (a 8), .int (nI (sz 2))], aI D (a 6) 16 (f 6), aI D (a 7) 16 (f 7), aI D (a 8) 16 (f 8)]) [20, 21, 22, 23, 24, 25, 26] rfl
                    refine vp_callSi (pV (rest := [.long (mix (dgT (f 6) (f 7) (f 8) (mix (dgT (f 3) (f 4) (f 5) (mix (dgT (f 0) (f 1) (f 2) (mix (mix d len) (nI (sz 0))) (sz 0)) (nI (sz 1))) (sz 1)) (nI (sz 2))) k) (f 6 k))]) (qc := (RX4, TX4, 3)) [.int (nI k), .int 1] 2 hC (c_fact l D (t := t 2) (j := k) (w := 1) (r1 := r 6) (r2 := r 7) (r3 := r 8) (a1 := a 6) (sz := sz 2) (a2 := a 7) (a3 := a 8) (ft := f 6) (fv := f 7) (fe := f 8) (by omega) (by omega)) rfl (hP 20 _ rfl) (gV mM_X0_83 mI_X4_fact mS_X4_fact mN_X4 mC_X4_fact) (by decide +kernel) rfl rfl ⟨Nat.le_of_ble_eq_true rfl, Nat.le_of_ble_eq_true rfl⟩ hG hP9 rfl hl.1 rfl (Nat.le_of_ble_eq_true rfl) dX0_mixedInto_76 ⟨Nat.le_of_ble_eq_true rfl, Nat.le_of_ble_eq_true rfl⟩) (fun r76 h76 => ?_)
                    obtain rfl : r76 = (if 1 = 0 then (f 6) k else if 1 = 1 then (f 7) k else (f 8) k) := h76
                    refine tpi (y := f 7 k) ((if_neg (by decide)).trans (if_pos rfl)) ?_
                    have hP9 : va_P D cls [] s.heap := fun k q h => by simp at h
                    refine vp_callSl (pSN (rest := []) [.long (mix (dgT (f 6) (f 7) (f 8) (mix (dgT (f 3) (f 4) (f 5) (mix (dgT (f 0) (f 1) (f 2) (mix (mix d len) (nI (sz 0))) (sz 0)) (nI (sz 1))) (sz 1)) (nI (sz 2))) k) (f 6 k)), .int (f 7 k)] 2 hC (c_mixed l D (d := mix (dgT (f 6) (f 7) (f 8) (mix (dgT (f 3) (f 4) (f 5) (mix (dgT (f 0) (f 1) (f 2) (mix (mix d len) (nI (sz 0))) (sz 0)) (nI (sz 1))) (sz 1)) (nI (sz 2))) k) (f 6 k)) (x := f 7 k) ) (nM_KeyStage_Clip_79 hG) mT_X5_mixed mN_X5 mC_X5_mixed (by decide +kernel) rfl rfl ⟨Nat.le_of_ble_eq_true rfl, Nat.le_of_ble_eq_true rfl⟩ hG hP9 rfl hl.1 rfl (Nat.le_of_ble_eq_true rfl) dX0_mixedInto_79 ⟨Nat.le_of_ble_eq_true rfl, Nat.le_of_ble_eq_true rfl⟩) (fun r79 h79 => ?_)
                    obtain rfl : r79 = (mix (mix (dgT (f 6) (f 7) (f 8) (mix (dgT (f 3) (f 4) (f 5) (mix (dgT (f 0) (f 1) (f 2) (mix (mix d len) (nI (sz 0))) (sz 0)) (nI (sz 1))) (sz 1)) (nI (sz 2))) k) (f 6 k)) (f 7 k)) := h79
                    refine lv_lstore_n (lv' := [(3, .long (mix (mix (dgT (f 6) (f 7) (f 8) (mix (dgT (f 3) (f 4) (f 5) (mix (dgT (f 0) (f 1) (f 2) (mix (mix d len) (nI (sz 0))) (sz 0)) (nI (sz 1))) (sz 1)) (nI (sz 2))) k) (f 6 k)) (f 7 k))), (10, .int 1), (0, .ref co), (5, .ref ta), (6, .int (nI 4)), (7, .int 2), (8, .ref (t 2)), (9, .int (nI k))]) hx hb dX0_mixedInto_82 rfl hl (by decide) rfl (fun ls hl => ?_)
                    refine lv_iinc (v := 2) (lv' := [(10, .int 2), (3, .long (mix (mix (dgT (f 6) (f 7) (f 8) (mix (dgT (f 3) (f 4) (f 5) (mix (dgT (f 0) (f 1) (f 2) (mix (mix d len) (nI (sz 0))) (sz 0)) (nI (sz 1))) (sz 1)) (nI (sz 2))) k) (f 6 k)) (f 7 k))), (0, .ref co), (5, .ref ta), (6, .int (nI 4)), (7, .int 2), (8, .ref (t 2)), (9, .int (nI k))]) hx hb dX0_mixedInto_83 hl (k := 1) rfl (by decide) (by decide) rfl (fun ls hl => ?_)
                    refine lv_goto (tgt := 63) hx hb dX0_mixedInto_86 (by decide) ?_
                    refine lv_iload hx hb dX0_mixedInto_63 (lv_at hl 0 rfl) ?_
                    refine lv_iconst (v := 3) hx hb dX0_mixedInto_65 (by decide) ?_
                    refine lv_icmp_ge (tgt := 89) hx hb dX0_mixedInto_66 (by decide) (fun h9 => absurd h9 (by decide)) (fun _ => ?_)
                    refine lv_lload_n hx hb dX0_mixedInto_69 rfl (lv_at hl 1 rfl) ?_
                    refine lv_aload hx hb dX0_mixedInto_70 (lv_at hl 6 rfl) ?_
                    refine lv_iload hx hb dX0_mixedInto_72 (lv_at hl 7 rfl) ?_
                    refine lv_iload hx hb dX0_mixedInto_74 (lv_at hl 0 rfl) ?_
                    have hP9 := hP.sub (ws' := [oO (t 2) 4 [.ref (r 6), .ref (r 7), .ref (r 8)], oO (r 6) 2 [.ref (a 6), .int (nI (sz 2))], oO (r 7) 2 [.ref (a 7), .int (nI (sz 2))], oO (r 8) 2 [.ref (a 8), .int (nI (sz 2))], aI D (a 6) 16 (f 6), aI D (a 7) 16 (f 7), aI D (a 8) 16 (f 8)]) [20, 21, 22, 23, 24, 25, 26] rfl
                    refine vp_callSi (pV (rest := [.long (mix (mix (dgT (f 6) (f 7) (f 8) (mix (dgT (f 3) (f 4) (f 5) (mix (dgT (f 0) (f 1) (f 2) (mix (mix d len) (nI (sz 0))) (sz 0)) (nI (sz 1))) (sz 1)) (nI (sz 2))) k) (f 6 k)) (f 7 k))]) (qc := (RX4, TX4, 3)) [.int (nI k), .int 2] 2 hC (c_fact l D (t := t 2) (j := k) (w := 2) (r1 := r 6) (r2 := r 7) (r3 := r 8) (a1 := a 6) (sz := sz 2) (a2 := a 7) (a3 := a 8) (ft := f 6) (fv := f 7) (fe := f 8) (by omega) (by omega)) rfl (hP 20 _ rfl) (gV mM_X0_83 mI_X4_fact mS_X4_fact mN_X4 mC_X4_fact) (by decide +kernel) rfl rfl ⟨Nat.le_of_ble_eq_true rfl, Nat.le_of_ble_eq_true rfl⟩ hG hP9 rfl hl.1 rfl (Nat.le_of_ble_eq_true rfl) dX0_mixedInto_76 ⟨Nat.le_of_ble_eq_true rfl, Nat.le_of_ble_eq_true rfl⟩) (fun r76 h76 => ?_)
                    obtain rfl : r76 = (if 2 = 0 then (f 6) k else if 2 = 1 then (f 7) k else (f 8) k) := h76
                    refine tpi (y := f 8 k) ((if_neg (by decide)).trans (if_neg (by decide))) ?_
                    have hP9 : va_P D cls [] s.heap := fun k q h => by simp at h
                    refine vp_callSl (pSN (rest := []) [.long (mix (mix (dgT (f 6) (f 7) (f 8) (mix (dgT (f 3) (f 4) (f 5) (mix (dgT (f 0) (f 1) (f 2) (mix (mix d len) (nI (sz 0))) (sz 0)) (nI (sz 1))) (sz 1)) (nI (sz 2))) k) (f 6 k)) (f 7 k)), .int (f 8 k)] 2 hC (c_mixed l D (d := mix (mix (dgT (f 6) (f 7) (f 8) (mix (dgT (f 3) (f 4) (f 5) (mix (dgT (f 0) (f 1) (f 2) (mix (mix d len) (nI (sz 0))) (sz 0)) (nI (sz 1))) (sz 1)) (nI (sz 2))) k) (f 6 k)) (f 7 k)) (x := f 8 k) ) (nM_KeyStage_Clip_79 hG) mT_X5_mixed mN_X5 mC_X5_mixed (by decide +kernel) rfl rfl ⟨Nat.le_of_ble_eq_true rfl, Nat.le_of_ble_eq_true rfl⟩ hG hP9 rfl hl.1 rfl (Nat.le_of_ble_eq_true rfl) dX0_mixedInto_79 ⟨Nat.le_of_ble_eq_true rfl, Nat.le_of_ble_eq_true rfl⟩) (fun r79 h79 => ?_)
                    obtain rfl : r79 = (mix (mix (mix (dgT (f 6) (f 7) (f 8) (mix (dgT (f 3) (f 4) (f 5) (mix (dgT (f 0) (f 1) (f 2) (mix (mix d len) (nI (sz 0))) (sz 0)) (nI (sz 1))) (sz 1)) (nI (sz 2))) k) (f 6 k)) (f 7 k)) (f 8 k)) := h79
                    refine lv_lstore_n (lv' := [(3, .long (mix (mix (mix (dgT (f 6) (f 7) (f 8) (mix (dgT (f 3) (f 4) (f 5) (mix (dgT (f 0) (f 1) (f 2) (mix (mix d len) (nI (sz 0))) (sz 0)) (nI (sz 1))) (sz 1)) (nI (sz 2))) k) (f 6 k)) (f 7 k)) (f 8 k))), (10, .int 2), (0, .ref co), (5, .ref ta), (6, .int (nI 4)), (7, .int 2), (8, .ref (t 2)), (9, .int (nI k))]) hx hb dX0_mixedInto_82 rfl hl (by decide) rfl (fun ls hl => ?_)
                    refine lv_iinc (v := 3) (lv' := [(10, .int 3), (3, .long (mix (mix (mix (dgT (f 6) (f 7) (f 8) (mix (dgT (f 3) (f 4) (f 5) (mix (dgT (f 0) (f 1) (f 2) (mix (mix d len) (nI (sz 0))) (sz 0)) (nI (sz 1))) (sz 1)) (nI (sz 2))) k) (f 6 k)) (f 7 k)) (f 8 k))), (0, .ref co), (5, .ref ta), (6, .int (nI 4)), (7, .int 2), (8, .ref (t 2)), (9, .int (nI k))]) hx hb dX0_mixedInto_83 hl (k := 1) rfl (by decide) (by decide) rfl (fun ls hl => ?_)
                    refine lv_goto (tgt := 63) hx hb dX0_mixedInto_86 (by decide) ?_
                    refine lv_iload hx hb dX0_mixedInto_63 (lv_at hl 0 rfl) ?_
                    refine lv_iconst (v := 3) hx hb dX0_mixedInto_65 (by decide) ?_
                    refine lv_icmp_ge (tgt := 89) hx hb dX0_mixedInto_66 (by decide) (fun _ => ?_) (fun h9 => (h9 (by decide)).elim)
                    refine lv_iinc (v := nI (k + 1)) (lv' := [(9, .int (nI (k + 1))), (10, .int 3), (3, .long (mix (mix (mix (dgT (f 6) (f 7) (f 8) (mix (dgT (f 3) (f 4) (f 5) (mix (dgT (f 0) (f 1) (f 2) (mix (mix d len) (nI (sz 0))) (sz 0)) (nI (sz 1))) (sz 1)) (nI (sz 2))) k) (f 6 k)) (f 7 k)) (f 8 k))), (0, .ref co), (5, .ref ta), (6, .int (nI 4)), (7, .int 2), (8, .ref (t 2))]) hx hb dX0_mixedInto_89 hl (k := 7) rfl (nI_1 _) (by decide) rfl (fun ls hl => ?_)
                    refine lv_goto (tgt := 50) hx hb dX0_mixedInto_92 (by decide) ?_
                    exact ih50 (k + 1) (by omega) (by omega) _ (lv_sub hl [3, 4, 5, 6, 7, 2, 0] rfl)
              exact loop50 _ 0 (Nat.lt_succ_self _) (by omega) _ (lv_sub hl [4, 5, 6, 3, 2, 1, 0] rfl)
            · skip
              have n57 := mt (nI_leI (a := sz 1) (b := k) (by omega) (by omega)).mpr c57
              refine lv_iconst (v := 0) hx hb dX0_mixedInto_60 (by decide) ?_
              refine lv_istore (lv' := [(10, .int 0), (0, .ref co), (5, .ref ta), (6, .int (nI 4)), (7, .int 1), (8, .ref (t 1)), (3, .long (dgT (f 3) (f 4) (f 5) (mix (dgT (f 0) (f 1) (f 2) (mix (mix d len) (nI (sz 0))) (sz 0)) (nI (sz 1))) k)), (9, .int (nI k))]) hx hb dX0_mixedInto_61 hl (by decide) rfl (fun ls hl => ?_)
              refine lv_iload hx hb dX0_mixedInto_63 (lv_at hl 0 rfl) ?_
              refine lv_iconst (v := 3) hx hb dX0_mixedInto_65 (by decide) ?_
              refine lv_icmp_ge (tgt := 89) hx hb dX0_mixedInto_66 (by decide) (fun h9 => absurd h9 (by decide)) (fun _ => ?_)
              refine lv_lload_n hx hb dX0_mixedInto_69 rfl (lv_at hl 6 rfl) ?_
              refine lv_aload hx hb dX0_mixedInto_70 (lv_at hl 5 rfl) ?_
              refine lv_iload hx hb dX0_mixedInto_72 (lv_at hl 7 rfl) ?_
              refine lv_iload hx hb dX0_mixedInto_74 (lv_at hl 0 rfl) ?_
              have hP9 := hP.sub (ws' := [oO (t 1) 4 [.ref (r 3), .ref (r 4), .ref (r 5)], oO (r 3) 2 [.ref (a 3), .int (nI (sz 1))], oO (r 4) 2 [.ref (a 4), .int (nI (sz 1))], oO (r 5) 2 [.ref (a 5), .int (nI (sz 1))], aI D (a 3) 16 (f 3), aI D (a 4) 16 (f 4), aI D (a 5) 16 (f 5)]) [13, 14, 15, 16, 17, 18, 19] rfl
              refine vp_callSi (pV (rest := [.long (dgT (f 3) (f 4) (f 5) (mix (dgT (f 0) (f 1) (f 2) (mix (mix d len) (nI (sz 0))) (sz 0)) (nI (sz 1))) k)]) (qc := (RX4, TX4, 3)) [.int (nI k), .int 0] 2 hC (c_fact l D (t := t 1) (j := k) (w := 0) (r1 := r 3) (r2 := r 4) (r3 := r 5) (a1 := a 3) (sz := sz 1) (a2 := a 4) (a3 := a 5) (ft := f 3) (fv := f 4) (fe := f 5) (by omega) (by omega)) rfl (hP 13 _ rfl) (gV mM_X0_83 mI_X4_fact mS_X4_fact mN_X4 mC_X4_fact) (by decide +kernel) rfl rfl ⟨Nat.le_of_ble_eq_true rfl, Nat.le_of_ble_eq_true rfl⟩ hG hP9 rfl hl.1 rfl (Nat.le_of_ble_eq_true rfl) dX0_mixedInto_76 ⟨Nat.le_of_ble_eq_true rfl, Nat.le_of_ble_eq_true rfl⟩) (fun r76 h76 => ?_)
              obtain rfl : r76 = (if 0 = 0 then (f 3) k else if 0 = 1 then (f 4) k else (f 5) k) := h76
              refine tpi (y := f 3 k) (if_pos rfl) ?_
              have hP9 : va_P D cls [] s.heap := fun k q h => by simp at h
              refine vp_callSl (pSN (rest := []) [.long (dgT (f 3) (f 4) (f 5) (mix (dgT (f 0) (f 1) (f 2) (mix (mix d len) (nI (sz 0))) (sz 0)) (nI (sz 1))) k), .int (f 3 k)] 2 hC (c_mixed l D (d := dgT (f 3) (f 4) (f 5) (mix (dgT (f 0) (f 1) (f 2) (mix (mix d len) (nI (sz 0))) (sz 0)) (nI (sz 1))) k) (x := f 3 k) ) (nM_KeyStage_Clip_79 hG) mT_X5_mixed mN_X5 mC_X5_mixed (by decide +kernel) rfl rfl ⟨Nat.le_of_ble_eq_true rfl, Nat.le_of_ble_eq_true rfl⟩ hG hP9 rfl hl.1 rfl (Nat.le_of_ble_eq_true rfl) dX0_mixedInto_79 ⟨Nat.le_of_ble_eq_true rfl, Nat.le_of_ble_eq_true rfl⟩) (fun r79 h79 => ?_)
              obtain rfl : r79 = (mix (dgT (f 3) (f 4) (f 5) (mix (dgT (f 0) (f 1) (f 2) (mix (mix d len) (nI (sz 0))) (sz 0)) (nI (sz 1))) k) (f 3 k)) := h79
              refine lv_lstore_n (lv' := [(3, .long (mix (dgT (f 3) (f 4) (f 5) (mix (dgT (f 0) (f 1) (f 2) (mix (mix d len) (nI (sz 0))) (sz 0)) (nI (sz 1))) k) (f 3 k))), (10, .int 0), (0, .ref co), (5, .ref ta), (6, .int (nI 4)), (7, .int 1), (8, .ref (t 1)), (9, .int (nI k))]) hx hb dX0_mixedInto_82 rfl hl (by decide) rfl (fun ls hl => ?_)
              refine lv_iinc (v := 1) (lv' := [(10, .int 1), (3, .long (mix (dgT (f 3) (f 4) (f 5) (mix (dgT (f 0) (f 1) (f 2) (mix (mix d len) (nI (sz 0))) (sz 0)) (nI (sz 1))) k) (f 3 k))), (0, .ref co), (5, .ref ta), (6, .int (nI 4)), (7, .int 1), (8, .ref (t 1)), (9, .int (nI k))]) hx hb dX0_mixedInto_83 hl (k := 1) rfl (by decide) (by decide) rfl (fun ls hl => ?_)
              refine lv_goto (tgt := 63) hx hb dX0_mixedInto_86 (by decide) ?_
              refine lv_iload hx hb dX0_mixedInto_63 (lv_at hl 0 rfl) ?_
              refine lv_iconst (v := 3) hx hb dX0_mixedInto_65 (by decide) ?_
              refine lv_icmp_ge (tgt := 89) hx hb dX0_mixedInto_66 (by decide) (fun h9 => absurd h9 (by decide)) (fun _ => ?_)
              refine lv_lload_n hx hb dX0_mixedInto_69 rfl (lv_at hl 1 rfl) ?_
              refine lv_aload hx hb dX0_mixedInto_70 (lv_at hl 6 rfl) ?_
              refine lv_iload hx hb dX0_mixedInto_72 (lv_at hl 7 rfl) ?_
              refine lv_iload hx hb dX0_mixedInto_74 (lv_at hl 0 rfl) ?_
              have hP9 := hP.sub (ws' := [oO (t 1) 4 [.ref (r 3), .ref (r 4), .ref (r 5)], oO (r 3) 2 [.ref (a 3), .int (nI (sz 1))], oO (r 4) 2 [.ref (a 4), .int (nI (sz 1))], oO (r 5) 2 [.ref (a 5), .int (nI (sz 1))], aI D (a 3) 16 (f 3), aI D (a 4) 16 (f 4), aI D (a 5) 16 (f 5)]) [13, 14, 15, 16, 17, 18, 19] rfl
              refine vp_callSi (pV (rest := [.long (mix (dgT (f 3) (f 4) (f 5) (mix (dgT (f 0) (f 1) (f 2) (mix (mix d len) (nI (sz 0))) (sz 0)) (nI (sz 1))) k) (f 3 k))]) (qc := (RX4, TX4, 3)) [.int (nI k), .int 1] 2 hC (c_fact l D (t := t 1) (j := k) (w := 1) (r1 := r 3) (r2 := r 4) (r3 := r 5) (a1 := a 3) (sz := sz 1) (a2 := a 4) (a3 := a 5) (ft := f 3) (fv := f 4) (fe := f 5) (by omega) (by omega)) rfl (hP 13 _ rfl) (gV mM_X0_83 mI_X4_fact mS_X4_fact mN_X4 mC_X4_fact) (by decide +kernel) rfl rfl ⟨Nat.le_of_ble_eq_true rfl, Nat.le_of_ble_eq_true rfl⟩ hG hP9 rfl hl.1 rfl (Nat.le_of_ble_eq_true rfl) dX0_mixedInto_76 ⟨Nat.le_of_ble_eq_true rfl, Nat.le_of_ble_eq_true rfl⟩) (fun r76 h76 => ?_)
              obtain rfl : r76 = (if 1 = 0 then (f 3) k else if 1 = 1 then (f 4) k else (f 5) k) := h76
              refine tpi (y := f 4 k) ((if_neg (by decide)).trans (if_pos rfl)) ?_
              have hP9 : va_P D cls [] s.heap := fun k q h => by simp at h
              refine vp_callSl (pSN (rest := []) [.long (mix (dgT (f 3) (f 4) (f 5) (mix (dgT (f 0) (f 1) (f 2) (mix (mix d len) (nI (sz 0))) (sz 0)) (nI (sz 1))) k) (f 3 k)), .int (f 4 k)] 2 hC (c_mixed l D (d := mix (dgT (f 3) (f 4) (f 5) (mix (dgT (f 0) (f 1) (f 2) (mix (mix d len) (nI (sz 0))) (sz 0)) (nI (sz 1))) k) (f 3 k)) (x := f 4 k) ) (nM_KeyStage_Clip_79 hG) mT_X5_mixed mN_X5 mC_X5_mixed (by decide +kernel) rfl rfl ⟨Nat.le_of_ble_eq_true rfl, Nat.le_of_ble_eq_true rfl⟩ hG hP9 rfl hl.1 rfl (Nat.le_of_ble_eq_true rfl) dX0_mixedInto_79 ⟨Nat.le_of_ble_eq_true rfl, Nat.le_of_ble_eq_true rfl⟩) (fun r79 h79 => ?_)
              obtain rfl : r79 = (mix (mix (dgT (f 3) (f 4) (f 5) (mix (dgT (f 0) (f 1) (f 2) (mix (mix d len) (nI (sz 0))) (sz 0)) (nI (sz 1))) k) (f 3 k)) (f 4 k)) := h79
              refine lv_lstore_n (lv' := [(3, .long (mix (mix (dgT (f 3) (f 4) (f 5) (mix (dgT (f 0) (f 1) (f 2) (mix (mix d len) (nI (sz 0))) (sz 0)) (nI (sz 1))) k) (f 3 k)) (f 4 k))), (10, .int 1), (0, .ref co), (5, .ref ta), (6, .int (nI 4)), (7, .int 1), (8, .ref (t 1)), (9, .int (nI k))]) hx hb dX0_mixedInto_82 rfl hl (by decide) rfl (fun ls hl => ?_)
              refine lv_iinc (v := 2) (lv' := [(10, .int 2), (3, .long (mix (mix (dgT (f 3) (f 4) (f 5) (mix (dgT (f 0) (f 1) (f 2) (mix (mix d len) (nI (sz 0))) (sz 0)) (nI (sz 1))) k) (f 3 k)) (f 4 k))), (0, .ref co), (5, .ref ta), (6, .int (nI 4)), (7, .int 1), (8, .ref (t 1)), (9, .int (nI k))]) hx hb dX0_mixedInto_83 hl (k := 1) rfl (by decide) (by decide) rfl (fun ls hl => ?_)
              refine lv_goto (tgt := 63) hx hb dX0_mixedInto_86 (by decide) ?_
              refine lv_iload hx hb dX0_mixedInto_63 (lv_at hl 0 rfl) ?_
              refine lv_iconst (v := 3) hx hb dX0_mixedInto_65 (by decide) ?_
              refine lv_icmp_ge (tgt := 89) hx hb dX0_mixedInto_66 (by decide) (fun h9 => absurd h9 (by decide)) (fun _ => ?_)
              refine lv_lload_n hx hb dX0_mixedInto_69 rfl (lv_at hl 1 rfl) ?_
              refine lv_aload hx hb dX0_mixedInto_70 (lv_at hl 6 rfl) ?_
              refine lv_iload hx hb dX0_mixedInto_72 (lv_at hl 7 rfl) ?_
              refine lv_iload hx hb dX0_mixedInto_74 (lv_at hl 0 rfl) ?_
              have hP9 := hP.sub (ws' := [oO (t 1) 4 [.ref (r 3), .ref (r 4), .ref (r 5)], oO (r 3) 2 [.ref (a 3), .int (nI (sz 1))], oO (r 4) 2 [.ref (a 4), .int (nI (sz 1))], oO (r 5) 2 [.ref (a 5), .int (nI (sz 1))], aI D (a 3) 16 (f 3), aI D (a 4) 16 (f 4), aI D (a 5) 16 (f 5)]) [13, 14, 15, 16, 17, 18, 19] rfl
              refine vp_callSi (pV (rest := [.long (mix (mix (dgT (f 3) (f 4) (f 5) (mix (dgT (f 0) (f 1) (f 2) (mix (mix d len) (nI (sz 0))) (sz 0)) (nI (sz 1))) k) (f 3 k)) (f 4 k))]) (qc := (RX4, TX4, 3)) [.int (nI k), .int 2] 2 hC (c_fact l D (t := t 1) (j := k) (w := 2) (r1 := r 3) (r2 := r 4) (r3 := r 5) (a1 := a 3) (sz := sz 1) (a2 := a 4) (a3 := a 5) (ft := f 3) (fv := f 4) (fe := f 5) (by omega) (by omega)) rfl (hP 13 _ rfl) (gV mM_X0_83 mI_X4_fact mS_X4_fact mN_X4 mC_X4_fact) (by decide +kernel) rfl rfl ⟨Nat.le_of_ble_eq_true rfl, Nat.le_of_ble_eq_true rfl⟩ hG hP9 rfl hl.1 rfl (Nat.le_of_ble_eq_true rfl) dX0_mixedInto_76 ⟨Nat.le_of_ble_eq_true rfl, Nat.le_of_ble_eq_true rfl⟩) (fun r76 h76 => ?_)
              obtain rfl : r76 = (if 2 = 0 then (f 3) k else if 2 = 1 then (f 4) k else (f 5) k) := h76
              refine tpi (y := f 5 k) ((if_neg (by decide)).trans (if_neg (by decide))) ?_
              have hP9 : va_P D cls [] s.heap := fun k q h => by simp at h
              refine vp_callSl (pSN (rest := []) [.long (mix (mix (dgT (f 3) (f 4) (f 5) (mix (dgT (f 0) (f 1) (f 2) (mix (mix d len) (nI (sz 0))) (sz 0)) (nI (sz 1))) k) (f 3 k)) (f 4 k)), .int (f 5 k)] 2 hC (c_mixed l D (d := mix (mix (dgT (f 3) (f 4) (f 5) (mix (dgT (f 0) (f 1) (f 2) (mix (mix d len) (nI (sz 0))) (sz 0)) (nI (sz 1))) k) (f 3 k)) (f 4 k)) (x := f 5 k) ) (nM_KeyStage_Clip_79 hG) mT_X5_mixed mN_X5 mC_X5_mixed (by decide +kernel) rfl rfl ⟨Nat.le_of_ble_eq_true rfl, Nat.le_of_ble_eq_true rfl⟩ hG hP9 rfl hl.1 rfl (Nat.le_of_ble_eq_true rfl) dX0_mixedInto_79 ⟨Nat.le_of_ble_eq_true rfl, Nat.le_of_ble_eq_true rfl⟩) (fun r79 h79 => ?_)
              obtain rfl : r79 = (mix (mix (mix (dgT (f 3) (f 4) (f 5) (mix (dgT (f 0) (f 1) (f 2) (mix (mix d len) (nI (sz 0))) (sz 0)) (nI (sz 1))) k) (f 3 k)) (f 4 k)) (f 5 k)) := h79
              refine lv_lstore_n (lv' := [(3, .long (mix (mix (mix (dgT (f 3) (f 4) (f 5) (mix (dgT (f 0) (f 1) (f 2) (mix (mix d len) (nI (sz 0))) (sz 0)) (nI (sz 1))) k) (f 3 k)) (f 4 k)) (f 5 k))), (10, .int 2), (0, .ref co), (5, .ref ta), (6, .int (nI 4)), (7, .int 1), (8, .ref (t 1)), (9, .int (nI k))]) hx hb dX0_mixedInto_82 rfl hl (by decide) rfl (fun ls hl => ?_)
              refine lv_iinc (v := 3) (lv' := [(10, .int 3), (3, .long (mix (mix (mix (dgT (f 3) (f 4) (f 5) (mix (dgT (f 0) (f 1) (f 2) (mix (mix d len) (nI (sz 0))) (sz 0)) (nI (sz 1))) k) (f 3 k)) (f 4 k)) (f 5 k))), (0, .ref co), (5, .ref ta), (6, .int (nI 4)), (7, .int 1), (8, .ref (t 1)), (9, .int (nI k))]) hx hb dX0_mixedInto_83 hl (k := 1) rfl (by decide) (by decide) rfl (fun ls hl => ?_)
              refine lv_goto (tgt := 63) hx hb dX0_mixedInto_86 (by decide) ?_
              refine lv_iload hx hb dX0_mixedInto_63 (lv_at hl 0 rfl) ?_
              refine lv_iconst (v := 3) hx hb dX0_mixedInto_65 (by decide) ?_
              refine lv_icmp_ge (tgt := 89) hx hb dX0_mixedInto_66 (by decide) (fun _ => ?_) (fun h9 => (h9 (by decide)).elim)
              refine lv_iinc (v := nI (k + 1)) (lv' := [(9, .int (nI (k + 1))), (10, .int 3), (3, .long (mix (mix (mix (dgT (f 3) (f 4) (f 5) (mix (dgT (f 0) (f 1) (f 2) (mix (mix d len) (nI (sz 0))) (sz 0)) (nI (sz 1))) k) (f 3 k)) (f 4 k)) (f 5 k))), (0, .ref co), (5, .ref ta), (6, .int (nI 4)), (7, .int 1), (8, .ref (t 1))]) hx hb dX0_mixedInto_89 hl (k := 7) rfl (nI_1 _) (by decide) rfl (fun ls hl => ?_)
              refine lv_goto (tgt := 50) hx hb dX0_mixedInto_92 (by decide) ?_
              exact ih50 (k + 1) (by omega) (by omega) _ (lv_sub hl [3, 4, 5, 6, 7, 2, 0] rfl)
        exact loop50 _ 0 (Nat.lt_succ_self _) (by omega) _ (lv_sub hl [4, 5, 6, 3, 2, 1, 0] rfl)
      · skip
        have n57 := mt (nI_leI (a := sz 0) (b := k) (by omega) (by omega)).mpr c57
        refine lv_iconst (v := 0) hx hb dX0_mixedInto_60 (by decide) ?_
        refine lv_istore (lv' := [(10, .int 0), (0, .ref co), (5, .ref ta), (6, .int (nI 4)), (7, .int 0), (8, .ref (t 0)), (3, .long (dgT (f 0) (f 1) (f 2) (mix (mix d len) (nI (sz 0))) k)), (9, .int (nI k))]) hx hb dX0_mixedInto_61 hl (by decide) rfl (fun ls hl => ?_)
        refine lv_iload hx hb dX0_mixedInto_63 (lv_at hl 0 rfl) ?_
        refine lv_iconst (v := 3) hx hb dX0_mixedInto_65 (by decide) ?_
        refine lv_icmp_ge (tgt := 89) hx hb dX0_mixedInto_66 (by decide) (fun h9 => absurd h9 (by decide)) (fun _ => ?_)
        refine lv_lload_n hx hb dX0_mixedInto_69 rfl (lv_at hl 6 rfl) ?_
        refine lv_aload hx hb dX0_mixedInto_70 (lv_at hl 5 rfl) ?_
        refine lv_iload hx hb dX0_mixedInto_72 (lv_at hl 7 rfl) ?_
        refine lv_iload hx hb dX0_mixedInto_74 (lv_at hl 0 rfl) ?_
        have hP9 := hP.sub (ws' := [oO (t 0) 4 [.ref (r 0), .ref (r 1), .ref (r 2)], oO (r 0) 2 [.ref (a 0), .int (nI (sz 0))], oO (r 1) 2 [.ref (a 1), .int (nI (sz 0))], oO (r 2) 2 [.ref (a 2), .int (nI (sz 0))], aI D (a 0) 16 (f 0), aI D (a 1) 16 (f 1), aI D (a 2) 16 (f 2)]) [6, 7, 8, 9, 10, 11, 12] rfl
        refine vp_callSi (pV (rest := [.long (dgT (f 0) (f 1) (f 2) (mix (mix d len) (nI (sz 0))) k)]) (qc := (RX4, TX4, 3)) [.int (nI k), .int 0] 2 hC (c_fact l D (t := t 0) (j := k) (w := 0) (r1 := r 0) (r2 := r 1) (r3 := r 2) (a1 := a 0) (sz := sz 0) (a2 := a 1) (a3 := a 2) (ft := f 0) (fv := f 1) (fe := f 2) (by omega) (by omega)) rfl (hP 6 _ rfl) (gV mM_X0_83 mI_X4_fact mS_X4_fact mN_X4 mC_X4_fact) (by decide +kernel) rfl rfl ⟨Nat.le_of_ble_eq_true rfl, Nat.le_of_ble_eq_true rfl⟩ hG hP9 rfl hl.1 rfl (Nat.le_of_ble_eq_true rfl) dX0_mixedInto_76 ⟨Nat.le_of_ble_eq_true rfl, Nat.le_of_ble_eq_true rfl⟩) (fun r76 h76 => ?_)
        obtain rfl : r76 = (if 0 = 0 then (f 0) k else if 0 = 1 then (f 1) k else (f 2) k) := h76
        refine tpi (y := f 0 k) (if_pos rfl) ?_
        have hP9 : va_P D cls [] s.heap := fun k q h => by simp at h
        refine vp_callSl (pSN (rest := []) [.long (dgT (f 0) (f 1) (f 2) (mix (mix d len) (nI (sz 0))) k), .int (f 0 k)] 2 hC (c_mixed l D (d := dgT (f 0) (f 1) (f 2) (mix (mix d len) (nI (sz 0))) k) (x := f 0 k) ) (nM_KeyStage_Clip_79 hG) mT_X5_mixed mN_X5 mC_X5_mixed (by decide +kernel) rfl rfl ⟨Nat.le_of_ble_eq_true rfl, Nat.le_of_ble_eq_true rfl⟩ hG hP9 rfl hl.1 rfl (Nat.le_of_ble_eq_true rfl) dX0_mixedInto_79 ⟨Nat.le_of_ble_eq_true rfl, Nat.le_of_ble_eq_true rfl⟩) (fun r79 h79 => ?_)
        obtain rfl : r79 = (mix (dgT (f 0) (f 1) (f 2) (mix (mix d len) (nI (sz 0))) k) (f 0 k)) := h79
        refine lv_lstore_n (lv' := [(3, .long (mix (dgT (f 0) (f 1) (f 2) (mix (mix d len) (nI (sz 0))) k) (f 0 k))), (10, .int 0), (0, .ref co), (5, .ref ta), (6, .int (nI 4)), (7, .int 0), (8, .ref (t 0)), (9, .int (nI k))]) hx hb dX0_mixedInto_82 rfl hl (by decide) rfl (fun ls hl => ?_)
        refine lv_iinc (v := 1) (lv' := [(10, .int 1), (3, .long (mix (dgT (f 0) (f 1) (f 2) (mix (mix d len) (nI (sz 0))) k) (f 0 k))), (0, .ref co), (5, .ref ta), (6, .int (nI 4)), (7, .int 0), (8, .ref (t 0)), (9, .int (nI k))]) hx hb dX0_mixedInto_83 hl (k := 1) rfl (by decide) (by decide) rfl (fun ls hl => ?_)
        refine lv_goto (tgt := 63) hx hb dX0_mixedInto_86 (by decide) ?_
        refine lv_iload hx hb dX0_mixedInto_63 (lv_at hl 0 rfl) ?_
        refine lv_iconst (v := 3) hx hb dX0_mixedInto_65 (by decide) ?_
        refine lv_icmp_ge (tgt := 89) hx hb dX0_mixedInto_66 (by decide) (fun h9 => absurd h9 (by decide)) (fun _ => ?_)
        refine lv_lload_n hx hb dX0_mixedInto_69 rfl (lv_at hl 1 rfl) ?_
        refine lv_aload hx hb dX0_mixedInto_70 (lv_at hl 6 rfl) ?_
        refine lv_iload hx hb dX0_mixedInto_72 (lv_at hl 7 rfl) ?_
        refine lv_iload hx hb dX0_mixedInto_74 (lv_at hl 0 rfl) ?_
        have hP9 := hP.sub (ws' := [oO (t 0) 4 [.ref (r 0), .ref (r 1), .ref (r 2)], oO (r 0) 2 [.ref (a 0), .int (nI (sz 0))], oO (r 1) 2 [.ref (a 1), .int (nI (sz 0))], oO (r 2) 2 [.ref (a 2), .int (nI (sz 0))], aI D (a 0) 16 (f 0), aI D (a 1) 16 (f 1), aI D (a 2) 16 (f 2)]) [6, 7, 8, 9, 10, 11, 12] rfl
        refine vp_callSi (pV (rest := [.long (mix (dgT (f 0) (f 1) (f 2) (mix (mix d len) (nI (sz 0))) k) (f 0 k))]) (qc := (RX4, TX4, 3)) [.int (nI k), .int 1] 2 hC (c_fact l D (t := t 0) (j := k) (w := 1) (r1 := r 0) (r2 := r 1) (r3 := r 2) (a1 := a 0) (sz := sz 0) (a2 := a 1) (a3 := a 2) (ft := f 0) (fv := f 1) (fe := f 2) (by omega) (by omega)) rfl (hP 6 _ rfl) (gV mM_X0_83 mI_X4_fact mS_X4_fact mN_X4 mC_X4_fact) (by decide +kernel) rfl rfl ⟨Nat.le_of_ble_eq_true rfl, Nat.le_of_ble_eq_true rfl⟩ hG hP9 rfl hl.1 rfl (Nat.le_of_ble_eq_true rfl) dX0_mixedInto_76 ⟨Nat.le_of_ble_eq_true rfl, Nat.le_of_ble_eq_true rfl⟩) (fun r76 h76 => ?_)
        obtain rfl : r76 = (if 1 = 0 then (f 0) k else if 1 = 1 then (f 1) k else (f 2) k) := h76
        refine tpi (y := f 1 k) ((if_neg (by decide)).trans (if_pos rfl)) ?_
        have hP9 : va_P D cls [] s.heap := fun k q h => by simp at h
        refine vp_callSl (pSN (rest := []) [.long (mix (dgT (f 0) (f 1) (f 2) (mix (mix d len) (nI (sz 0))) k) (f 0 k)), .int (f 1 k)] 2 hC (c_mixed l D (d := mix (dgT (f 0) (f 1) (f 2) (mix (mix d len) (nI (sz 0))) k) (f 0 k)) (x := f 1 k) ) (nM_KeyStage_Clip_79 hG) mT_X5_mixed mN_X5 mC_X5_mixed (by decide +kernel) rfl rfl ⟨Nat.le_of_ble_eq_true rfl, Nat.le_of_ble_eq_true rfl⟩ hG hP9 rfl hl.1 rfl (Nat.le_of_ble_eq_true rfl) dX0_mixedInto_79 ⟨Nat.le_of_ble_eq_true rfl, Nat.le_of_ble_eq_true rfl⟩) (fun r79 h79 => ?_)
        obtain rfl : r79 = (mix (mix (dgT (f 0) (f 1) (f 2) (mix (mix d len) (nI (sz 0))) k) (f 0 k)) (f 1 k)) := h79
        refine lv_lstore_n (lv' := [(3, .long (mix (mix (dgT (f 0) (f 1) (f 2) (mix (mix d len) (nI (sz 0))) k) (f 0 k)) (f 1 k))), (10, .int 1), (0, .ref co), (5, .ref ta), (6, .int (nI 4)), (7, .int 0), (8, .ref (t 0)), (9, .int (nI k))]) hx hb dX0_mixedInto_82 rfl hl (by decide) rfl (fun ls hl => ?_)
        refine lv_iinc (v := 2) (lv' := [(10, .int 2), (3, .long (mix (mix (dgT (f 0) (f 1) (f 2) (mix (mix d len) (nI (sz 0))) k) (f 0 k)) (f 1 k))), (0, .ref co), (5, .ref ta), (6, .int (nI 4)), (7, .int 0), (8, .ref (t 0)), (9, .int (nI k))]) hx hb dX0_mixedInto_83 hl (k := 1) rfl (by decide) (by decide) rfl (fun ls hl => ?_)
        refine lv_goto (tgt := 63) hx hb dX0_mixedInto_86 (by decide) ?_
        refine lv_iload hx hb dX0_mixedInto_63 (lv_at hl 0 rfl) ?_
        refine lv_iconst (v := 3) hx hb dX0_mixedInto_65 (by decide) ?_
        refine lv_icmp_ge (tgt := 89) hx hb dX0_mixedInto_66 (by decide) (fun h9 => absurd h9 (by decide)) (fun _ => ?_)
        refine lv_lload_n hx hb dX0_mixedInto_69 rfl (lv_at hl 1 rfl) ?_
        refine lv_aload hx hb dX0_mixedInto_70 (lv_at hl 6 rfl) ?_
        refine lv_iload hx hb dX0_mixedInto_72 (lv_at hl 7 rfl) ?_
        refine lv_iload hx hb dX0_mixedInto_74 (lv_at hl 0 rfl) ?_
        have hP9 := hP.sub (ws' := [oO (t 0) 4 [.ref (r 0), .ref (r 1), .ref (r 2)], oO (r 0) 2 [.ref (a 0), .int (nI (sz 0))], oO (r 1) 2 [.ref (a 1), .int (nI (sz 0))], oO (r 2) 2 [.ref (a 2), .int (nI (sz 0))], aI D (a 0) 16 (f 0), aI D (a 1) 16 (f 1), aI D (a 2) 16 (f 2)]) [6, 7, 8, 9, 10, 11, 12] rfl
        refine vp_callSi (pV (rest := [.long (mix (mix (dgT (f 0) (f 1) (f 2) (mix (mix d len) (nI (sz 0))) k) (f 0 k)) (f 1 k))]) (qc := (RX4, TX4, 3)) [.int (nI k), .int 2] 2 hC (c_fact l D (t := t 0) (j := k) (w := 2) (r1 := r 0) (r2 := r 1) (r3 := r 2) (a1 := a 0) (sz := sz 0) (a2 := a 1) (a3 := a 2) (ft := f 0) (fv := f 1) (fe := f 2) (by omega) (by omega)) rfl (hP 6 _ rfl) (gV mM_X0_83 mI_X4_fact mS_X4_fact mN_X4 mC_X4_fact) (by decide +kernel) rfl rfl ⟨Nat.le_of_ble_eq_true rfl, Nat.le_of_ble_eq_true rfl⟩ hG hP9 rfl hl.1 rfl (Nat.le_of_ble_eq_true rfl) dX0_mixedInto_76 ⟨Nat.le_of_ble_eq_true rfl, Nat.le_of_ble_eq_true rfl⟩) (fun r76 h76 => ?_)
        obtain rfl : r76 = (if 2 = 0 then (f 0) k else if 2 = 1 then (f 1) k else (f 2) k) := h76
        refine tpi (y := f 2 k) ((if_neg (by decide)).trans (if_neg (by decide))) ?_
        have hP9 : va_P D cls [] s.heap := fun k q h => by simp at h
        refine vp_callSl (pSN (rest := []) [.long (mix (mix (dgT (f 0) (f 1) (f 2) (mix (mix d len) (nI (sz 0))) k) (f 0 k)) (f 1 k)), .int (f 2 k)] 2 hC (c_mixed l D (d := mix (mix (dgT (f 0) (f 1) (f 2) (mix (mix d len) (nI (sz 0))) k) (f 0 k)) (f 1 k)) (x := f 2 k) ) (nM_KeyStage_Clip_79 hG) mT_X5_mixed mN_X5 mC_X5_mixed (by decide +kernel) rfl rfl ⟨Nat.le_of_ble_eq_true rfl, Nat.le_of_ble_eq_true rfl⟩ hG hP9 rfl hl.1 rfl (Nat.le_of_ble_eq_true rfl) dX0_mixedInto_79 ⟨Nat.le_of_ble_eq_true rfl, Nat.le_of_ble_eq_true rfl⟩) (fun r79 h79 => ?_)
        obtain rfl : r79 = (mix (mix (mix (dgT (f 0) (f 1) (f 2) (mix (mix d len) (nI (sz 0))) k) (f 0 k)) (f 1 k)) (f 2 k)) := h79
        refine lv_lstore_n (lv' := [(3, .long (mix (mix (mix (dgT (f 0) (f 1) (f 2) (mix (mix d len) (nI (sz 0))) k) (f 0 k)) (f 1 k)) (f 2 k))), (10, .int 2), (0, .ref co), (5, .ref ta), (6, .int (nI 4)), (7, .int 0), (8, .ref (t 0)), (9, .int (nI k))]) hx hb dX0_mixedInto_82 rfl hl (by decide) rfl (fun ls hl => ?_)
        refine lv_iinc (v := 3) (lv' := [(10, .int 3), (3, .long (mix (mix (mix (dgT (f 0) (f 1) (f 2) (mix (mix d len) (nI (sz 0))) k) (f 0 k)) (f 1 k)) (f 2 k))), (0, .ref co), (5, .ref ta), (6, .int (nI 4)), (7, .int 0), (8, .ref (t 0)), (9, .int (nI k))]) hx hb dX0_mixedInto_83 hl (k := 1) rfl (by decide) (by decide) rfl (fun ls hl => ?_)
        refine lv_goto (tgt := 63) hx hb dX0_mixedInto_86 (by decide) ?_
        refine lv_iload hx hb dX0_mixedInto_63 (lv_at hl 0 rfl) ?_
        refine lv_iconst (v := 3) hx hb dX0_mixedInto_65 (by decide) ?_
        refine lv_icmp_ge (tgt := 89) hx hb dX0_mixedInto_66 (by decide) (fun _ => ?_) (fun h9 => (h9 (by decide)).elim)
        refine lv_iinc (v := nI (k + 1)) (lv' := [(9, .int (nI (k + 1))), (10, .int 3), (3, .long (mix (mix (mix (dgT (f 0) (f 1) (f 2) (mix (mix d len) (nI (sz 0))) k) (f 0 k)) (f 1 k)) (f 2 k))), (0, .ref co), (5, .ref ta), (6, .int (nI 4)), (7, .int 0), (8, .ref (t 0))]) hx hb dX0_mixedInto_89 hl (k := 7) rfl (nI_1 _) (by decide) rfl (fun ls hl => ?_)
        refine lv_goto (tgt := 50) hx hb dX0_mixedInto_92 (by decide) ?_
        exact ih50 (k + 1) (by omega) (by omega) _ (lv_sub hl [3, 4, 5, 6, 7, 2, 0] rfl)
  exact loop50 _ 0 (Nat.lt_succ_self _) (by omega) _ (lv_sub hl [6, 5, 4, 3, 2, 1, 0] rfl)
