set_option maxHeartbeats 4000000 in
set_option maxRecDepth 100000 in
theorem c_stripOrNull (l : Launch) (D : va_G) {xo lc lt bo yo no : Nat} {et nS : Nat} {m2 : Int32} {s0 co : Nat} {sl : Nat → Nat} {pt : Nat → Int32} (hnS : nS ≤ 10) (hs0 : s0 < nS) : Met l yX5_stripOrNull (ws_ yX5_stripOrNull cX5_stripOrNull 2 (some (.object "KeyStage$Strip"))) ({ frames := 3, cells := 0, slots := 0, locals := 81 } : Room) (va_Pc [.ref xo, .int (nI s0)] (PW D [oO xo 5 [.ref lc, .ref lt, .ref bo, .ref yo, .ref no], oO lt 7 [.int m2, .ref et, .int (nI nS)], aO D et 10 (lsF sl nS), oO (sl s0) 3 [.ref co, .int (pt 0), .int (pt 1), .int (pt 3), .int (pt 4), .int (pt 5), .int (pt 6), .int (pt 7), .int (pt 8), .int (pt 9), .int (pt 10), .int (pt 11), .int (pt 12)]])) (va_Sq (fun v => v = some (sl s0))) 0 0 (fun _ => False) := by
  refine Met.ofW (cc := cX5_stripOrNull) (maxL := 2) (ret := (some (.object "KeyStage$Strip"))) (by decide) rfl ?_
  intro p e s m args below meth c s₁ B hml hv
  obtain ⟨rfl, hG, hP⟩ := hv
  have hx := B.exec
  have hb := B.bytes
  have hr := B.returns
  have hts : ∀ w ∈ wsL_law, w.before _ s = true := fun w h => atoms_spec (ws := (ws_ yX5_stripOrNull cX5_stripOrNull 2 (some (.object "KeyStage$Strip")))) B.pre w (List.mem_cons_of_mem _ h)
  have hown : s.vm.findClass RX5 = some m.cls := findClass_of_methodNamed B.named
  have hlk := B.notSynchronized
  have hC : CallFix p m c cX5_stripOrNull 2 s _ wsL_law RX5 := ⟨hx, hb, hml, hown, hts⟩
  have hl := lv_entry ([.ref xo, .int (nI s0)]) (n := 2) (Nat.le_of_ble_eq_true rfl)
  rw [lg_entry_eq]
  generalize (lg_sl ([.ref xo, .int (nI s0)]) ++ List.replicate (2 - (lg_sl ([.ref xo, .int (nI s0)])).length) Slot.unset).toArray = ls at hl ⊢
  have hl : lv_has ls 2 [(0, .ref xo), (1, .int (nI s0))] := hl
  refine lv_iload_n hx hb dX5_stripOrNull_0 rfl (lv_at hl 1 rfl) ?_
  refine lv_if_lt (tgt := 29) hx hb dX5_stripOrNull_1 (by decide) (fun h9 => absurd ((nI_ltI (a := s0) (b := 0) (by omega) (by omega)).mp h9) (by omega)) (fun _ => ?_)
  refine lv_iload_n hx hb dX5_stripOrNull_4 rfl (lv_at hl 1 rfl) ?_
  refine lv_aload_n hx hb dX5_stripOrNull_5 rfl (lv_at hl 0 rfl) ?_
  refine va_get (D := D) (ci := 5) (v := .ref lt) (C := RX5) (T := TX5) (N := 5) hx hb hts inlX5 hown hG.K hP 0 rfl rfl 1 (by decide) (hts _ mF_X5_16) (fun _ h9 => h9) rfl dX5_stripOrNull_6 ?_
  have hP9 := hP.sub (ws' := [oO lt 7 [.int m2, .ref et, .int (nI nS)]]) [1] rfl
  refine vp_callSi (pV (rest := [.int (nI s0)]) (qc := (RJx4a65c, TJx4a65c, 3)) [] 0 hC (c_list_size l D (lo := lt) (mc := m2) (ea := et) (n := nS) ) rfl (hP 1 _ rfl) (gV mM_X5_52 mI_Jx4a65c_size_8abf5 mS_Jx4a65c_size_8abf5 mN_Jx4a65c mC_Jx4a65c_size_8abf5) (by decide +kernel) rfl rfl ⟨Nat.le_of_ble_eq_true rfl, Nat.le_of_ble_eq_true rfl⟩ hG hP9 rfl hl.1 rfl (Nat.le_of_ble_eq_true rfl) dX5_stripOrNull_9 ⟨Nat.le_of_ble_eq_true rfl, Nat.le_of_ble_eq_true rfl⟩) (fun r9 h9 => ?_)
  obtain rfl : r9 = (nI nS) := h9
  refine lv_icmp_ge (tgt := 29) hx hb dX5_stripOrNull_12 (by decide) (fun h9 => absurd ((nI_leI (a := nS) (b := s0) (by omega) (by omega)).mp h9) (by omega)) (fun _ => ?_)
  refine lv_aload_n hx hb dX5_stripOrNull_15 rfl (lv_at hl 0 rfl) ?_
  refine va_get (D := D) (ci := 5) (v := .ref lt) (C := RX5) (T := TX5) (N := 5) hx hb hts inlX5 hown hG.K hP 0 rfl rfl 1 (by decide) (hts _ mF_X5_16) (fun _ h9 => h9) rfl dX5_stripOrNull_16 ?_
  refine lv_iload_n hx hb dX5_stripOrNull_19 rfl (lv_at hl 1 rfl) ?_
  have hP9 := hP.sub (ws' := [oO lt 7 [.int m2, .ref et, .int (nI nS)], aO D et 10 (lsF sl nS)]) [1, 2] rfl
  refine va_csq (pV (rest := []) (qc := (RJx4a65c, TJx4a65c, 3)) [.int (nI s0)] 1 hC (c_list_get l D (lo := lt) (i := s0) (mc := m2) (ea := et) (n := nS) (k := 10) (f := lsF sl nS) (by omega) (by omega) (by omega)) rfl (hP 1 _ rfl) (gV mM_X5_250 mI_Jx4a65c_get_915e3 mS_Jx4a65c_get_915e3 mN_Jx4a65c mC_Jx4a65c_get_915e3) (by decide +kernel) rfl rfl ⟨Nat.le_of_ble_eq_true rfl, Nat.le_of_ble_eq_true rfl⟩ hG hP9 rfl hl.1 rfl (Nat.le_of_ble_eq_true rfl) dX5_stripOrNull_20 ⟨Nat.le_of_ble_eq_true rfl, Nat.le_of_ble_eq_true rfl⟩) (fun r20 h20 => ?_)
  obtain rfl : r20 = ((lsF sl nS) s0) := h20
  refine tpv (y := .ref (sl s0)) (lsF_ref (by omega)) ?_
  refine va_castS (nm := RX3) hx hb hown (hts _ mK_X5_183) (hG.K.1 3 _ rfl).2 (rcv hG (hP 3 _ rfl) (ci := 3) rfl) dX5_stripOrNull_23 ?_
  refine lv_goto (tgt := 30) hx hb dX5_stripOrNull_26 (by decide) ?_
  refine Rq (v := some (sl s0)) hx hb hr hlk ?_ dX5_stripOrNull_30
  exact rfl
set_option maxHeartbeats 4000000 in
set_option maxRecDepth 100000 in
theorem c_stripOrNull_no (l : Launch) (D : va_G) {xo lc lt bo yo no : Nat} {et nS : Nat} {m2 : Int32} {x : Int32} (hnS : nS ≤ 10) (hxx : x < 0 ∨ nI nS ≤ x) : Met l yX5_stripOrNull (ws_ yX5_stripOrNull cX5_stripOrNull 2 (some (.object "KeyStage$Strip"))) ({ frames := 3, cells := 0, slots := 0, locals := 81 } : Room) (va_Pc [.ref xo, .int x] (PW D [oO xo 5 [.ref lc, .ref lt, .ref bo, .ref yo, .ref no], oO lt 7 [.int m2, .ref et, .int (nI nS)]])) (va_Sq (fun v => v = none)) 0 0 (fun _ => False) := by
  refine Met.ofW (cc := cX5_stripOrNull) (maxL := 2) (ret := (some (.object "KeyStage$Strip"))) (by decide) rfl ?_
  intro p e s m args below meth c s₁ B hml hv
  obtain ⟨rfl, hG, hP⟩ := hv
  have hx := B.exec
  have hb := B.bytes
  have hr := B.returns
  have hts : ∀ w ∈ wsL_law, w.before _ s = true := fun w h => atoms_spec (ws := (ws_ yX5_stripOrNull cX5_stripOrNull 2 (some (.object "KeyStage$Strip")))) B.pre w (List.mem_cons_of_mem _ h)
  have hown : s.vm.findClass RX5 = some m.cls := findClass_of_methodNamed B.named
  have hlk := B.notSynchronized
  have hC : CallFix p m c cX5_stripOrNull 2 s _ wsL_law RX5 := ⟨hx, hb, hml, hown, hts⟩
  have hl := lv_entry ([.ref xo, .int x]) (n := 2) (Nat.le_of_ble_eq_true rfl)
  rw [lg_entry_eq]
  generalize (lg_sl ([.ref xo, .int x]) ++ List.replicate (2 - (lg_sl ([.ref xo, .int x])).length) Slot.unset).toArray = ls at hl ⊢
  have hl : lv_has ls 2 [(0, .ref xo), (1, .int x)] := hl
  refine lv_iload_n hx hb dX5_stripOrNull_0 rfl (lv_at hl 1 rfl) ?_
  refine lv_if_lt (tgt := 29) hx hb dX5_stripOrNull_1 (by decide) (fun c1 => ?_) (fun c1 => ?_)
  · skip
    refine lv_null hx hb dX5_stripOrNull_29 ?_
    refine Rq (v := none) hx hb hr hlk ?_ dX5_stripOrNull_30
    exact rfl
  · skip
    refine lv_iload_n hx hb dX5_stripOrNull_4 rfl (lv_at hl 1 rfl) ?_
    refine lv_aload_n hx hb dX5_stripOrNull_5 rfl (lv_at hl 0 rfl) ?_
    refine va_get (D := D) (ci := 5) (v := .ref lt) (C := RX5) (T := TX5) (N := 5) hx hb hts inlX5 hown hG.K hP 0 rfl rfl 1 (by decide) (hts _ mF_X5_16) (fun _ h9 => h9) rfl dX5_stripOrNull_6 ?_
    have hP9 := hP.sub (ws' := [oO lt 7 [.int m2, .ref et, .int (nI nS)]]) [1] rfl
    refine vp_callSi (pV (rest := [.int x]) (qc := (RJx4a65c, TJx4a65c, 3)) [] 0 hC (c_list_size l D (lo := lt) (mc := m2) (ea := et) (n := nS) ) rfl (hP 1 _ rfl) (gV mM_X5_52 mI_Jx4a65c_size_8abf5 mS_Jx4a65c_size_8abf5 mN_Jx4a65c mC_Jx4a65c_size_8abf5) (by decide +kernel) rfl rfl ⟨Nat.le_of_ble_eq_true rfl, Nat.le_of_ble_eq_true rfl⟩ hG hP9 rfl hl.1 rfl (Nat.le_of_ble_eq_true rfl) dX5_stripOrNull_9 ⟨Nat.le_of_ble_eq_true rfl, Nat.le_of_ble_eq_true rfl⟩) (fun r9 h9 => ?_)
    obtain rfl : r9 = (nI nS) := h9
    refine lv_icmp_ge (tgt := 29) hx hb dX5_stripOrNull_12 (by decide) (fun c12 => ?_) (fun c12 => absurd (hxx.resolve_left c1) c12)
    refine lv_null hx hb dX5_stripOrNull_29 ?_
    refine Rq (v := none) hx hb hr hlk ?_ dX5_stripOrNull_30
    exact rfl
set_option maxHeartbeats 4000000 in
set_option maxRecDepth 100000 in
theorem t_addStrip_1 (l : Launch) (D : va_G) (hns : l.stackTraces = false) {xo lc lt bo yo no : Nat} {ec nC : Nat} {m1 : Int32} {x x1 x2 x3 : Int32} (hz0 : Nat) (hnC : nC ≤ 6) (hxx : x < 0 ∨ nI nC ≤ x) : vx_Met l yX5_addStrip (ws_ yX5_addStrip cX5_addStrip 6 (some .int)) ({ frames := 6, cells := 1, slots := 6, locals := 166 } : Room) (va_Pc [.ref xo, .int x, .int x1, .int x2, .int x3] (TW D [oO xo 5 [.ref lc, .ref lt, .ref bo, .ref yo, .ref no], oO lc 7 [.int m1, .ref ec, .int (nI nC)]] hz0)) (va_Qi (fun _ (_ : Unit) => False) (fun _ _ => False) (va_A [] hz0)) (XE "java/lang/IndexOutOfBoundsException" (va_A [] hz0)) 1 6 (va_A [] hz0) := by
  refine vx_ofW (cc := cX5_addStrip) (maxL := 6) (ret := (some .int)) (by decide) rfl ?_
  intro p e s m args below meth c s₁ B hml hne hv
  obtain ⟨rfl, hsz, hG, hP, hZ⟩ := hv
  subst hsz
  have hx := B.exec
  have hb := B.bytes
  have hr := B.returns
  have hts : ∀ w ∈ wsL_law, w.before _ s = true := fun w h => atoms_spec (ws := (ws_ yX5_addStrip cX5_addStrip 6 (some .int))) B.pre w (List.mem_cons_of_mem _ h)
  have hown : s.vm.findClass RX5 = some m.cls := findClass_of_methodNamed B.named
  have hlk := B.notSynchronized
  have hC : CallFix p m c cX5_addStrip 6 s _ wsL_law RX5 := ⟨hx, hb, hml, hown, hts⟩
  have hl := lv_entry ([.ref xo, .int x, .int x1, .int x2, .int x3]) (n := 6) (Nat.le_of_ble_eq_true rfl)
  rw [lg_entry_eq]
  generalize (lg_sl ([.ref xo, .int x, .int x1, .int x2, .int x3]) ++ List.replicate (6 - (lg_sl ([.ref xo, .int x, .int x1, .int x2, .int x3])).length) Slot.unset).toArray = ls at hl ⊢
  have hl : lv_has ls 6 [(0, .ref xo), (1, .int x), (2, .int x1), (3, .int x2), (4, .int x3)] := hl
  refine lv_aload_n hx hb dX5_addStrip_0 rfl (lv_at hl 0 rfl) ?_
  refine lv_iload_n hx hb dX5_addStrip_1 rfl (lv_at hl 1 rfl) ?_
  have hP9 := hP
  refine va_csq (pV (rest := []) (qc := (RX5, TX5, 5)) [.int x] 1 hC (c_clipOrNull_no l D (xo := xo) (x := x) (lc := lc) (lt := lt) (bo := bo) (yo := yo) (no := no) (m1 := m1) (ec := ec) (nC := nC) (by omega) (hxx)) rfl (hP 0 _ rfl) (gV mM_X5_68 mI_X5_clipOrNull mS_X5_clipOrNull mN_X5 mC_X5_clipOrNull) (by decide +kernel) rfl rfl ⟨Nat.le_of_ble_eq_true rfl, Nat.le_of_ble_eq_true rfl⟩ hG hP9 rfl hl.1 rfl (Nat.le_of_ble_eq_true rfl) dX5_addStrip_2 ⟨Nat.le_of_ble_eq_true rfl, Nat.le_of_ble_eq_true rfl⟩) (fun r2 h2 => ?_)
  obtain rfl : none = r2 := Eq.symm h2
  refine tpv (y := .null) rfl ?_
  refine lv_astoreN (lv' := [(5, .null), (0, .ref xo), (1, .int x), (2, .int x1), (3, .int x2), (4, .int x3)]) hx hb dX5_addStrip_5 hl (by decide) rfl (fun ls hl => ?_)
  refine lv_aloadN hx hb dX5_addStrip_7 (lv_at hl 0 rfl) ?_
  refine lv_ifnonnullN hx hb dX5_addStrip_9 ?_
  obtain ⟨sa, hsa⟩ := gkS hG 10 rfl
  exact vx_throwS (ik := 72) (is := 132) (ic := 76) (cls := "java/lang/IndexOutOfBoundsException") (names := tXn) hx hb hns hown (by decide +kernel) (by decide +kernel) (hts _ mK_X5_72) (hts _ mN__java_lang_IndexOutOfBoundsException_) hsa (vx_hat (fun w hw => hts w (thr_in76 w hw)) thr_bad76 (thr_B 4 hG rfl)) thr_ot76 hZ.1 hZ.2 va_S.rf (by rw [hml]; exact hl.1) dX5_addStrip_12 dX5_addStrip_15 dX5_addStrip_16 dX5_addStrip_18 dX5_addStrip_21 (fun x hx => (hne x hx).elim) (Nat.le_of_ble_eq_true rfl) (Nat.le_of_ble_eq_true rfl) (Nat.le_of_ble_eq_true rfl) (Nat.le_of_ble_eq_true rfl) hlk (XE.of rfl) (fun q hq => absurd hq List.not_mem_nil) (Nat.le_of_ble_eq_true rfl) (Nat.le_of_ble_eq_true rfl)
set_option maxHeartbeats 4000000 in
set_option maxRecDepth 100000 in
theorem t_addStrip_2 (l : Launch) (D : va_G) (hns : l.stackTraces = false) {xo lc lt bo yo no : Nat} {ec nC c0 : Nat} {m1 : Int32} {cl : Nat → Nat} {ta : Nat} {len : Int32} {q t : Nat → Nat} {x1 x2 x3 : Int32} (hz0 : Nat) (hnC : nC ≤ 6) (hc : c0 < nC) (h : ¬ ((0 ≤ x1 ∧ x1 ≤ 5000) ∧ (1 ≤ x2 ∧ x2 ≤ 9) ∧ (0 ≤ x3 ∧ x3 ≤ 2))) : vx_Met l yX5_addStrip (ws_ yX5_addStrip cX5_addStrip 6 (some .int)) ({ frames := 6, cells := 1, slots := 6, locals := 166 } : Room) (va_Pc [.ref xo, .int (nI c0), .int x1, .int x2, .int x3] (TW D [oO xo 5 [.ref lc, .ref lt, .ref bo, .ref yo, .ref no], oO lc 7 [.int m1, .ref ec, .int (nI nC)], aO D ec 10 (lsF cl nC), oO (cl c0) 0 [.int len, .ref ta, .ref (q 0), .ref (q 1)]] hz0)) (va_Qi (fun _ (_ : Unit) => False) (fun _ _ => False) (va_A [] hz0)) (XE "java/lang/IllegalArgumentException" (va_A [] hz0)) 1 6 (va_A [] hz0) := by
  refine vx_ofW (cc := cX5_addStrip) (maxL := 6) (ret := (some .int)) (by decide) rfl ?_
  intro p e s m args below meth c s₁ B hml hne hv
  obtain ⟨rfl, hsz, hG, hP, hZ⟩ := hv
  subst hsz
  have hx := B.exec
  have hb := B.bytes
  have hr := B.returns
  have hts : ∀ w ∈ wsL_law, w.before _ s = true := fun w h => atoms_spec (ws := (ws_ yX5_addStrip cX5_addStrip 6 (some .int))) B.pre w (List.mem_cons_of_mem _ h)
  have hown : s.vm.findClass RX5 = some m.cls := findClass_of_methodNamed B.named
  have hlk := B.notSynchronized
  have hC : CallFix p m c cX5_addStrip 6 s _ wsL_law RX5 := ⟨hx, hb, hml, hown, hts⟩
  have hl := lv_entry ([.ref xo, .int (nI c0), .int x1, .int x2, .int x3]) (n := 6) (Nat.le_of_ble_eq_true rfl)
  rw [lg_entry_eq]
  generalize (lg_sl ([.ref xo, .int (nI c0), .int x1, .int x2, .int x3]) ++ List.replicate (6 - (lg_sl ([.ref xo, .int (nI c0), .int x1, .int x2, .int x3])).length) Slot.unset).toArray = ls at hl ⊢
  have hl : lv_has ls 6 [(0, .ref xo), (1, .int (nI c0)), (2, .int x1), (3, .int x2), (4, .int x3)] := hl
  refine lv_aload_n hx hb dX5_addStrip_0 rfl (lv_at hl 0 rfl) ?_
  refine lv_iload_n hx hb dX5_addStrip_1 rfl (lv_at hl 1 rfl) ?_
  have hP9 := hP
  refine va_csq (pV (rest := []) (qc := (RX5, TX5, 5)) [.int (nI c0)] 1 hC (c_clipOrNull l D (xo := xo) (c0 := c0) (lc := lc) (lt := lt) (bo := bo) (yo := yo) (no := no) (m1 := m1) (ec := ec) (nC := nC) (len := len) (ta := ta) (by omega) (by omega)) rfl (hP 0 _ rfl) (gV mM_X5_68 mI_X5_clipOrNull mS_X5_clipOrNull mN_X5 mC_X5_clipOrNull) (by decide +kernel) rfl rfl ⟨Nat.le_of_ble_eq_true rfl, Nat.le_of_ble_eq_true rfl⟩ hG hP9 rfl hl.1 rfl (Nat.le_of_ble_eq_true rfl) dX5_addStrip_2 ⟨Nat.le_of_ble_eq_true rfl, Nat.le_of_ble_eq_true rfl⟩) (fun r2 h2 => ?_)
  obtain rfl : r2 = (some (cl c0)) := h2
  refine tpv (y := .ref (cl c0)) rfl ?_
  refine lv_astore (lv' := [(5, .ref (cl c0)), (0, .ref xo), (1, .int (nI c0)), (2, .int x1), (3, .int x2), (4, .int x3)]) hx hb dX5_addStrip_5 hl (by decide) rfl (fun ls hl => ?_)
  refine lv_aload hx hb dX5_addStrip_7 (lv_at hl 0 rfl) ?_
  refine lv_ifnonnull (tgt := 22) hx hb dX5_addStrip_9 (by decide) ?_
  refine lv_iload_n hx hb dX5_addStrip_22 rfl (lv_at hl 3 rfl) ?_
  refine lv_iconst (v := 0) hx hb dX5_addStrip_23 (by decide) ?_
  refine lv_sipush (v := 5000) hx hb dX5_addStrip_24 (by decide) ?_
  have hP9 : va_P D cls [] s.heap := fun k q h => by simp at h
  refine vp_callSi (pS (rest := []) [.int x1, .int 0, .int 5000] 3 hC (c_isIn l D (x := x1) (a := 0) (b := 5000) ) (gS mM_X5_41 mT_X5_isIn mN_X5 mC_X5_isIn) (by decide +kernel) rfl rfl ⟨Nat.le_of_ble_eq_true rfl, Nat.le_of_ble_eq_true rfl⟩ hG hP9 rfl hl.1 rfl (Nat.le_of_ble_eq_true rfl) dX5_addStrip_27 ⟨Nat.le_of_ble_eq_true rfl, Nat.le_of_ble_eq_true rfl⟩) (fun r27 h27 => ?_)
  rcases h27 with ⟨rfl, hb27⟩ | ⟨rfl, hb27⟩
  · skip
    refine lv_if_eq (tgt := 53) hx hb dX5_addStrip_30 (by decide) (fun h9 => absurd h9 (by decide)) (fun _ => ?_)
    refine lv_iload_n hx hb dX5_addStrip_33 rfl (lv_at hl 4 rfl) ?_
    refine lv_iconst (v := 1) hx hb dX5_addStrip_34 (by decide) ?_
    refine lv_bipush (v := 9) hx hb dX5_addStrip_35 (by decide) ?_
    have hP9 : va_P D cls [] s.heap := fun k q h => by simp at h
    refine vp_callSi (pS (rest := []) [.int x2, .int 1, .int 9] 3 hC (c_isIn l D (x := x2) (a := 1) (b := 9) ) (gS mM_X5_41 mT_X5_isIn mN_X5 mC_X5_isIn) (by decide +kernel) rfl rfl ⟨Nat.le_of_ble_eq_true rfl, Nat.le_of_ble_eq_true rfl⟩ hG hP9 rfl hl.1 rfl (Nat.le_of_ble_eq_true rfl) dX5_addStrip_37 ⟨Nat.le_of_ble_eq_true rfl, Nat.le_of_ble_eq_true rfl⟩) (fun r37 h37 => ?_)
    rcases h37 with ⟨rfl, hb37⟩ | ⟨rfl, hb37⟩
    · skip
      refine lv_if_eq (tgt := 53) hx hb dX5_addStrip_40 (by decide) (fun h9 => absurd h9 (by decide)) (fun _ => ?_)
      refine lv_iload hx hb dX5_addStrip_43 (lv_at hl 5 rfl) ?_
      refine lv_iconst (v := 0) hx hb dX5_addStrip_45 (by decide) ?_
      refine lv_iconst (v := 2) hx hb dX5_addStrip_46 (by decide) ?_
      have hP9 : va_P D cls [] s.heap := fun k q h => by simp at h
      refine vp_callSi (pS (rest := []) [.int x3, .int 0, .int 2] 3 hC (c_isIn l D (x := x3) (a := 0) (b := 2) ) (gS mM_X5_41 mT_X5_isIn mN_X5 mC_X5_isIn) (by decide +kernel) rfl rfl ⟨Nat.le_of_ble_eq_true rfl, Nat.le_of_ble_eq_true rfl⟩ hG hP9 rfl hl.1 rfl (Nat.le_of_ble_eq_true rfl) dX5_addStrip_47 ⟨Nat.le_of_ble_eq_true rfl, Nat.le_of_ble_eq_true rfl⟩) (fun r47 h47 => ?_)
      rcases h47 with ⟨rfl, hb47⟩ | ⟨rfl, hb47⟩
      · exact absurd hb47 (fun h9 => h ⟨hb27, hb37, h9⟩)
      refine lv_if_ne (tgt := 63) hx hb dX5_addStrip_50 (by decide) (fun h9 => (h9 (by decide)).elim) (fun _ => ?_)
      obtain ⟨sa, hsa⟩ := gkS hG 19 rfl
      exact vx_throwS (ik := 45) (is := 179) (ic := 49) (cls := "java/lang/IllegalArgumentException") (names := tXn) hx hb hns hown (by decide +kernel) (by decide +kernel) (hts _ mK_X5_45) (hts _ mN__java_lang_IllegalArgumentException_) hsa (vx_hat (fun w hw => hts w (thr_in49 w hw)) thr_bad49 (thr_B 2 hG rfl)) thr_ot49 hZ.1 hZ.2 va_S.rf (by rw [hml]; exact hl.1) dX5_addStrip_53 dX5_addStrip_56 dX5_addStrip_57 dX5_addStrip_59 dX5_addStrip_62 (fun x hx => (hne x hx).elim) (Nat.le_of_ble_eq_true rfl) (Nat.le_of_ble_eq_true rfl) (Nat.le_of_ble_eq_true rfl) (Nat.le_of_ble_eq_true rfl) hlk (XE.of rfl) (fun q hq => absurd hq List.not_mem_nil) (Nat.le_of_ble_eq_true rfl) (Nat.le_of_ble_eq_true rfl)
    · skip
      refine lv_if_eq (tgt := 53) hx hb dX5_addStrip_40 (by decide) (fun _ => ?_) (fun h9 => (h9 (by decide)).elim)
      obtain ⟨sa, hsa⟩ := gkS hG 19 rfl
      exact vx_throwS (ik := 45) (is := 179) (ic := 49) (cls := "java/lang/IllegalArgumentException") (names := tXn) hx hb hns hown (by decide +kernel) (by decide +kernel) (hts _ mK_X5_45) (hts _ mN__java_lang_IllegalArgumentException_) hsa (vx_hat (fun w hw => hts w (thr_in49 w hw)) thr_bad49 (thr_B 2 hG rfl)) thr_ot49 hZ.1 hZ.2 va_S.rf (by rw [hml]; exact hl.1) dX5_addStrip_53 dX5_addStrip_56 dX5_addStrip_57 dX5_addStrip_59 dX5_addStrip_62 (fun x hx => (hne x hx).elim) (Nat.le_of_ble_eq_true rfl) (Nat.le_of_ble_eq_true rfl) (Nat.le_of_ble_eq_true rfl) (Nat.le_of_ble_eq_true rfl) hlk (XE.of rfl) (fun q hq => absurd hq List.not_mem_nil) (Nat.le_of_ble_eq_true rfl) (Nat.le_of_ble_eq_true rfl)
  · skip
    refine lv_if_eq (tgt := 53) hx hb dX5_addStrip_30 (by decide) (fun _ => ?_) (fun h9 => (h9 (by decide)).elim)
    obtain ⟨sa, hsa⟩ := gkS hG 19 rfl
    exact vx_throwS (ik := 45) (is := 179) (ic := 49) (cls := "java/lang/IllegalArgumentException") (names := tXn) hx hb hns hown (by decide +kernel) (by decide +kernel) (hts _ mK_X5_45) (hts _ mN__java_lang_IllegalArgumentException_) hsa (vx_hat (fun w hw => hts w (thr_in49 w hw)) thr_bad49 (thr_B 2 hG rfl)) thr_ot49 hZ.1 hZ.2 va_S.rf (by rw [hml]; exact hl.1) dX5_addStrip_53 dX5_addStrip_56 dX5_addStrip_57 dX5_addStrip_59 dX5_addStrip_62 (fun x hx => (hne x hx).elim) (Nat.le_of_ble_eq_true rfl) (Nat.le_of_ble_eq_true rfl) (Nat.le_of_ble_eq_true rfl) (Nat.le_of_ble_eq_true rfl) hlk (XE.of rfl) (fun q hq => absurd hq List.not_mem_nil) (Nat.le_of_ble_eq_true rfl) (Nat.le_of_ble_eq_true rfl)
set_option maxHeartbeats 4000000 in
set_option maxRecDepth 100000 in
theorem t_addStrip_3 (l : Launch) (D : va_G) (hns : l.stackTraces = false) {xo lc lt bo yo no : Nat} {ec nC c0 : Nat} {m1 : Int32} {cl : Nat → Nat} {ta : Nat} {len : Int32} {q t : Nat → Nat} {et nS : Nat} {m2 : Int32} {x1 x2 x3 : Int32} (hz0 : Nat) (hnC : nC ≤ 6) (hc : c0 < nC) (h : (0 ≤ x1 ∧ x1 ≤ 5000) ∧ (1 ≤ x2 ∧ x2 ≤ 9) ∧ (0 ≤ x3 ∧ x3 ≤ 2)) (hnS : nS = 10) : vx_Met l yX5_addStrip (ws_ yX5_addStrip cX5_addStrip 6 (some .int)) ({ frames := 6, cells := 1, slots := 6, locals := 166 } : Room) (va_Pc [.ref xo, .int (nI c0), .int x1, .int x2, .int x3] (TW D [oO xo 5 [.ref lc, .ref lt, .ref bo, .ref yo, .ref no], oO lc 7 [.int m1, .ref ec, .int (nI nC)], aO D ec 10 (lsF cl nC), oO (cl c0) 0 [.int len, .ref ta, .ref (q 0), .ref (q 1)], oO lt 7 [.int m2, .ref et, .int (nI nS)]] hz0)) (va_Qi (fun _ (_ : Unit) => False) (fun _ _ => False) (va_A [] hz0)) (XE "java/lang/IllegalStateException" (va_A [] hz0)) 1 6 (va_A [] hz0) := by
  refine vx_ofW (cc := cX5_addStrip) (maxL := 6) (ret := (some .int)) (by decide) rfl ?_
  intro p e s m args below meth c s₁ B hml hne hv
  obtain ⟨rfl, hsz, hG, hP, hZ⟩ := hv
  subst hsz
  have hx := B.exec
  have hb := B.bytes
  have hr := B.returns
  have hts : ∀ w ∈ wsL_law, w.before _ s = true := fun w h => atoms_spec (ws := (ws_ yX5_addStrip cX5_addStrip 6 (some .int))) B.pre w (List.mem_cons_of_mem _ h)
  have hown : s.vm.findClass RX5 = some m.cls := findClass_of_methodNamed B.named
  have hlk := B.notSynchronized
  have hC : CallFix p m c cX5_addStrip 6 s _ wsL_law RX5 := ⟨hx, hb, hml, hown, hts⟩
  have hl := lv_entry ([.ref xo, .int (nI c0), .int x1, .int x2, .int x3]) (n := 6) (Nat.le_of_ble_eq_true rfl)
  rw [lg_entry_eq]
  generalize (lg_sl ([.ref xo, .int (nI c0), .int x1, .int x2, .int x3]) ++ List.replicate (6 - (lg_sl ([.ref xo, .int (nI c0), .int x1, .int x2, .int x3])).length) Slot.unset).toArray = ls at hl ⊢
  have hl : lv_has ls 6 [(0, .ref xo), (1, .int (nI c0)), (2, .int x1), (3, .int x2), (4, .int x3)] := hl
  refine lv_aload_n hx hb dX5_addStrip_0 rfl (lv_at hl 0 rfl) ?_
  refine lv_iload_n hx hb dX5_addStrip_1 rfl (lv_at hl 1 rfl) ?_
  have hP9 := hP.sub (ws' := [oO xo 5 [.ref lc, .ref lt, .ref bo, .ref yo, .ref no], oO lc 7 [.int m1, .ref ec, .int (nI nC)], aO D ec 10 (lsF cl nC), oO (cl c0) 0 [.int len, .ref ta, .ref (q 0), .ref (q 1)]]) [0, 1, 2, 3] rfl
  refine va_csq (pV (rest := []) (qc := (RX5, TX5, 5)) [.int (nI c0)] 1 hC (c_clipOrNull l D (xo := xo) (c0 := c0) (lc := lc) (lt := lt) (bo := bo) (yo := yo) (no := no) (m1 := m1) (ec := ec) (nC := nC) (len := len) (ta := ta) (by omega) (by omega)) rfl (hP 0 _ rfl) (gV mM_X5_68 mI_X5_clipOrNull mS_X5_clipOrNull mN_X5 mC_X5_clipOrNull) (by decide +kernel) rfl rfl ⟨Nat.le_of_ble_eq_true rfl, Nat.le_of_ble_eq_true rfl⟩ hG hP9 rfl hl.1 rfl (Nat.le_of_ble_eq_true rfl) dX5_addStrip_2 ⟨Nat.le_of_ble_eq_true rfl, Nat.le_of_ble_eq_true rfl⟩) (fun r2 h2 => ?_)
  obtain rfl : r2 = (some (cl c0)) := h2
  refine tpv (y := .ref (cl c0)) rfl ?_
  refine lv_astore (lv' := [(5, .ref (cl c0)), (0, .ref xo), (1, .int (nI c0)), (2, .int x1), (3, .int x2), (4, .int x3)]) hx hb dX5_addStrip_5 hl (by decide) rfl (fun ls hl => ?_)
  refine lv_aload hx hb dX5_addStrip_7 (lv_at hl 0 rfl) ?_
  refine lv_ifnonnull (tgt := 22) hx hb dX5_addStrip_9 (by decide) ?_
  refine lv_iload_n hx hb dX5_addStrip_22 rfl (lv_at hl 3 rfl) ?_
  refine lv_iconst (v := 0) hx hb dX5_addStrip_23 (by decide) ?_
  refine lv_sipush (v := 5000) hx hb dX5_addStrip_24 (by decide) ?_
  have hP9 : va_P D cls [] s.heap := fun k q h => by simp at h
  refine vp_callSi (pS (rest := []) [.int x1, .int 0, .int 5000] 3 hC (c_isIn l D (x := x1) (a := 0) (b := 5000) ) (gS mM_X5_41 mT_X5_isIn mN_X5 mC_X5_isIn) (by decide +kernel) rfl rfl ⟨Nat.le_of_ble_eq_true rfl, Nat.le_of_ble_eq_true rfl⟩ hG hP9 rfl hl.1 rfl (Nat.le_of_ble_eq_true rfl) dX5_addStrip_27 ⟨Nat.le_of_ble_eq_true rfl, Nat.le_of_ble_eq_true rfl⟩) (fun r27 h27 => ?_)
  rcases h27 with ⟨rfl, hb27⟩ | ⟨rfl, hb27⟩
  rotate_left
  · exact absurd (h.1) hb27
  refine lv_if_eq (tgt := 53) hx hb dX5_addStrip_30 (by decide) (fun h9 => absurd h9 (by decide)) (fun _ => ?_)
  refine lv_iload_n hx hb dX5_addStrip_33 rfl (lv_at hl 4 rfl) ?_
  refine lv_iconst (v := 1) hx hb dX5_addStrip_34 (by decide) ?_
  refine lv_bipush (v := 9) hx hb dX5_addStrip_35 (by decide) ?_
  have hP9 : va_P D cls [] s.heap := fun k q h => by simp at h
  refine vp_callSi (pS (rest := []) [.int x2, .int 1, .int 9] 3 hC (c_isIn l D (x := x2) (a := 1) (b := 9) ) (gS mM_X5_41 mT_X5_isIn mN_X5 mC_X5_isIn) (by decide +kernel) rfl rfl ⟨Nat.le_of_ble_eq_true rfl, Nat.le_of_ble_eq_true rfl⟩ hG hP9 rfl hl.1 rfl (Nat.le_of_ble_eq_true rfl) dX5_addStrip_37 ⟨Nat.le_of_ble_eq_true rfl, Nat.le_of_ble_eq_true rfl⟩) (fun r37 h37 => ?_)
  rcases h37 with ⟨rfl, hb37⟩ | ⟨rfl, hb37⟩
  rotate_left
  · exact absurd (h.2.1) hb37
  refine lv_if_eq (tgt := 53) hx hb dX5_addStrip_40 (by decide) (fun h9 => absurd h9 (by decide)) (fun _ => ?_)
  refine lv_iload hx hb dX5_addStrip_43 (lv_at hl 5 rfl) ?_
  refine lv_iconst (v := 0) hx hb dX5_addStrip_45 (by decide) ?_
  refine lv_iconst (v := 2) hx hb dX5_addStrip_46 (by decide) ?_
  have hP9 : va_P D cls [] s.heap := fun k q h => by simp at h
  refine vp_callSi (pS (rest := []) [.int x3, .int 0, .int 2] 3 hC (c_isIn l D (x := x3) (a := 0) (b := 2) ) (gS mM_X5_41 mT_X5_isIn mN_X5 mC_X5_isIn) (by decide +kernel) rfl rfl ⟨Nat.le_of_ble_eq_true rfl, Nat.le_of_ble_eq_true rfl⟩ hG hP9 rfl hl.1 rfl (Nat.le_of_ble_eq_true rfl) dX5_addStrip_47 ⟨Nat.le_of_ble_eq_true rfl, Nat.le_of_ble_eq_true rfl⟩) (fun r47 h47 => ?_)
  rcases h47 with ⟨rfl, hb47⟩ | ⟨rfl, hb47⟩
  rotate_left
  · exact absurd (h.2.2) hb47
  refine lv_if_ne (tgt := 63) hx hb dX5_addStrip_50 (by decide) (fun _ => ?_) (fun h9 => absurd h9 (by decide))
  refine lv_aload_n hx hb dX5_addStrip_63 rfl (lv_at hl 1 rfl) ?_
  refine va_get (D := D) (ci := 5) (v := .ref lt) (C := RX5) (T := TX5) (N := 5) hx hb hts inlX5 hown hG.K hP 0 rfl rfl 1 (by decide) (hts _ mF_X5_16) (fun _ h9 => h9) rfl dX5_addStrip_64 ?_
  have hP9 := hP.sub (ws' := [oO lt 7 [.int m2, .ref et, .int (nI nS)]]) [4] rfl
  refine vp_callSi (pV (rest := []) (qc := (RJx4a65c, TJx4a65c, 3)) [] 0 hC (c_list_size l D (lo := lt) (mc := m2) (ea := et) (n := nS) ) rfl (hP 4 _ rfl) (gV mM_X5_52 mI_Jx4a65c_size_8abf5 mS_Jx4a65c_size_8abf5 mN_Jx4a65c mC_Jx4a65c_size_8abf5) (by decide +kernel) rfl rfl ⟨Nat.le_of_ble_eq_true rfl, Nat.le_of_ble_eq_true rfl⟩ hG hP9 rfl hl.1 rfl (Nat.le_of_ble_eq_true rfl) dX5_addStrip_67 ⟨Nat.le_of_ble_eq_true rfl, Nat.le_of_ble_eq_true rfl⟩) (fun r67 h67 => ?_)
  obtain rfl : r67 = (nI nS) := h67
  refine lv_bipush (v := 10) hx hb dX5_addStrip_70 (by decide) ?_
  refine lv_icmp_lt (tgt := 85) hx hb dX5_addStrip_72 (by decide) (fun h9 => absurd ((nI_ltI (a := nS) (b := 10) (by omega) (by omega)).mp h9) (by omega)) (fun _ => ?_)
  obtain ⟨sa, hsa⟩ := gkS hG 20 rfl
  exact vx_throwS (ik := 56) (is := 181) (ic := 60) (cls := "java/lang/IllegalStateException") (names := tXn) hx hb hns hown (by decide +kernel) (by decide +kernel) (hts _ mK_X5_56) (hts _ mN__java_lang_IllegalStateException_) hsa (vx_hat (fun w hw => hts w (thr_in60 w hw)) thr_bad60 (thr_B 3 hG rfl)) thr_ot60 hZ.1 hZ.2 va_S.rf (by rw [hml]; exact hl.1) dX5_addStrip_75 dX5_addStrip_78 dX5_addStrip_79 dX5_addStrip_81 dX5_addStrip_84 (fun x hx => (hne x hx).elim) (Nat.le_of_ble_eq_true rfl) (Nat.le_of_ble_eq_true rfl) (Nat.le_of_ble_eq_true rfl) (Nat.le_of_ble_eq_true rfl) hlk (XE.of rfl) (fun q hq => absurd hq List.not_mem_nil) (Nat.le_of_ble_eq_true rfl) (Nat.le_of_ble_eq_true rfl)
set_option maxHeartbeats 4000000 in
set_option maxRecDepth 100000 in
theorem c_addStrip (l : Launch) (D : va_G) {xo lc lt bo yo no : Nat} {ec nC c0 : Nat} {m1 : Int32} {cl : Nat → Nat} {ta : Nat} {len : Int32} {q : Nat → Nat} {et nS : Nat} {m2 : Int32} {sl : Nat → Nat} {x1 x2 x3 : Int32} (hz0 : Nat) (hnC : nC ≤ 6) (hc : c0 < nC) (h : (0 ≤ x1 ∧ x1 ≤ 5000) ∧ (1 ≤ x2 ∧ x2 ≤ 9) ∧ (0 ≤ x3 ∧ x3 ≤ 2)) (hnS : nS < 10) : Met l yX5_addStrip (ws_ yX5_addStrip cX5_addStrip 6 (some .int)) ({ frames := 6, cells := 1, slots := 13, locals := 166 } : Room) (va_Pc [.ref xo, .int (nI c0), .int x1, .int x2, .int x3] (SW D [oO xo 5 [.ref lc, .ref lt, .ref bo, .ref yo, .ref no], oO lc 7 [.int m1, .ref ec, .int (nI nC)], aO D ec 10 (lsF cl nC), oO (cl c0) 0 [.int len, .ref ta, .ref (q 0), .ref (q 1)], oO lt 7 [.int m2, .ref et, .int (nI nS)], aO D et 10 (lsF sl nS)] hz0)) (va_Qi (fun v _ => v = nI nS) (AT D (va_A [oO xo 5 [.ref lc, .ref lt, .ref bo, .ref yo, .ref no], oO lc 7 [.int m1, .ref ec, .int (nI nC)], aO D ec 10 (lsF cl nC), oO (cl c0) 0 [.int len, .ref ta, .ref (q 0), .ref (q 1)], oO lt 7 [.int m2, .ref et, .int (nI nS)], aO D et 10 (lsF sl nS)] hz0) (fun so : Nat => [oO xo 5 [.ref lc, .ref lt, .ref bo, .ref yo, .ref no], oO lc 7 [.int m1, .ref ec, .int (nI nC)], aO D ec 10 (lsF cl nC), oO (cl c0) 0 [.int len, .ref ta, .ref (q 0), .ref (q 1)], oO lt 7 [.int (m2 + 1), .ref et, .int (nI (nS + 1))], aO D et 10 (lsF (fun k => if k = nS then so else sl k) (nS + 1)), oO so 3 [.ref (cl c0), .int (nI c0), .int x1, .int x2, .int x3, .int 1, .int 1, .int 0, .int 100, .int 0, .int 0, .int 0, .int 0]])) (va_A [oO xo 5 [.ref lc, .ref lt, .ref bo, .ref yo, .ref no], oO lc 7 [.int m1, .ref ec, .int (nI nC)], aO D ec 10 (lsF cl nC), oO (cl c0) 0 [.int len, .ref ta, .ref (q 0), .ref (q 1)], oO lt 7 [.int m2, .ref et, .int (nI nS)], aO D et 10 (lsF sl nS)] hz0)) 1 13 (va_A [oO xo 5 [.ref lc, .ref lt, .ref bo, .ref yo, .ref no], oO lc 7 [.int m1, .ref ec, .int (nI nC)], aO D ec 10 (lsF cl nC), oO (cl c0) 0 [.int len, .ref ta, .ref (q 0), .ref (q 1)], oO lt 7 [.int m2, .ref et, .int (nI nS)], aO D et 10 (lsF sl nS)] hz0) := by
  refine Met.ofW (cc := cX5_addStrip) (maxL := 6) (ret := (some .int)) (by decide) rfl ?_
  intro p e s m args below meth c s₁ B hml hv
  obtain ⟨rfl, hsz, hG, hP, hD0⟩ := hv
  have hx := B.exec
  have hb := B.bytes
  have hr := B.returns
  have hts : ∀ w ∈ wsL_law, w.before _ s = true := fun w h => atoms_spec (ws := (ws_ yX5_addStrip cX5_addStrip 6 (some .int))) B.pre w (List.mem_cons_of_mem _ h)
  have hown : s.vm.findClass RX5 = some m.cls := findClass_of_methodNamed B.named
  have hlk := B.notSynchronized
  have hC : CallFix p m c cX5_addStrip 6 s _ wsL_law RX5 := ⟨hx, hb, hml, hown, hts⟩
  subst hsz
  have hD := hD0.self (sz := s.heap.size)
  generalize hAe : va_A [oO xo 5 [.ref lc, .ref lt, .ref bo, .ref yo, .ref no], oO lc 7 [.int m1, .ref ec, .int (nI nC)], aO D ec 10 (lsF cl nC), oO (cl c0) 0 [.int len, .ref ta, .ref (q 0), .ref (q 1)], oO lt 7 [.int m2, .ref et, .int (nI nS)], aO D et 10 (lsF sl nS)] s.heap.size = A at hD ⊢
  have hA : ∀ q : Nat, s.heap.size ≤ q → A q := fun q h => by rw [← hAe]; exact Or.inr h
  have hS : va_S A s.heap s.heap [] := va_S.rf
  obtain ⟨H, hHe⟩ : ∃ H, H = s.heap := ⟨_, rfl⟩
  rw [← hHe] at hP
  have hS : va_S A s.heap H [] := by rw [hHe]; exact hS
  have hl := lv_entry ([.ref xo, .int (nI c0), .int x1, .int x2, .int x3]) (n := 6) (Nat.le_of_ble_eq_true rfl)
  rw [lg_entry_eq]
  generalize (lg_sl ([.ref xo, .int (nI c0), .int x1, .int x2, .int x3]) ++ List.replicate (6 - (lg_sl ([.ref xo, .int (nI c0), .int x1, .int x2, .int x3])).length) Slot.unset).toArray = ls at hl ⊢
  have hl : lv_has ls 6 [(0, .ref xo), (1, .int (nI c0)), (2, .int x1), (3, .int x2), (4, .int x3)] := hl
  rw [← hHe]
  refine lv_aload_n hx hb dX5_addStrip_0 rfl (lv_at hl 0 rfl) ?_
  refine lv_iload_n hx hb dX5_addStrip_1 rfl (lv_at hl 1 rfl) ?_
  have hP9 := hP.sub (ws' := [oO xo 5 [.ref lc, .ref lt, .ref bo, .ref yo, .ref no], oO lc 7 [.int m1, .ref ec, .int (nI nC)], aO D ec 10 (lsF cl nC), oO (cl c0) 0 [.int len, .ref ta, .ref (q 0), .ref (q 1)]]) [0, 1, 2, 3] rfl
  refine va_csq (pV (rest := []) (qc := (RX5, TX5, 5)) [.int (nI c0)] 1 hC (c_clipOrNull l D (xo := xo) (c0 := c0) (lc := lc) (lt := lt) (bo := bo) (yo := yo) (no := no) (m1 := m1) (ec := ec) (nC := nC) (len := len) (ta := ta) (by omega) (by omega)) rfl (hP 0 _ rfl) (gV mM_X5_68 mI_X5_clipOrNull mS_X5_clipOrNull mN_X5 mC_X5_clipOrNull) (by decide +kernel) rfl rfl ⟨Nat.le_of_ble_eq_true rfl, Nat.le_of_ble_eq_true rfl⟩ hG hP9 rfl hl.1 rfl (Nat.le_of_ble_eq_true rfl) dX5_addStrip_2 ⟨Nat.le_of_ble_eq_true rfl, Nat.le_of_ble_eq_true rfl⟩) (fun r2 h2 => ?_)
  obtain rfl : r2 = (some (cl c0)) := h2
  refine tpv (y := .ref (cl c0)) rfl ?_
  refine lv_astore (lv' := [(5, .ref (cl c0)), (0, .ref xo), (1, .int (nI c0)), (2, .int x1), (3, .int x2), (4, .int x3)]) hx hb dX5_addStrip_5 hl (by decide) rfl (fun ls hl => ?_)
  refine lv_aload hx hb dX5_addStrip_7 (lv_at hl 0 rfl) ?_
  refine lv_ifnonnull (tgt := 22) hx hb dX5_addStrip_9 (by decide) ?_
  refine lv_iload_n hx hb dX5_addStrip_22 rfl (lv_at hl 3 rfl) ?_
  refine lv_iconst (v := 0) hx hb dX5_addStrip_23 (by decide) ?_
  refine lv_sipush (v := 5000) hx hb dX5_addStrip_24 (by decide) ?_
  have hP9 : va_P D cls [] H := fun k q h => by simp at h
  refine vp_callSi (pS (rest := []) [.int x1, .int 0, .int 5000] 3 hC (c_isIn l D (x := x1) (a := 0) (b := 5000) ) (gS mM_X5_41 mT_X5_isIn mN_X5 mC_X5_isIn) (by decide +kernel) rfl rfl ⟨Nat.le_of_ble_eq_true rfl, Nat.le_of_ble_eq_true rfl⟩ hG hP9 rfl hl.1 rfl (Nat.le_of_ble_eq_true rfl) dX5_addStrip_27 ⟨Nat.le_of_ble_eq_true rfl, Nat.le_of_ble_eq_true rfl⟩) (fun r27 h27 => ?_)
  rcases h27 with ⟨rfl, hb27⟩ | ⟨rfl, hb27⟩
  rotate_left
  · exact absurd (h.1) hb27
  refine lv_if_eq (tgt := 53) hx hb dX5_addStrip_30 (by decide) (fun h9 => absurd h9 (by decide)) (fun _ => ?_)
  refine lv_iload_n hx hb dX5_addStrip_33 rfl (lv_at hl 4 rfl) ?_
  refine lv_iconst (v := 1) hx hb dX5_addStrip_34 (by decide) ?_
  refine lv_bipush (v := 9) hx hb dX5_addStrip_35 (by decide) ?_
  have hP9 : va_P D cls [] H := fun k q h => by simp at h
  refine vp_callSi (pS (rest := []) [.int x2, .int 1, .int 9] 3 hC (c_isIn l D (x := x2) (a := 1) (b := 9) ) (gS mM_X5_41 mT_X5_isIn mN_X5 mC_X5_isIn) (by decide +kernel) rfl rfl ⟨Nat.le_of_ble_eq_true rfl, Nat.le_of_ble_eq_true rfl⟩ hG hP9 rfl hl.1 rfl (Nat.le_of_ble_eq_true rfl) dX5_addStrip_37 ⟨Nat.le_of_ble_eq_true rfl, Nat.le_of_ble_eq_true rfl⟩) (fun r37 h37 => ?_)
  rcases h37 with ⟨rfl, hb37⟩ | ⟨rfl, hb37⟩
  rotate_left
  · exact absurd (h.2.1) hb37
  refine lv_if_eq (tgt := 53) hx hb dX5_addStrip_40 (by decide) (fun h9 => absurd h9 (by decide)) (fun _ => ?_)
  refine lv_iload hx hb dX5_addStrip_43 (lv_at hl 5 rfl) ?_
  refine lv_iconst (v := 0) hx hb dX5_addStrip_45 (by decide) ?_
  refine lv_iconst (v := 2) hx hb dX5_addStrip_46 (by decide) ?_
  have hP9 : va_P D cls [] H := fun k q h => by simp at h
  refine vp_callSi (pS (rest := []) [.int x3, .int 0, .int 2] 3 hC (c_isIn l D (x := x3) (a := 0) (b := 2) ) (gS mM_X5_41 mT_X5_isIn mN_X5 mC_X5_isIn) (by decide +kernel) rfl rfl ⟨Nat.le_of_ble_eq_true rfl, Nat.le_of_ble_eq_true rfl⟩ hG hP9 rfl hl.1 rfl (Nat.le_of_ble_eq_true rfl) dX5_addStrip_47 ⟨Nat.le_of_ble_eq_true rfl, Nat.le_of_ble_eq_true rfl⟩) (fun r47 h47 => ?_)
  rcases h47 with ⟨rfl, hb47⟩ | ⟨rfl, hb47⟩
  rotate_left
  · exact absurd (h.2.2) hb47
  refine lv_if_ne (tgt := 63) hx hb dX5_addStrip_50 (by decide) (fun _ => ?_) (fun h9 => absurd h9 (by decide))
  refine lv_aload_n hx hb dX5_addStrip_63 rfl (lv_at hl 1 rfl) ?_
  refine va_get (D := D) (ci := 5) (v := .ref lt) (C := RX5) (T := TX5) (N := 5) hx hb hts inlX5 hown hG.K hP 0 rfl rfl 1 (by decide) (hts _ mF_X5_16) (fun _ h9 => h9) rfl dX5_addStrip_64 ?_
  have hP9 := hP.sub (ws' := [oO lt 7 [.int m2, .ref et, .int (nI nS)]]) [4] rfl
  refine vp_callSi (pV (rest := []) (qc := (RJx4a65c, TJx4a65c, 3)) [] 0 hC (c_list_size l D (lo := lt) (mc := m2) (ea := et) (n := nS) ) rfl (hP 4 _ rfl) (gV mM_X5_52 mI_Jx4a65c_size_8abf5 mS_Jx4a65c_size_8abf5 mN_Jx4a65c mC_Jx4a65c_size_8abf5) (by decide +kernel) rfl rfl ⟨Nat.le_of_ble_eq_true rfl, Nat.le_of_ble_eq_true rfl⟩ hG hP9 rfl hl.1 rfl (Nat.le_of_ble_eq_true rfl) dX5_addStrip_67 ⟨Nat.le_of_ble_eq_true rfl, Nat.le_of_ble_eq_true rfl⟩) (fun r67 h67 => ?_)
  obtain rfl : r67 = (nI nS) := h67
  refine lv_bipush (v := 10) hx hb dX5_addStrip_70 (by decide) ?_
  refine lv_icmp_lt (tgt := 85) hx hb dX5_addStrip_72 (by decide) (fun _ => ?_) (fun h9 => absurd ((nI_ltI (a := nS) (b := 10) (by omega) (by omega)).mpr (by omega)) h9)
  refine lv_aload_n hx hb dX5_addStrip_85 rfl (lv_at hl 1 rfl) ?_
  refine va_get (D := D) (ci := 5) (v := .ref lt) (C := RX5) (T := TX5) (N := 5) hx hb hts inlX5 hown hG.K hP 0 rfl rfl 1 (by decide) (hts _ mF_X5_16) (fun _ h9 => h9) rfl dX5_addStrip_86 ?_
  refine va_new (ci := 3) (fs := [.null, .int 0, .int 0, .int 0, .int 0, .int 0, .int 0, .int 0, .int 0, .int 0, .int 0, .int 0, .int 0]) (C := RX3) (T := TX3) (N := 13) hx hb hts inlX3 tyX3 tyX3_ok hown (hts _ mK_X5_183) (hts _ mB_X3) (hts _ mN_X3) hG.K hP hD hS hA rfl (fun j hj => by rcases (show j = 0 ∨ j = 1 ∨ j = 2 ∨ j = 3 ∨ j = 4 ∨ j = 5 ∨ j = 6 ∨ j = 7 ∨ j = 8 ∨ j = 9 ∨ j = 10 ∨ j = 11 ∨ j = 12 by omega) with rfl | rfl | rfl | rfl | rfl | rfl | rfl | rfl | rfl | rfl | rfl | rfl | rfl <;> rfl) (Nat.le_of_ble_eq_true rfl) (Nat.le_of_ble_eq_true rfl) dX5_addStrip_89 (fun so H hP hD hS => ?_)
  have hP : va_P D cls [oO xo 5 [.ref lc, .ref lt, .ref bo, .ref yo, .ref no], oO lc 7 [.int m1, .ref ec, .int (nI nC)], aO D ec 10 (lsF cl nC), oO (cl c0) 0 [.int len, .ref ta, .ref (q 0), .ref (q 1)], oO lt 7 [.int m2, .ref et, .int (nI nS)], aO D et 10 (lsF sl nS), oO so 3 [.null, .int 0, .int 0, .int 0, .int 0, .int 0, .int 0, .int 0, .int 0, .int 0, .int 0, .int 0, .int 0]] H := hP
  have hD : va_D A [oO xo 5 [.ref lc, .ref lt, .ref bo, .ref yo, .ref no], oO lc 7 [.int m1, .ref ec, .int (nI nC)], aO D ec 10 (lsF cl nC), oO (cl c0) 0 [.int len, .ref ta, .ref (q 0), .ref (q 1)], oO lt 7 [.int m2, .ref et, .int (nI nS)], aO D et 10 (lsF sl nS), oO so 3 [.null, .int 0, .int 0, .int 0, .int 0, .int 0, .int 0, .int 0, .int 0, .int 0, .int 0, .int 0, .int 0]] := hD
  refine lv_dup hx hb dX5_addStrip_92 rfl ?_
  refine lv_aload hx hb dX5_addStrip_93 (lv_at hl 0 rfl) ?_
  refine lv_iload_n hx hb dX5_addStrip_95 rfl (lv_at hl 2 rfl) ?_
  refine lv_iload_n hx hb dX5_addStrip_96 rfl (lv_at hl 3 rfl) ?_
  refine lv_iload_n hx hb dX5_addStrip_97 rfl (lv_at hl 4 rfl) ?_
  refine lv_iload hx hb dX5_addStrip_98 (lv_at hl 5 rfl) ?_
  have hP9 := hP.sub (ws' := [oO so 3 [.null, .int 0, .int 0, .int 0, .int 0, .int 0, .int 0, .int 0, .int 0, .int 0, .int 0, .int 0, .int 0]]) [6] rfl
  have hD9 := (hD.sub (ws' := [oO so 3 [.null, .int 0, .int 0, .int 0, .int 0, .int 0, .int 0, .int 0, .int 0, .int 0, .int 0, .int 0, .int 0]]) [6] (by decide) rfl).weaken (B := fun _ => True) (fun _ _ _ _ => trivial)
  refine kv (wr := [oO xo 5 [.ref lc, .ref lt, .ref bo, .ref yo, .ref no], oO lc 7 [.int m1, .ref ec, .int (nI nC)], aO D ec 10 (lsF cl nC), oO (cl c0) 0 [.int len, .ref ta, .ref (q 0), .ref (q 1)], oO lt 7 [.int m2, .ref et, .int (nI nS)], aO D et 10 (lsF sl nS)]) (rI (rest := [.ref so, .ref lt]) [.ref (cl c0), .int (nI c0), .int x1, .int x2, .int x3] 5 0 0 hC (c_Strip_init l D (so := so) (co := cl c0) (x0 := nI c0) (x1 := x1) (x2 := x2) (x3 := x3) (hz0 := H.size) ) mM_X5_185 mI_X3_init mN_X3 mC_X3_init rfl (by decide +kernel) rfl rfl ⟨Nat.le_of_ble_eq_true rfl, Nat.le_of_ble_eq_true rfl⟩ hG hP9 hD9 rfl hl.1 rfl (Nat.le_of_ble_eq_true rfl) dX5_addStrip_100 ⟨Nat.le_of_ble_eq_true rfl, Nat.le_of_ble_eq_true rfl⟩) hP hD hS hA [6] [0, 1, 2, 3, 4, 5] rfl rfl (by decide) (by decide) (fun u100 H locs h100 hP hD hS hz hfr => ?_)
  have hP : va_P D cls [oO xo 5 [.ref lc, .ref lt, .ref bo, .ref yo, .ref no], oO lc 7 [.int m1, .ref ec, .int (nI nC)], aO D ec 10 (lsF cl nC), oO (cl c0) 0 [.int len, .ref ta, .ref (q 0), .ref (q 1)], oO lt 7 [.int m2, .ref et, .int (nI nS)], aO D et 10 (lsF sl nS), oO so 3 [.ref (cl c0), .int (nI c0), .int x1, .int x2, .int x3, .int 1, .int 1, .int 0, .int 100, .int 0, .int 0, .int 0, .int 0]] H := hP
  have hD : va_D A [oO xo 5 [.ref lc, .ref lt, .ref bo, .ref yo, .ref no], oO lc 7 [.int m1, .ref ec, .int (nI nC)], aO D ec 10 (lsF cl nC), oO (cl c0) 0 [.int len, .ref ta, .ref (q 0), .ref (q 1)], oO lt 7 [.int m2, .ref et, .int (nI nS)], aO D et 10 (lsF sl nS), oO so 3 [.ref (cl c0), .int (nI c0), .int x1, .int x2, .int x3, .int 1, .int 1, .int 0, .int 100, .int 0, .int 0, .int 0, .int 0]] := hD
  have hP9 := hP.sub (ws' := [oO lt 7 [.int m2, .ref et, .int (nI nS)], aO D et 10 (lsF sl nS), oO so 3 [.ref (cl c0), .int (nI c0), .int x1, .int x2, .int x3, .int 1, .int 1, .int 0, .int 100, .int 0, .int 0, .int 0, .int 0]]) [4, 5, 6] rfl
  have hD9 := (hD.sub (ws' := [oO lt 7 [.int m2, .ref et, .int (nI nS)], aO D et 10 (lsF sl nS), oO so 3 [.ref (cl c0), .int (nI c0), .int x1, .int x2, .int x3, .int 1, .int 1, .int 0, .int 100, .int 0, .int 0, .int 0, .int 0]]) [4, 5, 6] (by decide) rfl).weaken (B := fun _ => True) (fun _ _ _ _ => trivial)
  refine ki (wr := [oO xo 5 [.ref lc, .ref lt, .ref bo, .ref yo, .ref no], oO lc 7 [.int m1, .ref ec, .int (nI nC)], aO D ec 10 (lsF cl nC), oO (cl c0) 0 [.int len, .ref ta, .ref (q 0), .ref (q 1)]]) (rV (rest := []) (qc := (RJx4a65c, TJx4a65c, 3)) [.ref so] 1 0 0 hC (c_add_Strip l D (lo := lt) (vo := so) (mc := m2) (ea := et) (n := nS) (k := 10) (f := lsF sl nS) (v0 := .ref (cl c0)) (v1 := .int (nI c0)) (v2 := .int x1) (v3 := .int x2) (v4 := .int x3) (v5 := .int 1) (v6 := .int 1) (v7 := .int 0) (v8 := .int 100) (v9 := .int 0) (v10 := .int 0) (v11 := .int 0) (v12 := .int 0) (hz0 := H.size) (by omega) (by omega)) rfl (hP 4 _ rfl) (gV mM_X5_64 mI_Jx4a65c_add_9ea2d mS_Jx4a65c_add_9ea2d mN_Jx4a65c mC_Jx4a65c_add_9ea2d) (by decide +kernel) rfl rfl ⟨Nat.le_of_ble_eq_true rfl, Nat.le_of_ble_eq_true rfl⟩ hG hP9 hD9 rfl hl.1 rfl (Nat.le_of_ble_eq_true rfl) dX5_addStrip_103 ⟨Nat.le_of_ble_eq_true rfl, Nat.le_of_ble_eq_true rfl⟩) hP hD hS hA [4, 5, 6] [0, 1, 2, 3] rfl rfl (by decide) (by decide) (fun r103 u103 H locs h103 hP hD hS hz hfr => ?_)
  have hP : va_P D cls [oO xo 5 [.ref lc, .ref lt, .ref bo, .ref yo, .ref no], oO lc 7 [.int m1, .ref ec, .int (nI nC)], aO D ec 10 (lsF cl nC), oO (cl c0) 0 [.int len, .ref ta, .ref (q 0), .ref (q 1)], oO lt 7 [.int (m2 + 1), .ref et, .int (nI (nS + 1))], aO D et 10 (va_up (lsF sl nS) nS (some so)), oO so 3 [(.ref (cl c0)), (.int (nI c0)), (.int x1), (.int x2), (.int x3), (.int 1), (.int 1), (.int 0), (.int 100), (.int 0), (.int 0), (.int 0), (.int 0)]] H := hP
  have hD : va_D A [oO xo 5 [.ref lc, .ref lt, .ref bo, .ref yo, .ref no], oO lc 7 [.int m1, .ref ec, .int (nI nC)], aO D ec 10 (lsF cl nC), oO (cl c0) 0 [.int len, .ref ta, .ref (q 0), .ref (q 1)], oO lt 7 [.int (m2 + 1), .ref et, .int (nI (nS + 1))], aO D et 10 (va_up (lsF sl nS) nS (some so)), oO so 3 [(.ref (cl c0)), (.int (nI c0)), (.int x1), (.int x2), (.int x3), (.int 1), (.int 1), (.int 0), (.int 100), (.int 0), (.int 0), (.int 0), (.int 0)]] := hD
  subst h103
  refine lv_pop hx hb dX5_addStrip_106 rfl ?_
  have hcv1 : (lsF (fun k => if k = nS then so else sl k) (nS + 1)) = (va_up (lsF sl nS) nS (some so)) := (lsF_add sl nS so).symm
  have hP := Eq.mpr (congrArg (fun z9 => va_P D cls [oO xo 5 [.ref lc, .ref lt, .ref bo, .ref yo, .ref no], oO lc 7 [.int m1, .ref ec, .int (nI nC)], aO D ec 10 (lsF cl nC), oO (cl c0) 0 [.int len, .ref ta, .ref (q 0), .ref (q 1)], oO lt 7 [.int (m2 + 1), .ref et, .int (nI (nS + 1))], aO D et 10 z9, oO so 3 [(.ref (cl c0)), (.int (nI c0)), (.int x1), (.int x2), (.int x3), (.int 1), (.int 1), (.int 0), (.int 100), (.int 0), (.int 0), (.int 0), (.int 0)]] H) hcv1) hP
  have hD := Eq.mpr (congrArg (fun z9 => va_D A [oO xo 5 [.ref lc, .ref lt, .ref bo, .ref yo, .ref no], oO lc 7 [.int m1, .ref ec, .int (nI nC)], aO D ec 10 (lsF cl nC), oO (cl c0) 0 [.int len, .ref ta, .ref (q 0), .ref (q 1)], oO lt 7 [.int (m2 + 1), .ref et, .int (nI (nS + 1))], aO D et 10 z9, oO so 3 [(.ref (cl c0)), (.int (nI c0)), (.int x1), (.int x2), (.int x3), (.int 1), (.int 1), (.int 0), (.int 100), (.int 0), (.int 0), (.int 0), (.int 0)]]) hcv1) hD
  have hP : va_P D cls [oO xo 5 [.ref lc, .ref lt, .ref bo, .ref yo, .ref no], oO lc 7 [.int m1, .ref ec, .int (nI nC)], aO D ec 10 (lsF cl nC), oO (cl c0) 0 [.int len, .ref ta, .ref (q 0), .ref (q 1)], oO lt 7 [.int (m2 + 1), .ref et, .int (nI (nS + 1))], aO D et 10 (lsF (fun k => if k = nS then so else sl k) (nS + 1)), oO so 3 [(.ref (cl c0)), (.int (nI c0)), (.int x1), (.int x2), (.int x3), (.int 1), (.int 1), (.int 0), (.int 100), (.int 0), (.int 0), (.int 0), (.int 0)]] H := hP
  have hD : va_D A [oO xo 5 [.ref lc, .ref lt, .ref bo, .ref yo, .ref no], oO lc 7 [.int m1, .ref ec, .int (nI nC)], aO D ec 10 (lsF cl nC), oO (cl c0) 0 [.int len, .ref ta, .ref (q 0), .ref (q 1)], oO lt 7 [.int (m2 + 1), .ref et, .int (nI (nS + 1))], aO D et 10 (lsF (fun k => if k = nS then so else sl k) (nS + 1)), oO so 3 [(.ref (cl c0)), (.int (nI c0)), (.int x1), (.int x2), (.int x3), (.int 1), (.int 1), (.int 0), (.int 100), (.int 0), (.int 0), (.int 0), (.int 0)]] := hD
  refine lv_aload_n hx hb dX5_addStrip_107 rfl (lv_at hl 1 rfl) ?_
  refine va_get (D := D) (ci := 5) (v := .ref lt) (C := RX5) (T := TX5) (N := 5) hx hb hts inlX5 hown hG.K hP 0 rfl rfl 1 (by decide) (hts _ mF_X5_16) (fun _ h9 => h9) rfl dX5_addStrip_108 ?_
  have hP9 := hP.sub (ws' := [oO lt 7 [.int (m2 + 1), .ref et, .int (nI (nS + 1))]]) [4] rfl
  refine vp_callSi (pV (rest := []) (qc := (RJx4a65c, TJx4a65c, 3)) [] 0 hC (c_list_size l D (lo := lt) (mc := m2 + 1) (ea := et) (n := nS + 1) ) rfl (hP 4 _ rfl) (gV mM_X5_52 mI_Jx4a65c_size_8abf5 mS_Jx4a65c_size_8abf5 mN_Jx4a65c mC_Jx4a65c_size_8abf5) (by decide +kernel) rfl rfl ⟨Nat.le_of_ble_eq_true rfl, Nat.le_of_ble_eq_true rfl⟩ hG hP9 rfl hl.1 rfl (Nat.le_of_ble_eq_true rfl) dX5_addStrip_111 ⟨Nat.le_of_ble_eq_true rfl, Nat.le_of_ble_eq_true rfl⟩) (fun r111 h111 => ?_)
  obtain rfl : r111 = (nI (nS + 1)) := h111
  refine lv_iconst (v := 1) hx hb dX5_addStrip_114 (by decide) ?_
  refine lv_isub hx hb dX5_addStrip_115 ?_
  refine tpi (y := nI nS) (pk_sub (a := nS + 1) (b := 1) (by omega)) ?_
  refine Wi so hx hb hr hlk ?_ hP hD hS (Nat.le_of_ble_eq_true rfl) (by first | exact Nat.le_of_ble_eq_true rfl | exact Nat.le_of_eq (Nat.zero_add _)) dX5_addStrip_116
  exact rfl
set_option maxHeartbeats 4000000 in
set_option maxRecDepth 100000 in
theorem c_addStrip_first (l : Launch) (D : va_G) {xo lc lt bo yo no : Nat} {ec nC c0 : Nat} {m1 : Int32} {cl : Nat → Nat} {ta : Nat} {len : Int32} {q : Nat → Nat} {z : Nat} {m2 : Int32} {x1 x2 x3 : Int32} (hz0 : Nat) (hnC : nC ≤ 6) (hc : c0 < nC) (h : (0 ≤ x1 ∧ x1 ≤ 5000) ∧ (1 ≤ x2 ∧ x2 ≤ 9) ∧ (0 ≤ x3 ∧ x3 ≤ 2)) : Met l yX5_addStrip (ws_ yX5_addStrip cX5_addStrip 6 (some .int)) ({ frames := 6, cells := 2, slots := 23, locals := 166 } : Room) (va_Pc [.ref xo, .int (nI c0), .int x1, .int x2, .int x3] (SX D [oO xo 5 [.ref lc, .ref lt, .ref bo, .ref yo, .ref no], oO lc 7 [.int m1, .ref ec, .int (nI nC)], aO D ec 10 (lsF cl nC), oO (cl c0) 0 [.int len, .ref ta, .ref (q 0), .ref (q 1)], oO lt 7 [.int m2, .ref z, .int (nI 0)]] hz0 (ZL z (va_A [oO xo 5 [.ref lc, .ref lt, .ref bo, .ref yo, .ref no], oO lc 7 [.int m1, .ref ec, .int (nI nC)], aO D ec 10 (lsF cl nC), oO (cl c0) 0 [.int len, .ref ta, .ref (q 0), .ref (q 1)], oO lt 7 [.int m2, .ref z, .int (nI 0)]] hz0)))) (va_Qi (fun v _ => v = nI 0) (AT D (va_A [oO xo 5 [.ref lc, .ref lt, .ref bo, .ref yo, .ref no], oO lc 7 [.int m1, .ref ec, .int (nI nC)], aO D ec 10 (lsF cl nC), oO (cl c0) 0 [.int len, .ref ta, .ref (q 0), .ref (q 1)], oO lt 7 [.int m2, .ref z, .int (nI 0)]] hz0) (fun ((et, so) : Nat × Nat) => [oO xo 5 [.ref lc, .ref lt, .ref bo, .ref yo, .ref no], oO lc 7 [.int m1, .ref ec, .int (nI nC)], aO D ec 10 (lsF cl nC), oO (cl c0) 0 [.int len, .ref ta, .ref (q 0), .ref (q 1)], oO lt 7 [.int (m2 + 1), .ref et, .int (nI 1)], aO D et 10 (lsF (fun _ => so) 1), oO so 3 [.ref (cl c0), .int (nI c0), .int x1, .int x2, .int x3, .int 1, .int 1, .int 0, .int 100, .int 0, .int 0, .int 0, .int 0]])) (va_A [oO xo 5 [.ref lc, .ref lt, .ref bo, .ref yo, .ref no], oO lc 7 [.int m1, .ref ec, .int (nI nC)], aO D ec 10 (lsF cl nC), oO (cl c0) 0 [.int len, .ref ta, .ref (q 0), .ref (q 1)], oO lt 7 [.int m2, .ref z, .int (nI 0)]] hz0)) 2 23 (va_A [oO xo 5 [.ref lc, .ref lt, .ref bo, .ref yo, .ref no], oO lc 7 [.int m1, .ref ec, .int (nI nC)], aO D ec 10 (lsF cl nC), oO (cl c0) 0 [.int len, .ref ta, .ref (q 0), .ref (q 1)], oO lt 7 [.int m2, .ref z, .int (nI 0)]] hz0) := by
  refine Met.ofW (cc := cX5_addStrip) (maxL := 6) (ret := (some .int)) (by decide) rfl ?_
  intro p e s m args below meth c s₁ B hml hv
  obtain ⟨rfl, ⟨hsz, hG, hP, hD0⟩, hX⟩ := hv
  have hx := B.exec
  have hb := B.bytes
  have hr := B.returns
  have hts : ∀ w ∈ wsL_law, w.before _ s = true := fun w h => atoms_spec (ws := (ws_ yX5_addStrip cX5_addStrip 6 (some .int))) B.pre w (List.mem_cons_of_mem _ h)
  have hown : s.vm.findClass RX5 = some m.cls := findClass_of_methodNamed B.named
  have hlk := B.notSynchronized
  have hC : CallFix p m c cX5_addStrip 6 s _ wsL_law RX5 := ⟨hx, hb, hml, hown, hts⟩
  subst hsz
  have hD := hD0.self (sz := s.heap.size)
  generalize hAe : va_A [oO xo 5 [.ref lc, .ref lt, .ref bo, .ref yo, .ref no], oO lc 7 [.int m1, .ref ec, .int (nI nC)], aO D ec 10 (lsF cl nC), oO (cl c0) 0 [.int len, .ref ta, .ref (q 0), .ref (q 1)], oO lt 7 [.int m2, .ref z, .int (nI 0)]] s.heap.size = A at hD hX ⊢
  have hA : ∀ q : Nat, s.heap.size ≤ q → A q := fun q h => by rw [← hAe]; exact Or.inr h
  have hS : va_S A s.heap s.heap [] := va_S.rf
  obtain ⟨H, hHe⟩ : ∃ H, H = s.heap := ⟨_, rfl⟩
  rw [← hHe] at hP
  have hS : va_S A s.heap H [] := by rw [hHe]; exact hS
  have hl := lv_entry ([.ref xo, .int (nI c0), .int x1, .int x2, .int x3]) (n := 6) (Nat.le_of_ble_eq_true rfl)
  rw [lg_entry_eq]
  generalize (lg_sl ([.ref xo, .int (nI c0), .int x1, .int x2, .int x3]) ++ List.replicate (6 - (lg_sl ([.ref xo, .int (nI c0), .int x1, .int x2, .int x3])).length) Slot.unset).toArray = ls at hl ⊢
  have hl : lv_has ls 6 [(0, .ref xo), (1, .int (nI c0)), (2, .int x1), (3, .int x2), (4, .int x3)] := hl
  rw [← hHe]
  refine lv_aload_n hx hb dX5_addStrip_0 rfl (lv_at hl 0 rfl) ?_
  refine lv_iload_n hx hb dX5_addStrip_1 rfl (lv_at hl 1 rfl) ?_
  have hP9 := hP.sub (ws' := [oO xo 5 [.ref lc, .ref lt, .ref bo, .ref yo, .ref no], oO lc 7 [.int m1, .ref ec, .int (nI nC)], aO D ec 10 (lsF cl nC), oO (cl c0) 0 [.int len, .ref ta, .ref (q 0), .ref (q 1)]]) [0, 1, 2, 3] rfl
  refine va_csq (pV (rest := []) (qc := (RX5, TX5, 5)) [.int (nI c0)] 1 hC (c_clipOrNull l D (xo := xo) (c0 := c0) (lc := lc) (lt := lt) (bo := bo) (yo := yo) (no := no) (m1 := m1) (ec := ec) (nC := nC) (len := len) (ta := ta) (by omega) (by omega)) rfl (hP 0 _ rfl) (gV mM_X5_68 mI_X5_clipOrNull mS_X5_clipOrNull mN_X5 mC_X5_clipOrNull) (by decide +kernel) rfl rfl ⟨Nat.le_of_ble_eq_true rfl, Nat.le_of_ble_eq_true rfl⟩ hG hP9 rfl hl.1 rfl (Nat.le_of_ble_eq_true rfl) dX5_addStrip_2 ⟨Nat.le_of_ble_eq_true rfl, Nat.le_of_ble_eq_true rfl⟩) (fun r2 h2 => ?_)
  obtain rfl : r2 = (some (cl c0)) := h2
  refine tpv (y := .ref (cl c0)) rfl ?_
  refine lv_astore (lv' := [(5, .ref (cl c0)), (0, .ref xo), (1, .int (nI c0)), (2, .int x1), (3, .int x2), (4, .int x3)]) hx hb dX5_addStrip_5 hl (by decide) rfl (fun ls hl => ?_)
  refine lv_aload hx hb dX5_addStrip_7 (lv_at hl 0 rfl) ?_
  refine lv_ifnonnull (tgt := 22) hx hb dX5_addStrip_9 (by decide) ?_
  refine lv_iload_n hx hb dX5_addStrip_22 rfl (lv_at hl 3 rfl) ?_
  refine lv_iconst (v := 0) hx hb dX5_addStrip_23 (by decide) ?_
  refine lv_sipush (v := 5000) hx hb dX5_addStrip_24 (by decide) ?_
  have hP9 : va_P D cls [] H := fun k q h => by simp at h
  refine vp_callSi (pS (rest := []) [.int x1, .int 0, .int 5000] 3 hC (c_isIn l D (x := x1) (a := 0) (b := 5000) ) (gS mM_X5_41 mT_X5_isIn mN_X5 mC_X5_isIn) (by decide +kernel) rfl rfl ⟨Nat.le_of_ble_eq_true rfl, Nat.le_of_ble_eq_true rfl⟩ hG hP9 rfl hl.1 rfl (Nat.le_of_ble_eq_true rfl) dX5_addStrip_27 ⟨Nat.le_of_ble_eq_true rfl, Nat.le_of_ble_eq_true rfl⟩) (fun r27 h27 => ?_)
  rcases h27 with ⟨rfl, hb27⟩ | ⟨rfl, hb27⟩
  rotate_left
  · exact absurd (h.1) hb27
  refine lv_if_eq (tgt := 53) hx hb dX5_addStrip_30 (by decide) (fun h9 => absurd h9 (by decide)) (fun _ => ?_)
  refine lv_iload_n hx hb dX5_addStrip_33 rfl (lv_at hl 4 rfl) ?_
  refine lv_iconst (v := 1) hx hb dX5_addStrip_34 (by decide) ?_
  refine lv_bipush (v := 9) hx hb dX5_addStrip_35 (by decide) ?_
  have hP9 : va_P D cls [] H := fun k q h => by simp at h
  refine vp_callSi (pS (rest := []) [.int x2, .int 1, .int 9] 3 hC (c_isIn l D (x := x2) (a := 1) (b := 9) ) (gS mM_X5_41 mT_X5_isIn mN_X5 mC_X5_isIn) (by decide +kernel) rfl rfl ⟨Nat.le_of_ble_eq_true rfl, Nat.le_of_ble_eq_true rfl⟩ hG hP9 rfl hl.1 rfl (Nat.le_of_ble_eq_true rfl) dX5_addStrip_37 ⟨Nat.le_of_ble_eq_true rfl, Nat.le_of_ble_eq_true rfl⟩) (fun r37 h37 => ?_)
  rcases h37 with ⟨rfl, hb37⟩ | ⟨rfl, hb37⟩
  rotate_left
  · exact absurd (h.2.1) hb37
  refine lv_if_eq (tgt := 53) hx hb dX5_addStrip_40 (by decide) (fun h9 => absurd h9 (by decide)) (fun _ => ?_)
  refine lv_iload hx hb dX5_addStrip_43 (lv_at hl 5 rfl) ?_
  refine lv_iconst (v := 0) hx hb dX5_addStrip_45 (by decide) ?_
  refine lv_iconst (v := 2) hx hb dX5_addStrip_46 (by decide) ?_
  have hP9 : va_P D cls [] H := fun k q h => by simp at h
  refine vp_callSi (pS (rest := []) [.int x3, .int 0, .int 2] 3 hC (c_isIn l D (x := x3) (a := 0) (b := 2) ) (gS mM_X5_41 mT_X5_isIn mN_X5 mC_X5_isIn) (by decide +kernel) rfl rfl ⟨Nat.le_of_ble_eq_true rfl, Nat.le_of_ble_eq_true rfl⟩ hG hP9 rfl hl.1 rfl (Nat.le_of_ble_eq_true rfl) dX5_addStrip_47 ⟨Nat.le_of_ble_eq_true rfl, Nat.le_of_ble_eq_true rfl⟩) (fun r47 h47 => ?_)
  rcases h47 with ⟨rfl, hb47⟩ | ⟨rfl, hb47⟩
  rotate_left
  · exact absurd (h.2.2) hb47
  refine lv_if_ne (tgt := 63) hx hb dX5_addStrip_50 (by decide) (fun _ => ?_) (fun h9 => absurd h9 (by decide))
  refine lv_aload_n hx hb dX5_addStrip_63 rfl (lv_at hl 1 rfl) ?_
  refine va_get (D := D) (ci := 5) (v := .ref lt) (C := RX5) (T := TX5) (N := 5) hx hb hts inlX5 hown hG.K hP 0 rfl rfl 1 (by decide) (hts _ mF_X5_16) (fun _ h9 => h9) rfl dX5_addStrip_64 ?_
  have hP9 := hP.sub (ws' := [oO lt 7 [.int m2, .ref z, .int (nI 0)]]) [4] rfl
  refine vp_callSi (pV (rest := []) (qc := (RJx4a65c, TJx4a65c, 3)) [] 0 hC (c_list_size l D (lo := lt) (mc := m2) (ea := z) (n := 0) ) rfl (hP 4 _ rfl) (gV mM_X5_52 mI_Jx4a65c_size_8abf5 mS_Jx4a65c_size_8abf5 mN_Jx4a65c mC_Jx4a65c_size_8abf5) (by decide +kernel) rfl rfl ⟨Nat.le_of_ble_eq_true rfl, Nat.le_of_ble_eq_true rfl⟩ hG hP9 rfl hl.1 rfl (Nat.le_of_ble_eq_true rfl) dX5_addStrip_67 ⟨Nat.le_of_ble_eq_true rfl, Nat.le_of_ble_eq_true rfl⟩) (fun r67 h67 => ?_)
  obtain rfl : r67 = (nI 0) := h67
  refine lv_bipush (v := 10) hx hb dX5_addStrip_70 (by decide) ?_
  refine lv_icmp_lt (tgt := 85) hx hb dX5_addStrip_72 (by decide) (fun _ => ?_) (fun h9 => absurd ((nI_ltI (a := 0) (b := 10) (by omega) (by omega)).mpr (by omega)) h9)
  refine lv_aload_n hx hb dX5_addStrip_85 rfl (lv_at hl 1 rfl) ?_
  refine va_get (D := D) (ci := 5) (v := .ref lt) (C := RX5) (T := TX5) (N := 5) hx hb hts inlX5 hown hG.K hP 0 rfl rfl 1 (by decide) (hts _ mF_X5_16) (fun _ h9 => h9) rfl dX5_addStrip_86 ?_
  refine va_new (ci := 3) (fs := [.null, .int 0, .int 0, .int 0, .int 0, .int 0, .int 0, .int 0, .int 0, .int 0, .int 0, .int 0, .int 0]) (C := RX3) (T := TX3) (N := 13) hx hb hts inlX3 tyX3 tyX3_ok hown (hts _ mK_X5_183) (hts _ mB_X3) (hts _ mN_X3) hG.K hP hD hS hA rfl (fun j hj => by rcases (show j = 0 ∨ j = 1 ∨ j = 2 ∨ j = 3 ∨ j = 4 ∨ j = 5 ∨ j = 6 ∨ j = 7 ∨ j = 8 ∨ j = 9 ∨ j = 10 ∨ j = 11 ∨ j = 12 by omega) with rfl | rfl | rfl | rfl | rfl | rfl | rfl | rfl | rfl | rfl | rfl | rfl | rfl <;> rfl) (Nat.le_of_ble_eq_true rfl) (Nat.le_of_ble_eq_true rfl) dX5_addStrip_89 (fun so H hP hD hS => ?_)
  have hP : va_P D cls [oO xo 5 [.ref lc, .ref lt, .ref bo, .ref yo, .ref no], oO lc 7 [.int m1, .ref ec, .int (nI nC)], aO D ec 10 (lsF cl nC), oO (cl c0) 0 [.int len, .ref ta, .ref (q 0), .ref (q 1)], oO lt 7 [.int m2, .ref z, .int (nI 0)], oO so 3 [.null, .int 0, .int 0, .int 0, .int 0, .int 0, .int 0, .int 0, .int 0, .int 0, .int 0, .int 0, .int 0]] H := hP
  have hD : va_D A [oO xo 5 [.ref lc, .ref lt, .ref bo, .ref yo, .ref no], oO lc 7 [.int m1, .ref ec, .int (nI nC)], aO D ec 10 (lsF cl nC), oO (cl c0) 0 [.int len, .ref ta, .ref (q 0), .ref (q 1)], oO lt 7 [.int m2, .ref z, .int (nI 0)], oO so 3 [.null, .int 0, .int 0, .int 0, .int 0, .int 0, .int 0, .int 0, .int 0, .int 0, .int 0, .int 0, .int 0]] := hD
  refine lv_dup hx hb dX5_addStrip_92 rfl ?_
  refine lv_aload hx hb dX5_addStrip_93 (lv_at hl 0 rfl) ?_
  refine lv_iload_n hx hb dX5_addStrip_95 rfl (lv_at hl 2 rfl) ?_
  refine lv_iload_n hx hb dX5_addStrip_96 rfl (lv_at hl 3 rfl) ?_
  refine lv_iload_n hx hb dX5_addStrip_97 rfl (lv_at hl 4 rfl) ?_
  refine lv_iload hx hb dX5_addStrip_98 (lv_at hl 5 rfl) ?_
  have hP9 := hP.sub (ws' := [oO so 3 [.null, .int 0, .int 0, .int 0, .int 0, .int 0, .int 0, .int 0, .int 0, .int 0, .int 0, .int 0, .int 0]]) [5] rfl
  have hD9 := (hD.sub (ws' := [oO so 3 [.null, .int 0, .int 0, .int 0, .int 0, .int 0, .int 0, .int 0, .int 0, .int 0, .int 0, .int 0, .int 0]]) [5] (by decide) rfl).weaken (B := fun _ => True) (fun _ _ _ _ => trivial)
  refine kv (wr := [oO xo 5 [.ref lc, .ref lt, .ref bo, .ref yo, .ref no], oO lc 7 [.int m1, .ref ec, .int (nI nC)], aO D ec 10 (lsF cl nC), oO (cl c0) 0 [.int len, .ref ta, .ref (q 0), .ref (q 1)], oO lt 7 [.int m2, .ref z, .int (nI 0)]]) (rI (rest := [.ref so, .ref lt]) [.ref (cl c0), .int (nI c0), .int x1, .int x2, .int x3] 5 0 0 hC (c_Strip_init l D (so := so) (co := cl c0) (x0 := nI c0) (x1 := x1) (x2 := x2) (x3 := x3) (hz0 := H.size) ) mM_X5_185 mI_X3_init mN_X3 mC_X3_init rfl (by decide +kernel) rfl rfl ⟨Nat.le_of_ble_eq_true rfl, Nat.le_of_ble_eq_true rfl⟩ hG hP9 hD9 rfl hl.1 rfl (Nat.le_of_ble_eq_true rfl) dX5_addStrip_100 ⟨Nat.le_of_ble_eq_true rfl, Nat.le_of_ble_eq_true rfl⟩) hP hD hS hA [5] [0, 1, 2, 3, 4] rfl rfl (by decide) (by decide) (fun u100 H locs h100 hP hD hS hz hfr => ?_)
  have hP : va_P D cls [oO xo 5 [.ref lc, .ref lt, .ref bo, .ref yo, .ref no], oO lc 7 [.int m1, .ref ec, .int (nI nC)], aO D ec 10 (lsF cl nC), oO (cl c0) 0 [.int len, .ref ta, .ref (q 0), .ref (q 1)], oO lt 7 [.int m2, .ref z, .int (nI 0)], oO so 3 [.ref (cl c0), .int (nI c0), .int x1, .int x2, .int x3, .int 1, .int 1, .int 0, .int 100, .int 0, .int 0, .int 0, .int 0]] H := hP
  have hD : va_D A [oO xo 5 [.ref lc, .ref lt, .ref bo, .ref yo, .ref no], oO lc 7 [.int m1, .ref ec, .int (nI nC)], aO D ec 10 (lsF cl nC), oO (cl c0) 0 [.int len, .ref ta, .ref (q 0), .ref (q 1)], oO lt 7 [.int m2, .ref z, .int (nI 0)], oO so 3 [.ref (cl c0), .int (nI c0), .int x1, .int x2, .int x3, .int 1, .int 1, .int 0, .int 100, .int 0, .int 0, .int 0, .int 0]] := hD
  have hP9 := hP.sub (ws' := [oO lt 7 [.int m2, .ref z, .int (nI 0)], oO so 3 [.ref (cl c0), .int (nI c0), .int x1, .int x2, .int x3, .int 1, .int 1, .int 0, .int 100, .int 0, .int 0, .int 0, .int 0]]) [4, 5] rfl
  have hD9 := (hD.sub (ws' := [oO lt 7 [.int m2, .ref z, .int (nI 0)], oO so 3 [.ref (cl c0), .int (nI c0), .int x1, .int x2, .int x3, .int 1, .int 1, .int 0, .int 100, .int 0, .int 0, .int 0, .int 0]]) [4, 5] (by decide) rfl).weaken (B := fun _ => True) (fun _ _ _ _ => trivial)
  refine ki (wr := [oO xo 5 [.ref lc, .ref lt, .ref bo, .ref yo, .ref no], oO lc 7 [.int m1, .ref ec, .int (nI nC)], aO D ec 10 (lsF cl nC), oO (cl c0) 0 [.int len, .ref ta, .ref (q 0), .ref (q 1)]]) (rVX (ZL.blind) (ZL.pre hX hS (va_free' hD hS hA [4, 5] rfl).2) (rest := []) (qc := (RJx4a65c, TJx4a65c, 3)) [.ref so] 1 1 10 hC (c_add_first_Strip l D (lo := lt) (vo := so) (mc := m2) (z := z) (v0 := .ref (cl c0)) (v1 := .int (nI c0)) (v2 := .int x1) (v3 := .int x2) (v4 := .int x3) (v5 := .int 1) (v6 := .int 1) (v7 := .int 0) (v8 := .int 100) (v9 := .int 0) (v10 := .int 0) (v11 := .int 0) (v12 := .int 0) (hz0 := H.size) ) rfl (hP 4 _ rfl) (gV mM_X5_64 mI_Jx4a65c_add_9ea2d mS_Jx4a65c_add_9ea2d mN_Jx4a65c mC_Jx4a65c_add_9ea2d) (by decide +kernel) rfl rfl ⟨Nat.le_of_ble_eq_true rfl, Nat.le_of_ble_eq_true rfl⟩ hG hP9 hD9 rfl hl.1 rfl (Nat.le_of_ble_eq_true rfl) dX5_addStrip_103 ⟨Nat.le_of_ble_eq_true rfl, Nat.le_of_ble_eq_true rfl⟩) hP hD hS hA [4, 5] [0, 1, 2, 3] rfl rfl (by decide) (by decide) (fun r103 u103 H locs h103 hP hD hS hz hfr => ?_)
  obtain ⟨et, rfl⟩ : ∃ z, z = u103 := ⟨_, rfl⟩
  have hP : va_P D cls [oO xo 5 [.ref lc, .ref lt, .ref bo, .ref yo, .ref no], oO lc 7 [.int m1, .ref ec, .int (nI nC)], aO D ec 10 (lsF cl nC), oO (cl c0) 0 [.int len, .ref ta, .ref (q 0), .ref (q 1)], oO lt 7 [.int (m2 + 1), .ref et, .int (nI 1)], aO D et 10 (va_up (fun _ => none) 0 (some so)), oO so 3 [(.ref (cl c0)), (.int (nI c0)), (.int x1), (.int x2), (.int x3), (.int 1), (.int 1), (.int 0), (.int 100), (.int 0), (.int 0), (.int 0), (.int 0)]] H := hP
  have hD : va_D A [oO xo 5 [.ref lc, .ref lt, .ref bo, .ref yo, .ref no], oO lc 7 [.int m1, .ref ec, .int (nI nC)], aO D ec 10 (lsF cl nC), oO (cl c0) 0 [.int len, .ref ta, .ref (q 0), .ref (q 1)], oO lt 7 [.int (m2 + 1), .ref et, .int (nI 1)], aO D et 10 (va_up (fun _ => none) 0 (some so)), oO so 3 [(.ref (cl c0)), (.int (nI c0)), (.int x1), (.int x2), (.int x3), (.int 1), (.int 1), (.int 0), (.int 100), (.int 0), (.int 0), (.int 0), (.int 0)]] := hD
  subst h103
  refine lv_pop hx hb dX5_addStrip_106 rfl ?_
  have hcv1 : (lsF (fun _ => so) 1) = (va_up (fun _ => none) 0 (some so)) := (lsF_1 so).symm
  have hP := Eq.mpr (congrArg (fun z9 => va_P D cls [oO xo 5 [.ref lc, .ref lt, .ref bo, .ref yo, .ref no], oO lc 7 [.int m1, .ref ec, .int (nI nC)], aO D ec 10 (lsF cl nC), oO (cl c0) 0 [.int len, .ref ta, .ref (q 0), .ref (q 1)], oO lt 7 [.int (m2 + 1), .ref et, .int (nI 1)], aO D et 10 z9, oO so 3 [(.ref (cl c0)), (.int (nI c0)), (.int x1), (.int x2), (.int x3), (.int 1), (.int 1), (.int 0), (.int 100), (.int 0), (.int 0), (.int 0), (.int 0)]] H) hcv1) hP
  have hD := Eq.mpr (congrArg (fun z9 => va_D A [oO xo 5 [.ref lc, .ref lt, .ref bo, .ref yo, .ref no], oO lc 7 [.int m1, .ref ec, .int (nI nC)], aO D ec 10 (lsF cl nC), oO (cl c0) 0 [.int len, .ref ta, .ref (q 0), .ref (q 1)], oO lt 7 [.int (m2 + 1), .ref et, .int (nI 1)], aO D et 10 z9, oO so 3 [(.ref (cl c0)), (.int (nI c0)), (.int x1), (.int x2), (.int x3), (.int 1), (.int 1), (.int 0), (.int 100), (.int 0), (.int 0), (.int 0), (.int 0)]]) hcv1) hD
  have hP : va_P D cls [oO xo 5 [.ref lc, .ref lt, .ref bo, .ref yo, .ref no], oO lc 7 [.int m1, .ref ec, .int (nI nC)], aO D ec 10 (lsF cl nC), oO (cl c0) 0 [.int len, .ref ta, .ref (q 0), .ref (q 1)], oO lt 7 [.int (m2 + 1), .ref et, .int (nI 1)], aO D et 10 (lsF (fun _ => so) 1), oO so 3 [(.ref (cl c0)), (.int (nI c0)), (.int x1), (.int x2), (.int x3), (.int 1), (.int 1), (.int 0), (.int 100), (.int 0), (.int 0), (.int 0), (.int 0)]] H := hP
  have hD : va_D A [oO xo 5 [.ref lc, .ref lt, .ref bo, .ref yo, .ref no], oO lc 7 [.int m1, .ref ec, .int (nI nC)], aO D ec 10 (lsF cl nC), oO (cl c0) 0 [.int len, .ref ta, .ref (q 0), .ref (q 1)], oO lt 7 [.int (m2 + 1), .ref et, .int (nI 1)], aO D et 10 (lsF (fun _ => so) 1), oO so 3 [(.ref (cl c0)), (.int (nI c0)), (.int x1), (.int x2), (.int x3), (.int 1), (.int 1), (.int 0), (.int 100), (.int 0), (.int 0), (.int 0), (.int 0)]] := hD
  refine lv_aload_n hx hb dX5_addStrip_107 rfl (lv_at hl 1 rfl) ?_
  refine va_get (D := D) (ci := 5) (v := .ref lt) (C := RX5) (T := TX5) (N := 5) hx hb hts inlX5 hown hG.K hP 0 rfl rfl 1 (by decide) (hts _ mF_X5_16) (fun _ h9 => h9) rfl dX5_addStrip_108 ?_
  have hP9 := hP.sub (ws' := [oO lt 7 [.int (m2 + 1), .ref et, .int (nI 1)]]) [4] rfl
  refine vp_callSi (pV (rest := []) (qc := (RJx4a65c, TJx4a65c, 3)) [] 0 hC (c_list_size l D (lo := lt) (mc := m2 + 1) (ea := et) (n := 1) ) rfl (hP 4 _ rfl) (gV mM_X5_52 mI_Jx4a65c_size_8abf5 mS_Jx4a65c_size_8abf5 mN_Jx4a65c mC_Jx4a65c_size_8abf5) (by decide +kernel) rfl rfl ⟨Nat.le_of_ble_eq_true rfl, Nat.le_of_ble_eq_true rfl⟩ hG hP9 rfl hl.1 rfl (Nat.le_of_ble_eq_true rfl) dX5_addStrip_111 ⟨Nat.le_of_ble_eq_true rfl, Nat.le_of_ble_eq_true rfl⟩) (fun r111 h111 => ?_)
  obtain rfl : r111 = (nI 1) := h111
  refine lv_iconst (v := 1) hx hb dX5_addStrip_114 (by decide) ?_
  refine lv_isub hx hb dX5_addStrip_115 ?_
  refine tpi (y := nI 0) (by decide) ?_
  refine Wi (et, so) hx hb hr hlk ?_ hP hD hS (Nat.le_of_ble_eq_true rfl) (by first | exact Nat.le_of_ble_eq_true rfl | exact Nat.le_of_eq (Nat.zero_add _)) dX5_addStrip_116
  exact rfl
set_option maxHeartbeats 4000000 in
set_option maxRecDepth 100000 in
theorem t_removeStrip_1 (l : Launch) (D : va_G) (hns : l.stackTraces = false) {xo lc lt bo yo no : Nat} {et nS : Nat} {m2 : Int32} {x : Int32} (hz0 : Nat) (hnS : nS ≤ 10) (h : ¬ (0 ≤ x ∧ x ≤ nI nS - 1)) : vx_Met l yX5_removeStrip (ws_ yX5_removeStrip cX5_removeStrip 2 (some .int)) ({ frames := 6, cells := 1, slots := 6, locals := 123 } : Room) (va_Pc [.ref xo, .int x] (TW D [oO xo 5 [.ref lc, .ref lt, .ref bo, .ref yo, .ref no], oO lt 7 [.int m2, .ref et, .int (nI nS)]] hz0)) (va_Qi (fun _ (_ : Unit) => False) (fun _ _ => False) (va_A [] hz0)) (XE "java/lang/IndexOutOfBoundsException" (va_A [] hz0)) 1 6 (va_A [] hz0) := by
  refine vx_ofW (cc := cX5_removeStrip) (maxL := 2) (ret := (some .int)) (by decide) rfl ?_
  intro p e s m args below meth c s₁ B hml hne hv
  obtain ⟨rfl, hsz, hG, hP, hZ⟩ := hv
  subst hsz
  have hx := B.exec
  have hb := B.bytes
  have hr := B.returns
  have hts : ∀ w ∈ wsL_law, w.before _ s = true := fun w h => atoms_spec (ws := (ws_ yX5_removeStrip cX5_removeStrip 2 (some .int))) B.pre w (List.mem_cons_of_mem _ h)
  have hown : s.vm.findClass RX5 = some m.cls := findClass_of_methodNamed B.named
  have hlk := B.notSynchronized
  have hC : CallFix p m c cX5_removeStrip 2 s _ wsL_law RX5 := ⟨hx, hb, hml, hown, hts⟩
  have hl := lv_entry ([.ref xo, .int x]) (n := 2) (Nat.le_of_ble_eq_true rfl)
  rw [lg_entry_eq]
  generalize (lg_sl ([.ref xo, .int x]) ++ List.replicate (2 - (lg_sl ([.ref xo, .int x])).length) Slot.unset).toArray = ls at hl ⊢
  have hl : lv_has ls 2 [(0, .ref xo), (1, .int x)] := hl
  refine lv_iload_n hx hb dX5_removeStrip_0 rfl (lv_at hl 1 rfl) ?_
  refine lv_iconst (v := 0) hx hb dX5_removeStrip_1 (by decide) ?_
  refine lv_aload_n hx hb dX5_removeStrip_2 rfl (lv_at hl 0 rfl) ?_
  refine va_get (D := D) (ci := 5) (v := .ref lt) (C := RX5) (T := TX5) (N := 5) hx hb hts inlX5 hown hG.K hP 0 rfl rfl 1 (by decide) (hts _ mF_X5_16) (fun _ h9 => h9) rfl dX5_removeStrip_3 ?_
  have hP9 := hP.sub (ws' := [oO lt 7 [.int m2, .ref et, .int (nI nS)]]) [1] rfl
  refine vp_callSi (pV (rest := [.int 0, .int x]) (qc := (RJx4a65c, TJx4a65c, 3)) [] 0 hC (c_list_size l D (lo := lt) (mc := m2) (ea := et) (n := nS) ) rfl (hP 1 _ rfl) (gV mM_X5_52 mI_Jx4a65c_size_8abf5 mS_Jx4a65c_size_8abf5 mN_Jx4a65c mC_Jx4a65c_size_8abf5) (by decide +kernel) rfl rfl ⟨Nat.le_of_ble_eq_true rfl, Nat.le_of_ble_eq_true rfl⟩ hG hP9 rfl hl.1 rfl (Nat.le_of_ble_eq_true rfl) dX5_removeStrip_6 ⟨Nat.le_of_ble_eq_true rfl, Nat.le_of_ble_eq_true rfl⟩) (fun r6 h6 => ?_)
  obtain rfl : r6 = (nI nS) := h6
  refine lv_iconst (v := 1) hx hb dX5_removeStrip_9 (by decide) ?_
  refine lv_isub hx hb dX5_removeStrip_10 ?_
  have hP9 : va_P D cls [] s.heap := fun k q h => by simp at h
  refine vp_callSi (pS (rest := []) [.int x, .int 0, .int ((nI nS) - 1)] 3 hC (c_isIn l D (x := x) (a := 0) (b := (nI nS) - 1) ) (gS mM_X5_41 mT_X5_isIn mN_X5 mC_X5_isIn) (by decide +kernel) rfl rfl ⟨Nat.le_of_ble_eq_true rfl, Nat.le_of_ble_eq_true rfl⟩ hG hP9 rfl hl.1 rfl (Nat.le_of_ble_eq_true rfl) dX5_removeStrip_11 ⟨Nat.le_of_ble_eq_true rfl, Nat.le_of_ble_eq_true rfl⟩) (fun r11 h11 => ?_)
  rcases h11 with ⟨rfl, hb11⟩ | ⟨rfl, hb11⟩
  · exact absurd hb11 (h)
  refine lv_if_ne (tgt := 27) hx hb dX5_removeStrip_14 (by decide) (fun h9 => (h9 (by decide)).elim) (fun _ => ?_)
  obtain ⟨sa, hsa⟩ := gkS hG 21 rfl
  exact vx_throwS (ik := 72) (is := 188) (ic := 76) (cls := "java/lang/IndexOutOfBoundsException") (names := tXn) hx hb hns hown (by decide +kernel) (by decide +kernel) (hts _ mK_X5_72) (hts _ mN__java_lang_IndexOutOfBoundsException_) hsa (vx_hat (fun w hw => hts w (thr_in76 w hw)) thr_bad76 (thr_B 4 hG rfl)) thr_ot76 hZ.1 hZ.2 va_S.rf (by rw [hml]; exact hl.1) dX5_removeStrip_17 dX5_removeStrip_20 dX5_removeStrip_21 dX5_removeStrip_23 dX5_removeStrip_26 (fun x hx => (hne x hx).elim) (Nat.le_of_ble_eq_true rfl) (Nat.le_of_ble_eq_true rfl) (Nat.le_of_ble_eq_true rfl) (Nat.le_of_ble_eq_true rfl) hlk (XE.of rfl) (fun q hq => absurd hq List.not_mem_nil) (Nat.le_of_ble_eq_true rfl) (Nat.le_of_ble_eq_true rfl)
set_option maxHeartbeats 4000000 in
set_option maxRecDepth 100000 in
theorem c_removeStrip (l : Launch) (D : va_G) {xo lc lt bo yo no : Nat} {et nS : Nat} {m2 : Int32} {s0 : Nat} {sl : Nat → Nat} (hz0 : Nat) (hnS : nS ≤ 10) (hs0 : s0 < nS) : Met l yX5_removeStrip (ws_ yX5_removeStrip cX5_removeStrip 2 (some .int)) ({ frames := 6, cells := 0, slots := 0, locals := 123 } : Room) (va_Pc [.ref xo, .int (nI s0)] (SX D [oO xo 5 [.ref lc, .ref lt, .ref bo, .ref yo, .ref no], oO lt 7 [.int m2, .ref et, .int (nI nS)], aO D et 10 (lsF sl nS)] hz0 (EL D (lsF sl nS) nS lt et))) (va_Qi (fun v _ => v = nI (nS - 1)) (AT D (va_A [oO xo 5 [.ref lc, .ref lt, .ref bo, .ref yo, .ref no], oO lt 7 [.int m2, .ref et, .int (nI nS)], aO D et 10 (lsF sl nS)] hz0) (fun _ : Unit => [oO xo 5 [.ref lc, .ref lt, .ref bo, .ref yo, .ref no], oO lt 7 [.int (m2 + 1), .ref et, .int (nI (nS - 1))], aO D et 10 (rmQ (lsF sl nS) s0 nS)])) (va_A [oO xo 5 [.ref lc, .ref lt, .ref bo, .ref yo, .ref no], oO lt 7 [.int m2, .ref et, .int (nI nS)], aO D et 10 (lsF sl nS)] hz0)) 0 0 (va_A [oO xo 5 [.ref lc, .ref lt, .ref bo, .ref yo, .ref no], oO lt 7 [.int m2, .ref et, .int (nI nS)], aO D et 10 (lsF sl nS)] hz0) := by
  refine Met.ofW (cc := cX5_removeStrip) (maxL := 2) (ret := (some .int)) (by decide) rfl ?_
  intro p e s m args below meth c s₁ B hml hv
  obtain ⟨rfl, ⟨hsz, hG, hP, hD0⟩, hX⟩ := hv
  have hx := B.exec
  have hb := B.bytes
  have hr := B.returns
  have hts : ∀ w ∈ wsL_law, w.before _ s = true := fun w h => atoms_spec (ws := (ws_ yX5_removeStrip cX5_removeStrip 2 (some .int))) B.pre w (List.mem_cons_of_mem _ h)
  have hown : s.vm.findClass RX5 = some m.cls := findClass_of_methodNamed B.named
  have hlk := B.notSynchronized
  have hC : CallFix p m c cX5_removeStrip 2 s _ wsL_law RX5 := ⟨hx, hb, hml, hown, hts⟩
  subst hsz
  have hD := hD0.self (sz := s.heap.size)
  generalize hAe : va_A [oO xo 5 [.ref lc, .ref lt, .ref bo, .ref yo, .ref no], oO lt 7 [.int m2, .ref et, .int (nI nS)], aO D et 10 (lsF sl nS)] s.heap.size = A at hD hX ⊢
  have hA : ∀ q : Nat, s.heap.size ≤ q → A q := fun q h => by rw [← hAe]; exact Or.inr h
  have hS : va_S A s.heap s.heap [] := va_S.rf
  obtain ⟨H, hHe⟩ : ∃ H, H = s.heap := ⟨_, rfl⟩
  rw [← hHe] at hP
  have hS : va_S A s.heap H [] := by rw [hHe]; exact hS
  have hl := lv_entry ([.ref xo, .int (nI s0)]) (n := 2) (Nat.le_of_ble_eq_true rfl)
  rw [lg_entry_eq]
  generalize (lg_sl ([.ref xo, .int (nI s0)]) ++ List.replicate (2 - (lg_sl ([.ref xo, .int (nI s0)])).length) Slot.unset).toArray = ls at hl ⊢
  have hl : lv_has ls 2 [(0, .ref xo), (1, .int (nI s0))] := hl
  rw [← hHe]
  refine lv_iload_n hx hb dX5_removeStrip_0 rfl (lv_at hl 1 rfl) ?_
  refine lv_iconst (v := 0) hx hb dX5_removeStrip_1 (by decide) ?_
  refine lv_aload_n hx hb dX5_removeStrip_2 rfl (lv_at hl 0 rfl) ?_
  refine va_get (D := D) (ci := 5) (v := .ref lt) (C := RX5) (T := TX5) (N := 5) hx hb hts inlX5 hown hG.K hP 0 rfl rfl 1 (by decide) (hts _ mF_X5_16) (fun _ h9 => h9) rfl dX5_removeStrip_3 ?_
  have hP9 := hP.sub (ws' := [oO lt 7 [.int m2, .ref et, .int (nI nS)]]) [1] rfl
  refine vp_callSi (pV (rest := [.int 0, .int (nI s0)]) (qc := (RJx4a65c, TJx4a65c, 3)) [] 0 hC (c_list_size l D (lo := lt) (mc := m2) (ea := et) (n := nS) ) rfl (hP 1 _ rfl) (gV mM_X5_52 mI_Jx4a65c_size_8abf5 mS_Jx4a65c_size_8abf5 mN_Jx4a65c mC_Jx4a65c_size_8abf5) (by decide +kernel) rfl rfl ⟨Nat.le_of_ble_eq_true rfl, Nat.le_of_ble_eq_true rfl⟩ hG hP9 rfl hl.1 rfl (Nat.le_of_ble_eq_true rfl) dX5_removeStrip_6 ⟨Nat.le_of_ble_eq_true rfl, Nat.le_of_ble_eq_true rfl⟩) (fun r6 h6 => ?_)
  obtain rfl : r6 = (nI nS) := h6
  refine lv_iconst (v := 1) hx hb dX5_removeStrip_9 (by decide) ?_
  refine lv_isub hx hb dX5_removeStrip_10 ?_
  refine tpi (y := nI (nS - 1)) (pk_sub (a := nS) (b := 1) (by omega)) ?_
  have hP9 : va_P D cls [] H := fun k q h => by simp at h
  refine vp_callSi (pS (rest := []) [.int (nI s0), .int 0, .int (nI (nS - 1))] 3 hC (c_isIn l D (x := nI s0) (a := 0) (b := nI (nS - 1)) ) (gS mM_X5_41 mT_X5_isIn mN_X5 mC_X5_isIn) (by decide +kernel) rfl rfl ⟨Nat.le_of_ble_eq_true rfl, Nat.le_of_ble_eq_true rfl⟩ hG hP9 rfl hl.1 rfl (Nat.le_of_ble_eq_true rfl) dX5_removeStrip_11 ⟨Nat.le_of_ble_eq_true rfl, Nat.le_of_ble_eq_true rfl⟩) (fun r11 h11 => ?_)
  rcases h11 with ⟨rfl, hb11⟩ | ⟨rfl, hb11⟩
  rotate_left
  · exact absurd (⟨nI_pos' (by omega), nI_le (by omega) (by omega)⟩) hb11
  refine lv_if_ne (tgt := 27) hx hb dX5_removeStrip_14 (by decide) (fun _ => ?_) (fun h9 => absurd h9 (by decide))
  refine lv_aload_n hx hb dX5_removeStrip_27 rfl (lv_at hl 0 rfl) ?_
  refine va_get (D := D) (ci := 5) (v := .ref lt) (C := RX5) (T := TX5) (N := 5) hx hb hts inlX5 hown hG.K hP 0 rfl rfl 1 (by decide) (hts _ mF_X5_16) (fun _ h9 => h9) rfl dX5_removeStrip_28 ?_
  refine lv_iload_n hx hb dX5_removeStrip_31 rfl (lv_at hl 1 rfl) ?_
  have hP9 := hP.sub (ws' := [oO lt 7 [.int m2, .ref et, .int (nI nS)], aO D et 10 (lsF sl nS)]) [1, 2] rfl
  have hD9 := (hD.sub (ws' := [oO lt 7 [.int m2, .ref et, .int (nI nS)], aO D et 10 (lsF sl nS)]) [1, 2] (by decide) rfl).weaken (B := fun _ => True) (fun _ _ _ _ => trivial)
  refine kq (wr := [oO xo 5 [.ref lc, .ref lt, .ref bo, .ref yo, .ref no]]) (rVX (EL.blind) (fun U hU _ => by
    intro k9 h9 y9 h8
    obtain ⟨a1, a2, a3⟩ := hX k9 h9 y9 h8
    rw [hU, hHe]
    exact ⟨a1, a2, a3⟩) (rest := []) (qc := (RJx4a65c, TJx4a65c, 3)) [.int (nI s0)] 1 0 0 hC (c_list_remove l D (y0 := sl s0) (lo := lt) (i := s0) (mc := m2) (ea := et) (n := nS) (k := 10) (f := lsF sl nS) (hz0 := H.size) (by omega) (by omega) (by omega) (if_pos hs0)) rfl (hP 1 _ rfl) (gV mM_X5_190 mI_Jx4a65c_remove_915e3 mS_Jx4a65c_remove_915e3 mN_Jx4a65c mC_Jx4a65c_remove_915e3) (by decide +kernel) rfl rfl ⟨Nat.le_of_ble_eq_true rfl, Nat.le_of_ble_eq_true rfl⟩ hG hP9 hD9 rfl hl.1 rfl (Nat.le_of_ble_eq_true rfl) dX5_removeStrip_32 ⟨Nat.le_of_ble_eq_true rfl, Nat.le_of_ble_eq_true rfl⟩) hP hD hS hA [1, 2] [0] rfl rfl (by decide) (by decide) (fun r32 u32 H locs h32 hP hD hS hz hfr => ?_)
  have hP : va_P D cls [oO xo 5 [.ref lc, .ref lt, .ref bo, .ref yo, .ref no], oO lt 7 [.int (m2 + 1), .ref et, .int (nI (nS - 1))], aO D et 10 (rmQ (lsF sl nS) s0 nS)] H := hP
  have hD : va_D A [oO xo 5 [.ref lc, .ref lt, .ref bo, .ref yo, .ref no], oO lt 7 [.int (m2 + 1), .ref et, .int (nI (nS - 1))], aO D et 10 (rmQ (lsF sl nS) s0 nS)] := hD
  subst h32
  refine tpv (y := .ref (sl s0)) rfl ?_
  refine lv_pop hx hb dX5_removeStrip_35 rfl ?_
  refine lv_aload_n hx hb dX5_removeStrip_36 rfl (lv_at hl 0 rfl) ?_
  refine va_get (D := D) (ci := 5) (v := .ref lt) (C := RX5) (T := TX5) (N := 5) hx hb hts inlX5 hown hG.K hP 0 rfl rfl 1 (by decide) (hts _ mF_X5_16) (fun _ h9 => h9) rfl dX5_removeStrip_37 ?_
  have hP9 := hP.sub (ws' := [oO lt 7 [.int (m2 + 1), .ref et, .int (nI (nS - 1))]]) [1] rfl
  refine vp_callSi (pV (rest := []) (qc := (RJx4a65c, TJx4a65c, 3)) [] 0 hC (c_list_size l D (lo := lt) (mc := m2 + 1) (ea := et) (n := nS - 1) ) rfl (hP 1 _ rfl) (gV mM_X5_52 mI_Jx4a65c_size_8abf5 mS_Jx4a65c_size_8abf5 mN_Jx4a65c mC_Jx4a65c_size_8abf5) (by decide +kernel) rfl rfl ⟨Nat.le_of_ble_eq_true rfl, Nat.le_of_ble_eq_true rfl⟩ hG hP9 rfl hl.1 rfl (Nat.le_of_ble_eq_true rfl) dX5_removeStrip_40 ⟨Nat.le_of_ble_eq_true rfl, Nat.le_of_ble_eq_true rfl⟩) (fun r40 h40 => ?_)
  obtain rfl : r40 = (nI (nS - 1)) := h40
  refine Wi () hx hb hr hlk ?_ hP hD hS (Nat.le_of_ble_eq_true rfl) (by first | exact Nat.le_of_ble_eq_true rfl | exact Nat.le_of_eq (Nat.zero_add _)) dX5_removeStrip_43
  exact rfl
set_option maxHeartbeats 4000000 in
set_option maxRecDepth 100000 in
theorem t_setSpeed_1 (l : Launch) (D : va_G) (hns : l.stackTraces = false) {xo lc lt bo yo no : Nat} {et nS : Nat} {m2 : Int32} {x p1 q1 : Int32} (hz0 : Nat) (hnS : nS ≤ 10) (hxx : x < 0 ∨ nI nS ≤ x) : vx_Met l yX5_setSpeed (ws_ yX5_setSpeed cX5_setSpeed 5 (some .int)) ({ frames := 6, cells := 1, slots := 6, locals := 102 } : Room) (va_Pc [.ref xo, .int x, .int p1, .int q1] (TW D [oO xo 5 [.ref lc, .ref lt, .ref bo, .ref yo, .ref no], oO lt 7 [.int m2, .ref et, .int (nI nS)]] hz0)) (va_Qi (fun _ (_ : Unit) => False) (fun _ _ => False) (va_A [] hz0)) (XE "java/lang/IndexOutOfBoundsException" (va_A [] hz0)) 1 6 (va_A [] hz0) := by
  refine vx_ofW (cc := cX5_setSpeed) (maxL := 5) (ret := (some .int)) (by decide) rfl ?_
  intro p e s m args below meth c s₁ B hml hne hv
  obtain ⟨rfl, hsz, hG, hP, hZ⟩ := hv
  subst hsz
  have hx := B.exec
  have hb := B.bytes
  have hr := B.returns
  have hts : ∀ w ∈ wsL_law, w.before _ s = true := fun w h => atoms_spec (ws := (ws_ yX5_setSpeed cX5_setSpeed 5 (some .int))) B.pre w (List.mem_cons_of_mem _ h)
  have hown : s.vm.findClass RX5 = some m.cls := findClass_of_methodNamed B.named
  have hlk := B.notSynchronized
  have hC : CallFix p m c cX5_setSpeed 5 s _ wsL_law RX5 := ⟨hx, hb, hml, hown, hts⟩
  have hl := lv_entry ([.ref xo, .int x, .int p1, .int q1]) (n := 5) (Nat.le_of_ble_eq_true rfl)
  rw [lg_entry_eq]
  generalize (lg_sl ([.ref xo, .int x, .int p1, .int q1]) ++ List.replicate (5 - (lg_sl ([.ref xo, .int x, .int p1, .int q1])).length) Slot.unset).toArray = ls at hl ⊢
  have hl : lv_has ls 5 [(0, .ref xo), (1, .int x), (2, .int p1), (3, .int q1)] := hl
  refine lv_aload_n hx hb dX5_setSpeed_0 rfl (lv_at hl 0 rfl) ?_
  refine lv_iload_n hx hb dX5_setSpeed_1 rfl (lv_at hl 1 rfl) ?_
  have hP9 := hP
  refine va_csq (pV (rest := []) (qc := (RX5, TX5, 5)) [.int x] 1 hC (c_stripOrNull_no l D (xo := xo) (x := x) (lc := lc) (lt := lt) (bo := bo) (yo := yo) (no := no) (m2 := m2) (et := et) (nS := nS) (by omega) (hxx)) rfl (hP 0 _ rfl) (gV mM_X5_194 mI_X5_stripOrNull mS_X5_stripOrNull mN_X5 mC_X5_stripOrNull) (by decide +kernel) rfl rfl ⟨Nat.le_of_ble_eq_true rfl, Nat.le_of_ble_eq_true rfl⟩ hG hP9 rfl hl.1 rfl (Nat.le_of_ble_eq_true rfl) dX5_setSpeed_2 ⟨Nat.le_of_ble_eq_true rfl, Nat.le_of_ble_eq_true rfl⟩) (fun r2 h2 => ?_)
  obtain rfl : none = r2 := Eq.symm h2
  refine tpv (y := .null) rfl ?_
  refine lv_astoreN (lv' := [(4, .null), (0, .ref xo), (1, .int x), (2, .int p1), (3, .int q1)]) hx hb dX5_setSpeed_5 hl (by decide) rfl (fun ls hl => ?_)
  refine lv_aloadN hx hb dX5_setSpeed_7 (lv_at hl 0 rfl) ?_
  refine lv_ifnonnullN hx hb dX5_setSpeed_9 ?_
  obtain ⟨sa, hsa⟩ := gkS hG 21 rfl
  exact vx_throwS (ik := 72) (is := 188) (ic := 76) (cls := "java/lang/IndexOutOfBoundsException") (names := tXn) hx hb hns hown (by decide +kernel) (by decide +kernel) (hts _ mK_X5_72) (hts _ mN__java_lang_IndexOutOfBoundsException_) hsa (vx_hat (fun w hw => hts w (thr_in76 w hw)) thr_bad76 (thr_B 4 hG rfl)) thr_ot76 hZ.1 hZ.2 va_S.rf (by rw [hml]; exact hl.1) dX5_setSpeed_12 dX5_setSpeed_15 dX5_setSpeed_16 dX5_setSpeed_18 dX5_setSpeed_21 (fun x hx => (hne x hx).elim) (Nat.le_of_ble_eq_true rfl) (Nat.le_of_ble_eq_true rfl) (Nat.le_of_ble_eq_true rfl) (Nat.le_of_ble_eq_true rfl) hlk (XE.of rfl) (fun q hq => absurd hq List.not_mem_nil) (Nat.le_of_ble_eq_true rfl) (Nat.le_of_ble_eq_true rfl)
set_option maxHeartbeats 4000000 in
set_option maxRecDepth 100000 in
theorem t_setSpeed_2 (l : Launch) (D : va_G) (hns : l.stackTraces = false) {xo lc lt bo yo no : Nat} {et nS : Nat} {m2 : Int32} {s0 co : Nat} {sl : Nat → Nat} {pt : Nat → Int32} {p1 q1 : Int32} (hz0 : Nat) (hnS : nS ≤ 10) (hs0 : s0 < nS) (h : ¬ ((1 ≤ p1 ∧ p1 ≤ 9) ∧ (1 ≤ q1 ∧ q1 ≤ 9))) : vx_Met l yX5_setSpeed (ws_ yX5_setSpeed cX5_setSpeed 5 (some .int)) ({ frames := 6, cells := 1, slots := 6, locals := 102 } : Room) (va_Pc [.ref xo, .int (nI s0), .int p1, .int q1] (TW D [oO xo 5 [.ref lc, .ref lt, .ref bo, .ref yo, .ref no], oO lt 7 [.int m2, .ref et, .int (nI nS)], aO D et 10 (lsF sl nS), oO (sl s0) 3 [.ref co, .int (pt 0), .int (pt 1), .int (pt 3), .int (pt 4), .int (pt 5), .int (pt 6), .int (pt 7), .int (pt 8), .int (pt 9), .int (pt 10), .int (pt 11), .int (pt 12)]] hz0)) (va_Qi (fun _ (_ : Unit) => False) (fun _ _ => False) (va_A [] hz0)) (XE "java/lang/IllegalArgumentException" (va_A [] hz0)) 1 6 (va_A [] hz0) := by
  refine vx_ofW (cc := cX5_setSpeed) (maxL := 5) (ret := (some .int)) (by decide) rfl ?_
  intro p e s m args below meth c s₁ B hml hne hv
  obtain ⟨rfl, hsz, hG, hP, hZ⟩ := hv
  subst hsz
  have hx := B.exec
  have hb := B.bytes
  have hr := B.returns
  have hts : ∀ w ∈ wsL_law, w.before _ s = true := fun w h => atoms_spec (ws := (ws_ yX5_setSpeed cX5_setSpeed 5 (some .int))) B.pre w (List.mem_cons_of_mem _ h)
  have hown : s.vm.findClass RX5 = some m.cls := findClass_of_methodNamed B.named
  have hlk := B.notSynchronized
  have hC : CallFix p m c cX5_setSpeed 5 s _ wsL_law RX5 := ⟨hx, hb, hml, hown, hts⟩
  have hl := lv_entry ([.ref xo, .int (nI s0), .int p1, .int q1]) (n := 5) (Nat.le_of_ble_eq_true rfl)
  rw [lg_entry_eq]
  generalize (lg_sl ([.ref xo, .int (nI s0), .int p1, .int q1]) ++ List.replicate (5 - (lg_sl ([.ref xo, .int (nI s0), .int p1, .int q1])).length) Slot.unset).toArray = ls at hl ⊢
  have hl : lv_has ls 5 [(0, .ref xo), (1, .int (nI s0)), (2, .int p1), (3, .int q1)] := hl
  refine lv_aload_n hx hb dX5_setSpeed_0 rfl (lv_at hl 0 rfl) ?_
  refine lv_iload_n hx hb dX5_setSpeed_1 rfl (lv_at hl 1 rfl) ?_
  have hP9 := hP
  refine va_csq (pV (rest := []) (qc := (RX5, TX5, 5)) [.int (nI s0)] 1 hC (c_stripOrNull l D (xo := xo) (s0 := s0) (lc := lc) (lt := lt) (bo := bo) (yo := yo) (no := no) (m2 := m2) (et := et) (nS := nS) (co := co) (by omega) (by omega)) rfl (hP 0 _ rfl) (gV mM_X5_194 mI_X5_stripOrNull mS_X5_stripOrNull mN_X5 mC_X5_stripOrNull) (by decide +kernel) rfl rfl ⟨Nat.le_of_ble_eq_true rfl, Nat.le_of_ble_eq_true rfl⟩ hG hP9 rfl hl.1 rfl (Nat.le_of_ble_eq_true rfl) dX5_setSpeed_2 ⟨Nat.le_of_ble_eq_true rfl, Nat.le_of_ble_eq_true rfl⟩) (fun r2 h2 => ?_)
  obtain rfl : r2 = (some (sl s0)) := h2
  refine tpv (y := .ref (sl s0)) rfl ?_
  refine lv_astore (lv' := [(4, .ref (sl s0)), (0, .ref xo), (1, .int (nI s0)), (2, .int p1), (3, .int q1)]) hx hb dX5_setSpeed_5 hl (by decide) rfl (fun ls hl => ?_)
  refine lv_aload hx hb dX5_setSpeed_7 (lv_at hl 0 rfl) ?_
  refine lv_ifnonnull (tgt := 22) hx hb dX5_setSpeed_9 (by decide) ?_
  refine lv_iload_n hx hb dX5_setSpeed_22 rfl (lv_at hl 3 rfl) ?_
  refine lv_iconst (v := 1) hx hb dX5_setSpeed_23 (by decide) ?_
  refine lv_bipush (v := 9) hx hb dX5_setSpeed_24 (by decide) ?_
  have hP9 : va_P D cls [] s.heap := fun k q h => by simp at h
  refine vp_callSi (pS (rest := []) [.int p1, .int 1, .int 9] 3 hC (c_isIn l D (x := p1) (a := 1) (b := 9) ) (gS mM_X5_41 mT_X5_isIn mN_X5 mC_X5_isIn) (by decide +kernel) rfl rfl ⟨Nat.le_of_ble_eq_true rfl, Nat.le_of_ble_eq_true rfl⟩ hG hP9 rfl hl.1 rfl (Nat.le_of_ble_eq_true rfl) dX5_setSpeed_26 ⟨Nat.le_of_ble_eq_true rfl, Nat.le_of_ble_eq_true rfl⟩) (fun r26 h26 => ?_)
  rcases h26 with ⟨rfl, hb26⟩ | ⟨rfl, hb26⟩
  · skip
    refine lv_if_eq (tgt := 42) hx hb dX5_setSpeed_29 (by decide) (fun h9 => absurd h9 (by decide)) (fun _ => ?_)
    refine lv_iload_n hx hb dX5_setSpeed_32 rfl (lv_at hl 4 rfl) ?_
    refine lv_iconst (v := 1) hx hb dX5_setSpeed_33 (by decide) ?_
    refine lv_bipush (v := 9) hx hb dX5_setSpeed_34 (by decide) ?_
    have hP9 : va_P D cls [] s.heap := fun k q h => by simp at h
    refine vp_callSi (pS (rest := []) [.int q1, .int 1, .int 9] 3 hC (c_isIn l D (x := q1) (a := 1) (b := 9) ) (gS mM_X5_41 mT_X5_isIn mN_X5 mC_X5_isIn) (by decide +kernel) rfl rfl ⟨Nat.le_of_ble_eq_true rfl, Nat.le_of_ble_eq_true rfl⟩ hG hP9 rfl hl.1 rfl (Nat.le_of_ble_eq_true rfl) dX5_setSpeed_36 ⟨Nat.le_of_ble_eq_true rfl, Nat.le_of_ble_eq_true rfl⟩) (fun r36 h36 => ?_)
    rcases h36 with ⟨rfl, hb36⟩ | ⟨rfl, hb36⟩
    · exact absurd hb36 (fun h9 => h ⟨hb26, h9⟩)
    refine lv_if_ne (tgt := 52) hx hb dX5_setSpeed_39 (by decide) (fun h9 => (h9 (by decide)).elim) (fun _ => ?_)
    obtain ⟨sa, hsa⟩ := gkS hG 22 rfl
    exact vx_throwS (ik := 45) (is := 198) (ic := 49) (cls := "java/lang/IllegalArgumentException") (names := tXn) hx hb hns hown (by decide +kernel) (by decide +kernel) (hts _ mK_X5_45) (hts _ mN__java_lang_IllegalArgumentException_) hsa (vx_hat (fun w hw => hts w (thr_in49 w hw)) thr_bad49 (thr_B 2 hG rfl)) thr_ot49 hZ.1 hZ.2 va_S.rf (by rw [hml]; exact hl.1) dX5_setSpeed_42 dX5_setSpeed_45 dX5_setSpeed_46 dX5_setSpeed_48 dX5_setSpeed_51 (fun x hx => (hne x hx).elim) (Nat.le_of_ble_eq_true rfl) (Nat.le_of_ble_eq_true rfl) (Nat.le_of_ble_eq_true rfl) (Nat.le_of_ble_eq_true rfl) hlk (XE.of rfl) (fun q hq => absurd hq List.not_mem_nil) (Nat.le_of_ble_eq_true rfl) (Nat.le_of_ble_eq_true rfl)
  · skip
    refine lv_if_eq (tgt := 42) hx hb dX5_setSpeed_29 (by decide) (fun _ => ?_) (fun h9 => (h9 (by decide)).elim)
    obtain ⟨sa, hsa⟩ := gkS hG 22 rfl
    exact vx_throwS (ik := 45) (is := 198) (ic := 49) (cls := "java/lang/IllegalArgumentException") (names := tXn) hx hb hns hown (by decide +kernel) (by decide +kernel) (hts _ mK_X5_45) (hts _ mN__java_lang_IllegalArgumentException_) hsa (vx_hat (fun w hw => hts w (thr_in49 w hw)) thr_bad49 (thr_B 2 hG rfl)) thr_ot49 hZ.1 hZ.2 va_S.rf (by rw [hml]; exact hl.1) dX5_setSpeed_42 dX5_setSpeed_45 dX5_setSpeed_46 dX5_setSpeed_48 dX5_setSpeed_51 (fun x hx => (hne x hx).elim) (Nat.le_of_ble_eq_true rfl) (Nat.le_of_ble_eq_true rfl) (Nat.le_of_ble_eq_true rfl) (Nat.le_of_ble_eq_true rfl) hlk (XE.of rfl) (fun q hq => absurd hq List.not_mem_nil) (Nat.le_of_ble_eq_true rfl) (Nat.le_of_ble_eq_true rfl)
set_option maxHeartbeats 4000000 in
set_option maxRecDepth 100000 in
theorem c_setSpeed (l : Launch) (D : va_G) {xo lc lt bo yo no : Nat} {et nS : Nat} {m2 : Int32} {s0 co : Nat} {sl : Nat → Nat} {pt : Nat → Int32} {ta : Nat} {q : Nat → Nat} {len : Int32} {p1 q1 : Int32} (hz0 : Nat) (hnS : nS ≤ 10) (hs0 : s0 < nS) (h : (1 ≤ p1 ∧ p1 ≤ 9) ∧ (1 ≤ q1 ∧ q1 ≤ 9)) : Met l yX5_setSpeed (ws_ yX5_setSpeed cX5_setSpeed 5 (some .int)) ({ frames := 6, cells := 0, slots := 0, locals := 102 } : Room) (va_Pc [.ref xo, .int (nI s0), .int p1, .int q1] (SW D [oO xo 5 [.ref lc, .ref lt, .ref bo, .ref yo, .ref no], oO lt 7 [.int m2, .ref et, .int (nI nS)], aO D et 10 (lsF sl nS), oO (sl s0) 3 [.ref co, .int (pt 0), .int (pt 1), .int (pt 3), .int (pt 4), .int (pt 5), .int (pt 6), .int (pt 7), .int (pt 8), .int (pt 9), .int (pt 10), .int (pt 11), .int (pt 12)], oO co 0 [.int len, .ref ta, .ref (q 0), .ref (q 1)]] hz0)) (va_Qi (fun v _ => v = endS len (upd (upd pt 5 p1) 6 q1)) (AT D (va_A [oO xo 5 [.ref lc, .ref lt, .ref bo, .ref yo, .ref no], oO lt 7 [.int m2, .ref et, .int (nI nS)], aO D et 10 (lsF sl nS), oO (sl s0) 3 [.ref co, .int (pt 0), .int (pt 1), .int (pt 3), .int (pt 4), .int (pt 5), .int (pt 6), .int (pt 7), .int (pt 8), .int (pt 9), .int (pt 10), .int (pt 11), .int (pt 12)], oO co 0 [.int len, .ref ta, .ref (q 0), .ref (q 1)]] hz0) (fun _ : Unit => [oO xo 5 [.ref lc, .ref lt, .ref bo, .ref yo, .ref no], oO lt 7 [.int m2, .ref et, .int (nI nS)], aO D et 10 (lsF sl nS), oO (sl s0) 3 [.ref co, .int ((upd (upd pt 5 p1) 6 q1) 0), .int ((upd (upd pt 5 p1) 6 q1) 1), .int ((upd (upd pt 5 p1) 6 q1) 3), .int ((upd (upd pt 5 p1) 6 q1) 4), .int ((upd (upd pt 5 p1) 6 q1) 5), .int ((upd (upd pt 5 p1) 6 q1) 6), .int ((upd (upd pt 5 p1) 6 q1) 7), .int ((upd (upd pt 5 p1) 6 q1) 8), .int ((upd (upd pt 5 p1) 6 q1) 9), .int ((upd (upd pt 5 p1) 6 q1) 10), .int ((upd (upd pt 5 p1) 6 q1) 11), .int ((upd (upd pt 5 p1) 6 q1) 12)], oO co 0 [.int len, .ref ta, .ref (q 0), .ref (q 1)]])) (va_A [oO xo 5 [.ref lc, .ref lt, .ref bo, .ref yo, .ref no], oO lt 7 [.int m2, .ref et, .int (nI nS)], aO D et 10 (lsF sl nS), oO (sl s0) 3 [.ref co, .int (pt 0), .int (pt 1), .int (pt 3), .int (pt 4), .int (pt 5), .int (pt 6), .int (pt 7), .int (pt 8), .int (pt 9), .int (pt 10), .int (pt 11), .int (pt 12)], oO co 0 [.int len, .ref ta, .ref (q 0), .ref (q 1)]] hz0)) 0 0 (va_A [oO xo 5 [.ref lc, .ref lt, .ref bo, .ref yo, .ref no], oO lt 7 [.int m2, .ref et, .int (nI nS)], aO D et 10 (lsF sl nS), oO (sl s0) 3 [.ref co, .int (pt 0), .int (pt 1), .int (pt 3), .int (pt 4), .int (pt 5), .int (pt 6), .int (pt 7), .int (pt 8), .int (pt 9), .int (pt 10), .int (pt 11), .int (pt 12)], oO co 0 [.int len, .ref ta, .ref (q 0), .ref (q 1)]] hz0) := by
  refine Met.ofW (cc := cX5_setSpeed) (maxL := 5) (ret := (some .int)) (by decide) rfl ?_
  intro p e s m args below meth c s₁ B hml hv
  obtain ⟨rfl, hsz, hG, hP, hD0⟩ := hv
  have hx := B.exec
  have hb := B.bytes
  have hr := B.returns
  have hts : ∀ w ∈ wsL_law, w.before _ s = true := fun w h => atoms_spec (ws := (ws_ yX5_setSpeed cX5_setSpeed 5 (some .int))) B.pre w (List.mem_cons_of_mem _ h)
  have hown : s.vm.findClass RX5 = some m.cls := findClass_of_methodNamed B.named
  have hlk := B.notSynchronized
  have hC : CallFix p m c cX5_setSpeed 5 s _ wsL_law RX5 := ⟨hx, hb, hml, hown, hts⟩
  subst hsz
  have hD := hD0.self (sz := s.heap.size)
  generalize hAe : va_A [oO xo 5 [.ref lc, .ref lt, .ref bo, .ref yo, .ref no], oO lt 7 [.int m2, .ref et, .int (nI nS)], aO D et 10 (lsF sl nS), oO (sl s0) 3 [.ref co, .int (pt 0), .int (pt 1), .int (pt 3), .int (pt 4), .int (pt 5), .int (pt 6), .int (pt 7), .int (pt 8), .int (pt 9), .int (pt 10), .int (pt 11), .int (pt 12)], oO co 0 [.int len, .ref ta, .ref (q 0), .ref (q 1)]] s.heap.size = A at hD ⊢
  have hA : ∀ q : Nat, s.heap.size ≤ q → A q := fun q h => by rw [← hAe]; exact Or.inr h
  have hS : va_S A s.heap s.heap [] := va_S.rf
  obtain ⟨H, hHe⟩ : ∃ H, H = s.heap := ⟨_, rfl⟩
  rw [← hHe] at hP
  have hS : va_S A s.heap H [] := by rw [hHe]; exact hS
  have hl := lv_entry ([.ref xo, .int (nI s0), .int p1, .int q1]) (n := 5) (Nat.le_of_ble_eq_true rfl)
  rw [lg_entry_eq]
  generalize (lg_sl ([.ref xo, .int (nI s0), .int p1, .int q1]) ++ List.replicate (5 - (lg_sl ([.ref xo, .int (nI s0), .int p1, .int q1])).length) Slot.unset).toArray = ls at hl ⊢
  have hl : lv_has ls 5 [(0, .ref xo), (1, .int (nI s0)), (2, .int p1), (3, .int q1)] := hl
  rw [← hHe]
  refine lv_aload_n hx hb dX5_setSpeed_0 rfl (lv_at hl 0 rfl) ?_
  refine lv_iload_n hx hb dX5_setSpeed_1 rfl (lv_at hl 1 rfl) ?_
  have hP9 := hP.sub (ws' := [oO xo 5 [.ref lc, .ref lt, .ref bo, .ref yo, .ref no], oO lt 7 [.int m2, .ref et, .int (nI nS)], aO D et 10 (lsF sl nS), oO (sl s0) 3 [.ref co, .int (pt 0), .int (pt 1), .int (pt 3), .int (pt 4), .int (pt 5), .int (pt 6), .int (pt 7), .int (pt 8), .int (pt 9), .int (pt 10), .int (pt 11), .int (pt 12)]]) [0, 1, 2, 3] rfl
  refine va_csq (pV (rest := []) (qc := (RX5, TX5, 5)) [.int (nI s0)] 1 hC (c_stripOrNull l D (xo := xo) (s0 := s0) (lc := lc) (lt := lt) (bo := bo) (yo := yo) (no := no) (m2 := m2) (et := et) (nS := nS) (co := co) (by omega) (by omega)) rfl (hP 0 _ rfl) (gV mM_X5_194 mI_X5_stripOrNull mS_X5_stripOrNull mN_X5 mC_X5_stripOrNull) (by decide +kernel) rfl rfl ⟨Nat.le_of_ble_eq_true rfl, Nat.le_of_ble_eq_true rfl⟩ hG hP9 rfl hl.1 rfl (Nat.le_of_ble_eq_true rfl) dX5_setSpeed_2 ⟨Nat.le_of_ble_eq_true rfl, Nat.le_of_ble_eq_true rfl⟩) (fun r2 h2 => ?_)
  obtain rfl : r2 = (some (sl s0)) := h2
  refine tpv (y := .ref (sl s0)) rfl ?_
  refine lv_astore (lv' := [(4, .ref (sl s0)), (0, .ref xo), (1, .int (nI s0)), (2, .int p1), (3, .int q1)]) hx hb dX5_setSpeed_5 hl (by decide) rfl (fun ls hl => ?_)
  refine lv_aload hx hb dX5_setSpeed_7 (lv_at hl 0 rfl) ?_
  refine lv_ifnonnull (tgt := 22) hx hb dX5_setSpeed_9 (by decide) ?_
  refine lv_iload_n hx hb dX5_setSpeed_22 rfl (lv_at hl 3 rfl) ?_
  refine lv_iconst (v := 1) hx hb dX5_setSpeed_23 (by decide) ?_
  refine lv_bipush (v := 9) hx hb dX5_setSpeed_24 (by decide) ?_
  have hP9 : va_P D cls [] H := fun k q h => by simp at h
  refine vp_callSi (pS (rest := []) [.int p1, .int 1, .int 9] 3 hC (c_isIn l D (x := p1) (a := 1) (b := 9) ) (gS mM_X5_41 mT_X5_isIn mN_X5 mC_X5_isIn) (by decide +kernel) rfl rfl ⟨Nat.le_of_ble_eq_true rfl, Nat.le_of_ble_eq_true rfl⟩ hG hP9 rfl hl.1 rfl (Nat.le_of_ble_eq_true rfl) dX5_setSpeed_26 ⟨Nat.le_of_ble_eq_true rfl, Nat.le_of_ble_eq_true rfl⟩) (fun r26 h26 => ?_)
  rcases h26 with ⟨rfl, hb26⟩ | ⟨rfl, hb26⟩
  rotate_left
  · exact absurd (h.1) hb26
  refine lv_if_eq (tgt := 42) hx hb dX5_setSpeed_29 (by decide) (fun h9 => absurd h9 (by decide)) (fun _ => ?_)
  refine lv_iload_n hx hb dX5_setSpeed_32 rfl (lv_at hl 4 rfl) ?_
  refine lv_iconst (v := 1) hx hb dX5_setSpeed_33 (by decide) ?_
  refine lv_bipush (v := 9) hx hb dX5_setSpeed_34 (by decide) ?_
  have hP9 : va_P D cls [] H := fun k q h => by simp at h
  refine vp_callSi (pS (rest := []) [.int q1, .int 1, .int 9] 3 hC (c_isIn l D (x := q1) (a := 1) (b := 9) ) (gS mM_X5_41 mT_X5_isIn mN_X5 mC_X5_isIn) (by decide +kernel) rfl rfl ⟨Nat.le_of_ble_eq_true rfl, Nat.le_of_ble_eq_true rfl⟩ hG hP9 rfl hl.1 rfl (Nat.le_of_ble_eq_true rfl) dX5_setSpeed_36 ⟨Nat.le_of_ble_eq_true rfl, Nat.le_of_ble_eq_true rfl⟩) (fun r36 h36 => ?_)
  rcases h36 with ⟨rfl, hb36⟩ | ⟨rfl, hb36⟩
  rotate_left
  · exact absurd (h.2) hb36
  refine lv_if_ne (tgt := 52) hx hb dX5_setSpeed_39 (by decide) (fun _ => ?_) (fun h9 => absurd h9 (by decide))
  refine lv_aload hx hb dX5_setSpeed_52 (lv_at hl 0 rfl) ?_
  refine lv_iload_n hx hb dX5_setSpeed_54 rfl (lv_at hl 3 rfl) ?_
  refine va_putN (D := D) (ci := 3) (v := .int p1) (ty := .int) (C := RX3) (T := TX3) (N := 13) hx hb hts inlX3 tyX3 tyX3_ok nmX3 hown hG.K hP hD hS 3 rfl rfl 5 (by decide) (va_Nw.use rfl (nF_KeyStage_200 hG)) (fun _ h9 => h9) rfl (by decide +kernel) rfl rfl (Nat.le_of_ble_eq_true rfl) dX5_setSpeed_55 (fun H locs hP hD hS => ?_)
  have hP : va_P D cls [oO xo 5 [.ref lc, .ref lt, .ref bo, .ref yo, .ref no], oO lt 7 [.int m2, .ref et, .int (nI nS)], aO D et 10 (lsF sl nS), oO (sl s0) 3 [.ref co, .int (pt 0), .int (pt 1), .int (pt 3), .int (pt 4), .int p1, .int (pt 6), .int (pt 7), .int (pt 8), .int (pt 9), .int (pt 10), .int (pt 11), .int (pt 12)], oO co 0 [.int len, .ref ta, .ref (q 0), .ref (q 1)]] H := hP
  have hD : va_D A [oO xo 5 [.ref lc, .ref lt, .ref bo, .ref yo, .ref no], oO lt 7 [.int m2, .ref et, .int (nI nS)], aO D et 10 (lsF sl nS), oO (sl s0) 3 [.ref co, .int (pt 0), .int (pt 1), .int (pt 3), .int (pt 4), .int p1, .int (pt 6), .int (pt 7), .int (pt 8), .int (pt 9), .int (pt 10), .int (pt 11), .int (pt 12)], oO co 0 [.int len, .ref ta, .ref (q 0), .ref (q 1)]] := hD
  refine lv_aload hx hb dX5_setSpeed_58 (lv_at hl 0 rfl) ?_
  refine lv_iload_n hx hb dX5_setSpeed_60 rfl (lv_at hl 4 rfl) ?_
  refine va_putN (D := D) (ci := 3) (v := .int q1) (ty := .int) (C := RX3) (T := TX3) (N := 13) hx hb hts inlX3 tyX3 tyX3_ok nmX3 hown hG.K hP hD hS 3 rfl rfl 6 (by decide) (va_Nw.use rfl (nF_KeyStage_203 hG)) (fun _ h9 => h9) rfl (by decide +kernel) rfl rfl (Nat.le_of_ble_eq_true rfl) dX5_setSpeed_61 (fun H locs hP hD hS => ?_)
  have hP : va_P D cls [oO xo 5 [.ref lc, .ref lt, .ref bo, .ref yo, .ref no], oO lt 7 [.int m2, .ref et, .int (nI nS)], aO D et 10 (lsF sl nS), oO (sl s0) 3 [.ref co, .int (pt 0), .int (pt 1), .int (pt 3), .int (pt 4), .int p1, .int q1, .int (pt 7), .int (pt 8), .int (pt 9), .int (pt 10), .int (pt 11), .int (pt 12)], oO co 0 [.int len, .ref ta, .ref (q 0), .ref (q 1)]] H := hP
  have hD : va_D A [oO xo 5 [.ref lc, .ref lt, .ref bo, .ref yo, .ref no], oO lt 7 [.int m2, .ref et, .int (nI nS)], aO D et 10 (lsF sl nS), oO (sl s0) 3 [.ref co, .int (pt 0), .int (pt 1), .int (pt 3), .int (pt 4), .int p1, .int q1, .int (pt 7), .int (pt 8), .int (pt 9), .int (pt 10), .int (pt 11), .int (pt 12)], oO co 0 [.int len, .ref ta, .ref (q 0), .ref (q 1)]] := hD
  have hP : va_P D cls [oO xo 5 [.ref lc, .ref lt, .ref bo, .ref yo, .ref no], oO lt 7 [.int m2, .ref et, .int (nI nS)], aO D et 10 (lsF sl nS), oO (sl s0) 3 [.ref co, .int ((upd (upd pt 5 p1) 6 q1) 0), .int ((upd (upd pt 5 p1) 6 q1) 1), .int ((upd (upd pt 5 p1) 6 q1) 3), .int ((upd (upd pt 5 p1) 6 q1) 4), .int ((upd (upd pt 5 p1) 6 q1) 5), .int ((upd (upd pt 5 p1) 6 q1) 6), .int ((upd (upd pt 5 p1) 6 q1) 7), .int ((upd (upd pt 5 p1) 6 q1) 8), .int ((upd (upd pt 5 p1) 6 q1) 9), .int ((upd (upd pt 5 p1) 6 q1) 10), .int ((upd (upd pt 5 p1) 6 q1) 11), .int ((upd (upd pt 5 p1) 6 q1) 12)], oO co 0 [.int len, .ref ta, .ref (q 0), .ref (q 1)]] H := hP
  have hD : va_D A [oO xo 5 [.ref lc, .ref lt, .ref bo, .ref yo, .ref no], oO lt 7 [.int m2, .ref et, .int (nI nS)], aO D et 10 (lsF sl nS), oO (sl s0) 3 [.ref co, .int ((upd (upd pt 5 p1) 6 q1) 0), .int ((upd (upd pt 5 p1) 6 q1) 1), .int ((upd (upd pt 5 p1) 6 q1) 3), .int ((upd (upd pt 5 p1) 6 q1) 4), .int ((upd (upd pt 5 p1) 6 q1) 5), .int ((upd (upd pt 5 p1) 6 q1) 6), .int ((upd (upd pt 5 p1) 6 q1) 7), .int ((upd (upd pt 5 p1) 6 q1) 8), .int ((upd (upd pt 5 p1) 6 q1) 9), .int ((upd (upd pt 5 p1) 6 q1) 10), .int ((upd (upd pt 5 p1) 6 q1) 11), .int ((upd (upd pt 5 p1) 6 q1) 12)], oO co 0 [.int len, .ref ta, .ref (q 0), .ref (q 1)]] := hD
  refine lv_aload hx hb dX5_setSpeed_64 (lv_at hl 0 rfl) ?_
  have hP9 := hP.sub (ws' := [oO (sl s0) 3 [.ref co, .int ((upd (upd pt 5 p1) 6 q1) 0), .int ((upd (upd pt 5 p1) 6 q1) 1), .int ((upd (upd pt 5 p1) 6 q1) 3), .int ((upd (upd pt 5 p1) 6 q1) 4), .int ((upd (upd pt 5 p1) 6 q1) 5), .int ((upd (upd pt 5 p1) 6 q1) 6), .int ((upd (upd pt 5 p1) 6 q1) 7), .int ((upd (upd pt 5 p1) 6 q1) 8), .int ((upd (upd pt 5 p1) 6 q1) 9), .int ((upd (upd pt 5 p1) 6 q1) 10), .int ((upd (upd pt 5 p1) 6 q1) 11), .int ((upd (upd pt 5 p1) 6 q1) 12)], oO co 0 [.int len, .ref ta, .ref (q 0), .ref (q 1)]]) [3, 4] rfl
  refine vp_callSi (pV (rest := []) (qc := (RX3, TX3, 13)) [] 0 hC (c_endTime l D (pt := upd (upd pt 5 p1) 6 q1) (so := sl s0) (co := co) (len := len) (ta := ta) (pos1 h.1.1)) rfl (hP 3 _ rfl) (gV mM_X5_206 mI_X3_endTime mS_X3_endTime mN_X3 mC_X3_endTime) (by decide +kernel) rfl rfl ⟨Nat.le_of_ble_eq_true rfl, Nat.le_of_ble_eq_true rfl⟩ hG hP9 rfl hl.1 rfl (Nat.le_of_ble_eq_true rfl) dX5_setSpeed_66 ⟨Nat.le_of_ble_eq_true rfl, Nat.le_of_ble_eq_true rfl⟩) (fun r66 h66 => ?_)
  obtain rfl : r66 = (endS len (upd (upd pt 5 p1) 6 q1)) := h66
  refine Wi () hx hb hr hlk ?_ hP hD hS (Nat.le_of_ble_eq_true rfl) (by first | exact Nat.le_of_ble_eq_true rfl | exact Nat.le_of_eq (Nat.zero_add _)) dX5_setSpeed_69
  exact rfl
set_option maxHeartbeats 4000000 in
set_option maxRecDepth 100000 in
theorem t_setBlend_1 (l : Launch) (D : va_G) (hns : l.stackTraces = false) {xo lc lt bo yo no : Nat} {et nS : Nat} {m2 : Int32} {x p1 q1 ad hd : Int32} (hz0 : Nat) (hnS : nS ≤ 10) (hxx : x < 0 ∨ nI nS ≤ x) : vx_Met l yX5_setBlend (ws_ yX5_setBlend cX5_setBlend 8 (some .int)) ({ frames := 6, cells := 1, slots := 6, locals := 102 } : Room) (va_Pc [.ref xo, .int x, .int p1, .int q1, .int ad, .int hd] (TW D [oO xo 5 [.ref lc, .ref lt, .ref bo, .ref yo, .ref no], oO lt 7 [.int m2, .ref et, .int (nI nS)]] hz0)) (va_Qi (fun _ (_ : Unit) => False) (fun _ _ => False) (va_A [] hz0)) (XE "java/lang/IndexOutOfBoundsException" (va_A [] hz0)) 1 6 (va_A [] hz0) := by
  refine vx_ofW (cc := cX5_setBlend) (maxL := 8) (ret := (some .int)) (by decide) rfl ?_
  intro p e s m args below meth c s₁ B hml hne hv
  obtain ⟨rfl, hsz, hG, hP, hZ⟩ := hv
  subst hsz
  have hx := B.exec
  have hb := B.bytes
  have hr := B.returns
  have hts : ∀ w ∈ wsL_law, w.before _ s = true := fun w h => atoms_spec (ws := (ws_ yX5_setBlend cX5_setBlend 8 (some .int))) B.pre w (List.mem_cons_of_mem _ h)
  have hown : s.vm.findClass RX5 = some m.cls := findClass_of_methodNamed B.named
  have hlk := B.notSynchronized
  have hC : CallFix p m c cX5_setBlend 8 s _ wsL_law RX5 := ⟨hx, hb, hml, hown, hts⟩
  have hl := lv_entry ([.ref xo, .int x, .int p1, .int q1, .int ad, .int hd]) (n := 8) (Nat.le_of_ble_eq_true rfl)
  rw [lg_entry_eq]
  generalize (lg_sl ([.ref xo, .int x, .int p1, .int q1, .int ad, .int hd]) ++ List.replicate (8 - (lg_sl ([.ref xo, .int x, .int p1, .int q1, .int ad, .int hd])).length) Slot.unset).toArray = ls at hl ⊢
  have hl : lv_has ls 8 [(0, .ref xo), (1, .int x), (2, .int p1), (3, .int q1), (4, .int ad), (5, .int hd)] := hl
  refine lv_aload_n hx hb dX5_setBlend_0 rfl (lv_at hl 0 rfl) ?_
  refine lv_iload_n hx hb dX5_setBlend_1 rfl (lv_at hl 1 rfl) ?_
  have hP9 := hP
  refine va_csq (pV (rest := []) (qc := (RX5, TX5, 5)) [.int x] 1 hC (c_stripOrNull_no l D (xo := xo) (x := x) (lc := lc) (lt := lt) (bo := bo) (yo := yo) (no := no) (m2 := m2) (et := et) (nS := nS) (by omega) (hxx)) rfl (hP 0 _ rfl) (gV mM_X5_194 mI_X5_stripOrNull mS_X5_stripOrNull mN_X5 mC_X5_stripOrNull) (by decide +kernel) rfl rfl ⟨Nat.le_of_ble_eq_true rfl, Nat.le_of_ble_eq_true rfl⟩ hG hP9 rfl hl.1 rfl (Nat.le_of_ble_eq_true rfl) dX5_setBlend_2 ⟨Nat.le_of_ble_eq_true rfl, Nat.le_of_ble_eq_true rfl⟩) (fun r2 h2 => ?_)
  obtain rfl : none = r2 := Eq.symm h2
  refine tpv (y := .null) rfl ?_
  refine lv_astoreN (lv' := [(6, .null), (0, .ref xo), (1, .int x), (2, .int p1), (3, .int q1), (4, .int ad), (5, .int hd)]) hx hb dX5_setBlend_5 hl (by decide) rfl (fun ls hl => ?_)
  refine lv_aloadN hx hb dX5_setBlend_7 (lv_at hl 0 rfl) ?_
  refine lv_ifnonnullN hx hb dX5_setBlend_9 ?_
  obtain ⟨sa, hsa⟩ := gkS hG 21 rfl
  exact vx_throwS (ik := 72) (is := 188) (ic := 76) (cls := "java/lang/IndexOutOfBoundsException") (names := tXn) hx hb hns hown (by decide +kernel) (by decide +kernel) (hts _ mK_X5_72) (hts _ mN__java_lang_IndexOutOfBoundsException_) hsa (vx_hat (fun w hw => hts w (thr_in76 w hw)) thr_bad76 (thr_B 4 hG rfl)) thr_ot76 hZ.1 hZ.2 va_S.rf (by rw [hml]; exact hl.1) dX5_setBlend_12 dX5_setBlend_15 dX5_setBlend_16 dX5_setBlend_18 dX5_setBlend_21 (fun x hx => (hne x hx).elim) (Nat.le_of_ble_eq_true rfl) (Nat.le_of_ble_eq_true rfl) (Nat.le_of_ble_eq_true rfl) (Nat.le_of_ble_eq_true rfl) hlk (XE.of rfl) (fun q hq => absurd hq List.not_mem_nil) (Nat.le_of_ble_eq_true rfl) (Nat.le_of_ble_eq_true rfl)
set_option maxHeartbeats 4000000 in
set_option maxRecDepth 100000 in
theorem t_setBlend_2 (l : Launch) (D : va_G) (hns : l.stackTraces = false) {xo lc lt bo yo no : Nat} {et nS : Nat} {m2 : Int32} {s0 co : Nat} {sl : Nat → Nat} {pt : Nat → Int32} {p1 q1 ad hd : Int32} (hz0 : Nat) (hnS : nS ≤ 10) (hs0 : s0 < nS) (h : ¬ ((0 ≤ p1 ∧ p1 ≤ 9) ∧ (0 ≤ q1 ∧ q1 ≤ 100))) : vx_Met l yX5_setBlend (ws_ yX5_setBlend cX5_setBlend 8 (some .int)) ({ frames := 6, cells := 1, slots := 6, locals := 102 } : Room) (va_Pc [.ref xo, .int (nI s0), .int p1, .int q1, .int ad, .int hd] (TW D [oO xo 5 [.ref lc, .ref lt, .ref bo, .ref yo, .ref no], oO lt 7 [.int m2, .ref et, .int (nI nS)], aO D et 10 (lsF sl nS), oO (sl s0) 3 [.ref co, .int (pt 0), .int (pt 1), .int (pt 3), .int (pt 4), .int (pt 5), .int (pt 6), .int (pt 7), .int (pt 8), .int (pt 9), .int (pt 10), .int (pt 11), .int (pt 12)]] hz0)) (va_Qi (fun _ (_ : Unit) => False) (fun _ _ => False) (va_A [] hz0)) (XE "java/lang/IllegalArgumentException" (va_A [] hz0)) 1 6 (va_A [] hz0) := by
  refine vx_ofW (cc := cX5_setBlend) (maxL := 8) (ret := (some .int)) (by decide) rfl ?_
  intro p e s m args below meth c s₁ B hml hne hv
  obtain ⟨rfl, hsz, hG, hP, hZ⟩ := hv
  subst hsz
  have hx := B.exec
  have hb := B.bytes
  have hr := B.returns
  have hts : ∀ w ∈ wsL_law, w.before _ s = true := fun w h => atoms_spec (ws := (ws_ yX5_setBlend cX5_setBlend 8 (some .int))) B.pre w (List.mem_cons_of_mem _ h)
  have hown : s.vm.findClass RX5 = some m.cls := findClass_of_methodNamed B.named
  have hlk := B.notSynchronized
  have hC : CallFix p m c cX5_setBlend 8 s _ wsL_law RX5 := ⟨hx, hb, hml, hown, hts⟩
  have hl := lv_entry ([.ref xo, .int (nI s0), .int p1, .int q1, .int ad, .int hd]) (n := 8) (Nat.le_of_ble_eq_true rfl)
  rw [lg_entry_eq]
  generalize (lg_sl ([.ref xo, .int (nI s0), .int p1, .int q1, .int ad, .int hd]) ++ List.replicate (8 - (lg_sl ([.ref xo, .int (nI s0), .int p1, .int q1, .int ad, .int hd])).length) Slot.unset).toArray = ls at hl ⊢
  have hl : lv_has ls 8 [(0, .ref xo), (1, .int (nI s0)), (2, .int p1), (3, .int q1), (4, .int ad), (5, .int hd)] := hl
  refine lv_aload_n hx hb dX5_setBlend_0 rfl (lv_at hl 0 rfl) ?_
  refine lv_iload_n hx hb dX5_setBlend_1 rfl (lv_at hl 1 rfl) ?_
  have hP9 := hP
  refine va_csq (pV (rest := []) (qc := (RX5, TX5, 5)) [.int (nI s0)] 1 hC (c_stripOrNull l D (xo := xo) (s0 := s0) (lc := lc) (lt := lt) (bo := bo) (yo := yo) (no := no) (m2 := m2) (et := et) (nS := nS) (co := co) (by omega) (by omega)) rfl (hP 0 _ rfl) (gV mM_X5_194 mI_X5_stripOrNull mS_X5_stripOrNull mN_X5 mC_X5_stripOrNull) (by decide +kernel) rfl rfl ⟨Nat.le_of_ble_eq_true rfl, Nat.le_of_ble_eq_true rfl⟩ hG hP9 rfl hl.1 rfl (Nat.le_of_ble_eq_true rfl) dX5_setBlend_2 ⟨Nat.le_of_ble_eq_true rfl, Nat.le_of_ble_eq_true rfl⟩) (fun r2 h2 => ?_)
  obtain rfl : r2 = (some (sl s0)) := h2
  refine tpv (y := .ref (sl s0)) rfl ?_
  refine lv_astore (lv' := [(6, .ref (sl s0)), (0, .ref xo), (1, .int (nI s0)), (2, .int p1), (3, .int q1), (4, .int ad), (5, .int hd)]) hx hb dX5_setBlend_5 hl (by decide) rfl (fun ls hl => ?_)
  refine lv_aload hx hb dX5_setBlend_7 (lv_at hl 0 rfl) ?_
  refine lv_ifnonnull (tgt := 22) hx hb dX5_setBlend_9 (by decide) ?_
  refine lv_iload_n hx hb dX5_setBlend_22 rfl (lv_at hl 3 rfl) ?_
  refine lv_iconst (v := 0) hx hb dX5_setBlend_23 (by decide) ?_
  refine lv_bipush (v := 9) hx hb dX5_setBlend_24 (by decide) ?_
  have hP9 : va_P D cls [] s.heap := fun k q h => by simp at h
  refine vp_callSi (pS (rest := []) [.int p1, .int 0, .int 9] 3 hC (c_isIn l D (x := p1) (a := 0) (b := 9) ) (gS mM_X5_41 mT_X5_isIn mN_X5 mC_X5_isIn) (by decide +kernel) rfl rfl ⟨Nat.le_of_ble_eq_true rfl, Nat.le_of_ble_eq_true rfl⟩ hG hP9 rfl hl.1 rfl (Nat.le_of_ble_eq_true rfl) dX5_setBlend_26 ⟨Nat.le_of_ble_eq_true rfl, Nat.le_of_ble_eq_true rfl⟩) (fun r26 h26 => ?_)
  rcases h26 with ⟨rfl, hb26⟩ | ⟨rfl, hb26⟩
  · skip
    refine lv_if_eq (tgt := 42) hx hb dX5_setBlend_29 (by decide) (fun h9 => absurd h9 (by decide)) (fun _ => ?_)
    refine lv_iload_n hx hb dX5_setBlend_32 rfl (lv_at hl 4 rfl) ?_
    refine lv_iconst (v := 0) hx hb dX5_setBlend_33 (by decide) ?_
    refine lv_bipush (v := 100) hx hb dX5_setBlend_34 (by decide) ?_
    have hP9 : va_P D cls [] s.heap := fun k q h => by simp at h
    refine vp_callSi (pS (rest := []) [.int q1, .int 0, .int 100] 3 hC (c_isIn l D (x := q1) (a := 0) (b := 100) ) (gS mM_X5_41 mT_X5_isIn mN_X5 mC_X5_isIn) (by decide +kernel) rfl rfl ⟨Nat.le_of_ble_eq_true rfl, Nat.le_of_ble_eq_true rfl⟩ hG hP9 rfl hl.1 rfl (Nat.le_of_ble_eq_true rfl) dX5_setBlend_36 ⟨Nat.le_of_ble_eq_true rfl, Nat.le_of_ble_eq_true rfl⟩) (fun r36 h36 => ?_)
    rcases h36 with ⟨rfl, hb36⟩ | ⟨rfl, hb36⟩
    · exact absurd hb36 (fun h9 => h ⟨hb26, h9⟩)
    refine lv_if_ne (tgt := 52) hx hb dX5_setBlend_39 (by decide) (fun h9 => (h9 (by decide)).elim) (fun _ => ?_)
    obtain ⟨sa, hsa⟩ := gkS hG 23 rfl
    exact vx_throwS (ik := 45) (is := 209) (ic := 49) (cls := "java/lang/IllegalArgumentException") (names := tXn) hx hb hns hown (by decide +kernel) (by decide +kernel) (hts _ mK_X5_45) (hts _ mN__java_lang_IllegalArgumentException_) hsa (vx_hat (fun w hw => hts w (thr_in49 w hw)) thr_bad49 (thr_B 2 hG rfl)) thr_ot49 hZ.1 hZ.2 va_S.rf (by rw [hml]; exact hl.1) dX5_setBlend_42 dX5_setBlend_45 dX5_setBlend_46 dX5_setBlend_48 dX5_setBlend_51 (fun x hx => (hne x hx).elim) (Nat.le_of_ble_eq_true rfl) (Nat.le_of_ble_eq_true rfl) (Nat.le_of_ble_eq_true rfl) (Nat.le_of_ble_eq_true rfl) hlk (XE.of rfl) (fun q hq => absurd hq List.not_mem_nil) (Nat.le_of_ble_eq_true rfl) (Nat.le_of_ble_eq_true rfl)
  · skip
    refine lv_if_eq (tgt := 42) hx hb dX5_setBlend_29 (by decide) (fun _ => ?_) (fun h9 => (h9 (by decide)).elim)
    obtain ⟨sa, hsa⟩ := gkS hG 23 rfl
    exact vx_throwS (ik := 45) (is := 209) (ic := 49) (cls := "java/lang/IllegalArgumentException") (names := tXn) hx hb hns hown (by decide +kernel) (by decide +kernel) (hts _ mK_X5_45) (hts _ mN__java_lang_IllegalArgumentException_) hsa (vx_hat (fun w hw => hts w (thr_in49 w hw)) thr_bad49 (thr_B 2 hG rfl)) thr_ot49 hZ.1 hZ.2 va_S.rf (by rw [hml]; exact hl.1) dX5_setBlend_42 dX5_setBlend_45 dX5_setBlend_46 dX5_setBlend_48 dX5_setBlend_51 (fun x hx => (hne x hx).elim) (Nat.le_of_ble_eq_true rfl) (Nat.le_of_ble_eq_true rfl) (Nat.le_of_ble_eq_true rfl) (Nat.le_of_ble_eq_true rfl) hlk (XE.of rfl) (fun q hq => absurd hq List.not_mem_nil) (Nat.le_of_ble_eq_true rfl) (Nat.le_of_ble_eq_true rfl)
set_option maxHeartbeats 4000000 in
set_option maxRecDepth 100000 in
theorem c_setBlend (l : Launch) (D : va_G) {xo lc lt bo yo no : Nat} {et nS : Nat} {m2 : Int32} {s0 co : Nat} {sl : Nat → Nat} {pt : Nat → Int32} {p1 q1 ad hd : Int32} (hz0 : Nat) (hnS : nS ≤ 10) (hs0 : s0 < nS) (h : (0 ≤ p1 ∧ p1 ≤ 9) ∧ (0 ≤ q1 ∧ q1 ≤ 100)) (had : ad = 0 ∨ ad = 1) (hhd : hd = 0 ∨ hd = 1) : Met l yX5_setBlend (ws_ yX5_setBlend cX5_setBlend 8 (some .int)) ({ frames := 6, cells := 0, slots := 0, locals := 102 } : Room) (va_Pc [.ref xo, .int (nI s0), .int p1, .int q1, .int ad, .int hd] (SW D [oO xo 5 [.ref lc, .ref lt, .ref bo, .ref yo, .ref no], oO lt 7 [.int m2, .ref et, .int (nI nS)], aO D et 10 (lsF sl nS), oO (sl s0) 3 [.ref co, .int (pt 0), .int (pt 1), .int (pt 3), .int (pt 4), .int (pt 5), .int (pt 6), .int (pt 7), .int (pt 8), .int (pt 9), .int (pt 10), .int (pt 11), .int (pt 12)]] hz0)) (va_Qi (fun v _ => v = pt 7) (AT D (va_A [oO xo 5 [.ref lc, .ref lt, .ref bo, .ref yo, .ref no], oO lt 7 [.int m2, .ref et, .int (nI nS)], aO D et 10 (lsF sl nS), oO (sl s0) 3 [.ref co, .int (pt 0), .int (pt 1), .int (pt 3), .int (pt 4), .int (pt 5), .int (pt 6), .int (pt 7), .int (pt 8), .int (pt 9), .int (pt 10), .int (pt 11), .int (pt 12)]] hz0) (fun _ : Unit => [oO xo 5 [.ref lc, .ref lt, .ref bo, .ref yo, .ref no], oO lt 7 [.int m2, .ref et, .int (nI nS)], aO D et 10 (lsF sl nS), oO (sl s0) 3 [.ref co, .int ((upd (upd (upd (upd pt 7 p1) 8 q1) 9 ad) 10 hd) 0), .int ((upd (upd (upd (upd pt 7 p1) 8 q1) 9 ad) 10 hd) 1), .int ((upd (upd (upd (upd pt 7 p1) 8 q1) 9 ad) 10 hd) 3), .int ((upd (upd (upd (upd pt 7 p1) 8 q1) 9 ad) 10 hd) 4), .int ((upd (upd (upd (upd pt 7 p1) 8 q1) 9 ad) 10 hd) 5), .int ((upd (upd (upd (upd pt 7 p1) 8 q1) 9 ad) 10 hd) 6), .int ((upd (upd (upd (upd pt 7 p1) 8 q1) 9 ad) 10 hd) 7), .int ((upd (upd (upd (upd pt 7 p1) 8 q1) 9 ad) 10 hd) 8), .int ((upd (upd (upd (upd pt 7 p1) 8 q1) 9 ad) 10 hd) 9), .int ((upd (upd (upd (upd pt 7 p1) 8 q1) 9 ad) 10 hd) 10), .int ((upd (upd (upd (upd pt 7 p1) 8 q1) 9 ad) 10 hd) 11), .int ((upd (upd (upd (upd pt 7 p1) 8 q1) 9 ad) 10 hd) 12)]])) (va_A [oO xo 5 [.ref lc, .ref lt, .ref bo, .ref yo, .ref no], oO lt 7 [.int m2, .ref et, .int (nI nS)], aO D et 10 (lsF sl nS), oO (sl s0) 3 [.ref co, .int (pt 0), .int (pt 1), .int (pt 3), .int (pt 4), .int (pt 5), .int (pt 6), .int (pt 7), .int (pt 8), .int (pt 9), .int (pt 10), .int (pt 11), .int (pt 12)]] hz0)) 0 0 (va_A [oO xo 5 [.ref lc, .ref lt, .ref bo, .ref yo, .ref no], oO lt 7 [.int m2, .ref et, .int (nI nS)], aO D et 10 (lsF sl nS), oO (sl s0) 3 [.ref co, .int (pt 0), .int (pt 1), .int (pt 3), .int (pt 4), .int (pt 5), .int (pt 6), .int (pt 7), .int (pt 8), .int (pt 9), .int (pt 10), .int (pt 11), .int (pt 12)]] hz0) := by
  refine Met.ofW (cc := cX5_setBlend) (maxL := 8) (ret := (some .int)) (by decide) rfl ?_
  intro p e s m args below meth c s₁ B hml hv
  obtain ⟨rfl, hsz, hG, hP, hD0⟩ := hv
  have hx := B.exec
  have hb := B.bytes
  have hr := B.returns
  have hts : ∀ w ∈ wsL_law, w.before _ s = true := fun w h => atoms_spec (ws := (ws_ yX5_setBlend cX5_setBlend 8 (some .int))) B.pre w (List.mem_cons_of_mem _ h)
  have hown : s.vm.findClass RX5 = some m.cls := findClass_of_methodNamed B.named
  have hlk := B.notSynchronized
  have hC : CallFix p m c cX5_setBlend 8 s _ wsL_law RX5 := ⟨hx, hb, hml, hown, hts⟩
  subst hsz
  have hD := hD0.self (sz := s.heap.size)
  generalize hAe : va_A [oO xo 5 [.ref lc, .ref lt, .ref bo, .ref yo, .ref no], oO lt 7 [.int m2, .ref et, .int (nI nS)], aO D et 10 (lsF sl nS), oO (sl s0) 3 [.ref co, .int (pt 0), .int (pt 1), .int (pt 3), .int (pt 4), .int (pt 5), .int (pt 6), .int (pt 7), .int (pt 8), .int (pt 9), .int (pt 10), .int (pt 11), .int (pt 12)]] s.heap.size = A at hD ⊢
  have hA : ∀ q : Nat, s.heap.size ≤ q → A q := fun q h => by rw [← hAe]; exact Or.inr h
  have hS : va_S A s.heap s.heap [] := va_S.rf
  obtain ⟨H, hHe⟩ : ∃ H, H = s.heap := ⟨_, rfl⟩
  rw [← hHe] at hP
  have hS : va_S A s.heap H [] := by rw [hHe]; exact hS
  have hl := lv_entry ([.ref xo, .int (nI s0), .int p1, .int q1, .int ad, .int hd]) (n := 8) (Nat.le_of_ble_eq_true rfl)
  rw [lg_entry_eq]
  generalize (lg_sl ([.ref xo, .int (nI s0), .int p1, .int q1, .int ad, .int hd]) ++ List.replicate (8 - (lg_sl ([.ref xo, .int (nI s0), .int p1, .int q1, .int ad, .int hd])).length) Slot.unset).toArray = ls at hl ⊢
  have hl : lv_has ls 8 [(0, .ref xo), (1, .int (nI s0)), (2, .int p1), (3, .int q1), (4, .int ad), (5, .int hd)] := hl
  rw [← hHe]
  refine lv_aload_n hx hb dX5_setBlend_0 rfl (lv_at hl 0 rfl) ?_
  refine lv_iload_n hx hb dX5_setBlend_1 rfl (lv_at hl 1 rfl) ?_
  have hP9 := hP
  refine va_csq (pV (rest := []) (qc := (RX5, TX5, 5)) [.int (nI s0)] 1 hC (c_stripOrNull l D (xo := xo) (s0 := s0) (lc := lc) (lt := lt) (bo := bo) (yo := yo) (no := no) (m2 := m2) (et := et) (nS := nS) (co := co) (by omega) (by omega)) rfl (hP 0 _ rfl) (gV mM_X5_194 mI_X5_stripOrNull mS_X5_stripOrNull mN_X5 mC_X5_stripOrNull) (by decide +kernel) rfl rfl ⟨Nat.le_of_ble_eq_true rfl, Nat.le_of_ble_eq_true rfl⟩ hG hP9 rfl hl.1 rfl (Nat.le_of_ble_eq_true rfl) dX5_setBlend_2 ⟨Nat.le_of_ble_eq_true rfl, Nat.le_of_ble_eq_true rfl⟩) (fun r2 h2 => ?_)
  obtain rfl : r2 = (some (sl s0)) := h2
  refine tpv (y := .ref (sl s0)) rfl ?_
  refine lv_astore (lv' := [(6, .ref (sl s0)), (0, .ref xo), (1, .int (nI s0)), (2, .int p1), (3, .int q1), (4, .int ad), (5, .int hd)]) hx hb dX5_setBlend_5 hl (by decide) rfl (fun ls hl => ?_)
  refine lv_aload hx hb dX5_setBlend_7 (lv_at hl 0 rfl) ?_
  refine lv_ifnonnull (tgt := 22) hx hb dX5_setBlend_9 (by decide) ?_
  refine lv_iload_n hx hb dX5_setBlend_22 rfl (lv_at hl 3 rfl) ?_
  refine lv_iconst (v := 0) hx hb dX5_setBlend_23 (by decide) ?_
  refine lv_bipush (v := 9) hx hb dX5_setBlend_24 (by decide) ?_
  have hP9 : va_P D cls [] H := fun k q h => by simp at h
  refine vp_callSi (pS (rest := []) [.int p1, .int 0, .int 9] 3 hC (c_isIn l D (x := p1) (a := 0) (b := 9) ) (gS mM_X5_41 mT_X5_isIn mN_X5 mC_X5_isIn) (by decide +kernel) rfl rfl ⟨Nat.le_of_ble_eq_true rfl, Nat.le_of_ble_eq_true rfl⟩ hG hP9 rfl hl.1 rfl (Nat.le_of_ble_eq_true rfl) dX5_setBlend_26 ⟨Nat.le_of_ble_eq_true rfl, Nat.le_of_ble_eq_true rfl⟩) (fun r26 h26 => ?_)
  rcases h26 with ⟨rfl, hb26⟩ | ⟨rfl, hb26⟩
  rotate_left
  · exact absurd (h.1) hb26
  refine lv_if_eq (tgt := 42) hx hb dX5_setBlend_29 (by decide) (fun h9 => absurd h9 (by decide)) (fun _ => ?_)
  refine lv_iload_n hx hb dX5_setBlend_32 rfl (lv_at hl 4 rfl) ?_
  refine lv_iconst (v := 0) hx hb dX5_setBlend_33 (by decide) ?_
  refine lv_bipush (v := 100) hx hb dX5_setBlend_34 (by decide) ?_
  have hP9 : va_P D cls [] H := fun k q h => by simp at h
  refine vp_callSi (pS (rest := []) [.int q1, .int 0, .int 100] 3 hC (c_isIn l D (x := q1) (a := 0) (b := 100) ) (gS mM_X5_41 mT_X5_isIn mN_X5 mC_X5_isIn) (by decide +kernel) rfl rfl ⟨Nat.le_of_ble_eq_true rfl, Nat.le_of_ble_eq_true rfl⟩ hG hP9 rfl hl.1 rfl (Nat.le_of_ble_eq_true rfl) dX5_setBlend_36 ⟨Nat.le_of_ble_eq_true rfl, Nat.le_of_ble_eq_true rfl⟩) (fun r36 h36 => ?_)
  rcases h36 with ⟨rfl, hb36⟩ | ⟨rfl, hb36⟩
  rotate_left
  · exact absurd (h.2) hb36
  refine lv_if_ne (tgt := 52) hx hb dX5_setBlend_39 (by decide) (fun _ => ?_) (fun h9 => absurd h9 (by decide))
  refine lv_aload hx hb dX5_setBlend_52 (lv_at hl 0 rfl) ?_
  refine va_getN (D := D) (ci := 3) (v := .int (pt 7)) (C := RX3) (T := TX3) (N := 13) hx hb hts inlX3 hown hG.K hP 3 rfl rfl 7 (by decide) (va_Nw.use rfl (nF_KeyStage_211 hG)) (fun _ h9 => h9) rfl dX5_setBlend_54 ?_
  refine lv_istore (lv' := [(7, .int (pt 7)), (6, .ref (sl s0)), (0, .ref xo), (1, .int (nI s0)), (2, .int p1), (3, .int q1), (4, .int ad), (5, .int hd)]) hx hb dX5_setBlend_57 hl (by decide) rfl (fun ls hl => ?_)
  refine lv_aload hx hb dX5_setBlend_59 (lv_at hl 1 rfl) ?_
  refine lv_iload_n hx hb dX5_setBlend_61 rfl (lv_at hl 4 rfl) ?_
  refine va_putN (D := D) (ci := 3) (v := .int p1) (ty := .int) (C := RX3) (T := TX3) (N := 13) hx hb hts inlX3 tyX3 tyX3_ok nmX3 hown hG.K hP hD hS 3 rfl rfl 7 (by decide) (va_Nw.use rfl (nF_KeyStage_211 hG)) (fun _ h9 => h9) rfl (by decide +kernel) rfl rfl (Nat.le_of_ble_eq_true rfl) dX5_setBlend_62 (fun H locs hP hD hS => ?_)
  have hP : va_P D cls [oO xo 5 [.ref lc, .ref lt, .ref bo, .ref yo, .ref no], oO lt 7 [.int m2, .ref et, .int (nI nS)], aO D et 10 (lsF sl nS), oO (sl s0) 3 [.ref co, .int (pt 0), .int (pt 1), .int (pt 3), .int (pt 4), .int (pt 5), .int (pt 6), .int p1, .int (pt 8), .int (pt 9), .int (pt 10), .int (pt 11), .int (pt 12)]] H := hP
  have hD : va_D A [oO xo 5 [.ref lc, .ref lt, .ref bo, .ref yo, .ref no], oO lt 7 [.int m2, .ref et, .int (nI nS)], aO D et 10 (lsF sl nS), oO (sl s0) 3 [.ref co, .int (pt 0), .int (pt 1), .int (pt 3), .int (pt 4), .int (pt 5), .int (pt 6), .int p1, .int (pt 8), .int (pt 9), .int (pt 10), .int (pt 11), .int (pt 12)]] := hD
  refine lv_aload hx hb dX5_setBlend_65 (lv_at hl 1 rfl) ?_
  refine lv_iload_n hx hb dX5_setBlend_67 rfl (lv_at hl 5 rfl) ?_
  refine va_putN (D := D) (ci := 3) (v := .int q1) (ty := .int) (C := RX3) (T := TX3) (N := 13) hx hb hts inlX3 tyX3 tyX3_ok nmX3 hown hG.K hP hD hS 3 rfl rfl 8 (by decide) (va_Nw.use rfl (nF_KeyStage_214 hG)) (fun _ h9 => h9) rfl (by decide +kernel) rfl rfl (Nat.le_of_ble_eq_true rfl) dX5_setBlend_68 (fun H locs hP hD hS => ?_)
  have hP : va_P D cls [oO xo 5 [.ref lc, .ref lt, .ref bo, .ref yo, .ref no], oO lt 7 [.int m2, .ref et, .int (nI nS)], aO D et 10 (lsF sl nS), oO (sl s0) 3 [.ref co, .int (pt 0), .int (pt 1), .int (pt 3), .int (pt 4), .int (pt 5), .int (pt 6), .int p1, .int q1, .int (pt 9), .int (pt 10), .int (pt 11), .int (pt 12)]] H := hP
  have hD : va_D A [oO xo 5 [.ref lc, .ref lt, .ref bo, .ref yo, .ref no], oO lt 7 [.int m2, .ref et, .int (nI nS)], aO D et 10 (lsF sl nS), oO (sl s0) 3 [.ref co, .int (pt 0), .int (pt 1), .int (pt 3), .int (pt 4), .int (pt 5), .int (pt 6), .int p1, .int q1, .int (pt 9), .int (pt 10), .int (pt 11), .int (pt 12)]] := hD
  refine lv_aload hx hb dX5_setBlend_71 (lv_at hl 1 rfl) ?_
  refine lv_iload hx hb dX5_setBlend_73 (lv_at hl 6 rfl) ?_
  refine va_putN (D := D) (ci := 3) (v := .int ad) (ty := .boolean) (C := RX3) (T := TX3) (N := 13) hx hb hts inlX3 tyX3 tyX3_ok nmX3 hown hG.K hP hD hS 3 rfl rfl 9 (by decide) (va_Nw.use rfl (nF_KeyStage_217 hG)) (fun _ h9 => h9) rfl (by decide +kernel) (by rcases had with rfl | rfl <;> rfl) (by rcases had with rfl | rfl <;> rfl) (Nat.le_of_ble_eq_true rfl) dX5_setBlend_75 (fun H locs hP hD hS => ?_)
  have hP : va_P D cls [oO xo 5 [.ref lc, .ref lt, .ref bo, .ref yo, .ref no], oO lt 7 [.int m2, .ref et, .int (nI nS)], aO D et 10 (lsF sl nS), oO (sl s0) 3 [.ref co, .int (pt 0), .int (pt 1), .int (pt 3), .int (pt 4), .int (pt 5), .int (pt 6), .int p1, .int q1, .int ad, .int (pt 10), .int (pt 11), .int (pt 12)]] H := hP
  have hD : va_D A [oO xo 5 [.ref lc, .ref lt, .ref bo, .ref yo, .ref no], oO lt 7 [.int m2, .ref et, .int (nI nS)], aO D et 10 (lsF sl nS), oO (sl s0) 3 [.ref co, .int (pt 0), .int (pt 1), .int (pt 3), .int (pt 4), .int (pt 5), .int (pt 6), .int p1, .int q1, .int ad, .int (pt 10), .int (pt 11), .int (pt 12)]] := hD
  refine lv_aload hx hb dX5_setBlend_78 (lv_at hl 1 rfl) ?_
  refine lv_iload hx hb dX5_setBlend_80 (lv_at hl 7 rfl) ?_
  refine va_putN (D := D) (ci := 3) (v := .int hd) (ty := .boolean) (C := RX3) (T := TX3) (N := 13) hx hb hts inlX3 tyX3 tyX3_ok nmX3 hown hG.K hP hD hS 3 rfl rfl 10 (by decide) (va_Nw.use rfl (nF_KeyStage_221 hG)) (fun _ h9 => h9) rfl (by decide +kernel) (by rcases hhd with rfl | rfl <;> rfl) (by rcases hhd with rfl | rfl <;> rfl) (Nat.le_of_ble_eq_true rfl) dX5_setBlend_82 (fun H locs hP hD hS => ?_)
  have hP : va_P D cls [oO xo 5 [.ref lc, .ref lt, .ref bo, .ref yo, .ref no], oO lt 7 [.int m2, .ref et, .int (nI nS)], aO D et 10 (lsF sl nS), oO (sl s0) 3 [.ref co, .int (pt 0), .int (pt 1), .int (pt 3), .int (pt 4), .int (pt 5), .int (pt 6), .int p1, .int q1, .int ad, .int hd, .int (pt 11), .int (pt 12)]] H := hP
  have hD : va_D A [oO xo 5 [.ref lc, .ref lt, .ref bo, .ref yo, .ref no], oO lt 7 [.int m2, .ref et, .int (nI nS)], aO D et 10 (lsF sl nS), oO (sl s0) 3 [.ref co, .int (pt 0), .int (pt 1), .int (pt 3), .int (pt 4), .int (pt 5), .int (pt 6), .int p1, .int q1, .int ad, .int hd, .int (pt 11), .int (pt 12)]] := hD
  have hP : va_P D cls [oO xo 5 [.ref lc, .ref lt, .ref bo, .ref yo, .ref no], oO lt 7 [.int m2, .ref et, .int (nI nS)], aO D et 10 (lsF sl nS), oO (sl s0) 3 [.ref co, .int ((upd (upd (upd (upd pt 7 p1) 8 q1) 9 ad) 10 hd) 0), .int ((upd (upd (upd (upd pt 7 p1) 8 q1) 9 ad) 10 hd) 1), .int ((upd (upd (upd (upd pt 7 p1) 8 q1) 9 ad) 10 hd) 3), .int ((upd (upd (upd (upd pt 7 p1) 8 q1) 9 ad) 10 hd) 4), .int ((upd (upd (upd (upd pt 7 p1) 8 q1) 9 ad) 10 hd) 5), .int ((upd (upd (upd (upd pt 7 p1) 8 q1) 9 ad) 10 hd) 6), .int ((upd (upd (upd (upd pt 7 p1) 8 q1) 9 ad) 10 hd) 7), .int ((upd (upd (upd (upd pt 7 p1) 8 q1) 9 ad) 10 hd) 8), .int ((upd (upd (upd (upd pt 7 p1) 8 q1) 9 ad) 10 hd) 9), .int ((upd (upd (upd (upd pt 7 p1) 8 q1) 9 ad) 10 hd) 10), .int ((upd (upd (upd (upd pt 7 p1) 8 q1) 9 ad) 10 hd) 11), .int ((upd (upd (upd (upd pt 7 p1) 8 q1) 9 ad) 10 hd) 12)]] H := hP
  have hD : va_D A [oO xo 5 [.ref lc, .ref lt, .ref bo, .ref yo, .ref no], oO lt 7 [.int m2, .ref et, .int (nI nS)], aO D et 10 (lsF sl nS), oO (sl s0) 3 [.ref co, .int ((upd (upd (upd (upd pt 7 p1) 8 q1) 9 ad) 10 hd) 0), .int ((upd (upd (upd (upd pt 7 p1) 8 q1) 9 ad) 10 hd) 1), .int ((upd (upd (upd (upd pt 7 p1) 8 q1) 9 ad) 10 hd) 3), .int ((upd (upd (upd (upd pt 7 p1) 8 q1) 9 ad) 10 hd) 4), .int ((upd (upd (upd (upd pt 7 p1) 8 q1) 9 ad) 10 hd) 5), .int ((upd (upd (upd (upd pt 7 p1) 8 q1) 9 ad) 10 hd) 6), .int ((upd (upd (upd (upd pt 7 p1) 8 q1) 9 ad) 10 hd) 7), .int ((upd (upd (upd (upd pt 7 p1) 8 q1) 9 ad) 10 hd) 8), .int ((upd (upd (upd (upd pt 7 p1) 8 q1) 9 ad) 10 hd) 9), .int ((upd (upd (upd (upd pt 7 p1) 8 q1) 9 ad) 10 hd) 10), .int ((upd (upd (upd (upd pt 7 p1) 8 q1) 9 ad) 10 hd) 11), .int ((upd (upd (upd (upd pt 7 p1) 8 q1) 9 ad) 10 hd) 12)]] := hD
  refine lv_iload hx hb dX5_setBlend_85 (lv_at hl 0 rfl) ?_
  refine Wi () hx hb hr hlk ?_ hP hD hS (Nat.le_of_ble_eq_true rfl) (by first | exact Nat.le_of_ble_eq_true rfl | exact Nat.le_of_eq (Nat.zero_add _)) dX5_setBlend_87
  exact rfl
set_option maxHeartbeats 4000000 in
set_option maxRecDepth 100000 in
theorem t_setFade_1 (l : Launch) (D : va_G) (hns : l.stackTraces = false) {xo lc lt bo yo no : Nat} {et nS : Nat} {m2 : Int32} {x p1 q1 : Int32} (hz0 : Nat) (hnS : nS ≤ 10) (hxx : x < 0 ∨ nI nS ≤ x) : vx_Met l yX5_setFade (ws_ yX5_setFade cX5_setFade 6 (some .int)) ({ frames := 6, cells := 1, slots := 6, locals := 102 } : Room) (va_Pc [.ref xo, .int x, .int p1, .int q1] (TW D [oO xo 5 [.ref lc, .ref lt, .ref bo, .ref yo, .ref no], oO lt 7 [.int m2, .ref et, .int (nI nS)]] hz0)) (va_Qi (fun _ (_ : Unit) => False) (fun _ _ => False) (va_A [] hz0)) (XE "java/lang/IndexOutOfBoundsException" (va_A [] hz0)) 1 6 (va_A [] hz0) := by
  refine vx_ofW (cc := cX5_setFade) (maxL := 6) (ret := (some .int)) (by decide) rfl ?_
  intro p e s m args below meth c s₁ B hml hne hv
  obtain ⟨rfl, hsz, hG, hP, hZ⟩ := hv
  subst hsz
  have hx := B.exec
  have hb := B.bytes
  have hr := B.returns
  have hts : ∀ w ∈ wsL_law, w.before _ s = true := fun w h => atoms_spec (ws := (ws_ yX5_setFade cX5_setFade 6 (some .int))) B.pre w (List.mem_cons_of_mem _ h)
  have hown : s.vm.findClass RX5 = some m.cls := findClass_of_methodNamed B.named
  have hlk := B.notSynchronized
  have hC : CallFix p m c cX5_setFade 6 s _ wsL_law RX5 := ⟨hx, hb, hml, hown, hts⟩
  have hl := lv_entry ([.ref xo, .int x, .int p1, .int q1]) (n := 6) (Nat.le_of_ble_eq_true rfl)
  rw [lg_entry_eq]
  generalize (lg_sl ([.ref xo, .int x, .int p1, .int q1]) ++ List.replicate (6 - (lg_sl ([.ref xo, .int x, .int p1, .int q1])).length) Slot.unset).toArray = ls at hl ⊢
  have hl : lv_has ls 6 [(0, .ref xo), (1, .int x), (2, .int p1), (3, .int q1)] := hl
  refine lv_aload_n hx hb dX5_setFade_0 rfl (lv_at hl 0 rfl) ?_
  refine lv_iload_n hx hb dX5_setFade_1 rfl (lv_at hl 1 rfl) ?_
  have hP9 := hP
  refine va_csq (pV (rest := []) (qc := (RX5, TX5, 5)) [.int x] 1 hC (c_stripOrNull_no l D (xo := xo) (x := x) (lc := lc) (lt := lt) (bo := bo) (yo := yo) (no := no) (m2 := m2) (et := et) (nS := nS) (by omega) (hxx)) rfl (hP 0 _ rfl) (gV mM_X5_194 mI_X5_stripOrNull mS_X5_stripOrNull mN_X5 mC_X5_stripOrNull) (by decide +kernel) rfl rfl ⟨Nat.le_of_ble_eq_true rfl, Nat.le_of_ble_eq_true rfl⟩ hG hP9 rfl hl.1 rfl (Nat.le_of_ble_eq_true rfl) dX5_setFade_2 ⟨Nat.le_of_ble_eq_true rfl, Nat.le_of_ble_eq_true rfl⟩) (fun r2 h2 => ?_)
  obtain rfl : none = r2 := Eq.symm h2
  refine tpv (y := .null) rfl ?_
  refine lv_astoreN (lv' := [(4, .null), (0, .ref xo), (1, .int x), (2, .int p1), (3, .int q1)]) hx hb dX5_setFade_5 hl (by decide) rfl (fun ls hl => ?_)
  refine lv_aloadN hx hb dX5_setFade_7 (lv_at hl 0 rfl) ?_
  refine lv_ifnonnullN hx hb dX5_setFade_9 ?_
  obtain ⟨sa, hsa⟩ := gkS hG 21 rfl
  exact vx_throwS (ik := 72) (is := 188) (ic := 76) (cls := "java/lang/IndexOutOfBoundsException") (names := tXn) hx hb hns hown (by decide +kernel) (by decide +kernel) (hts _ mK_X5_72) (hts _ mN__java_lang_IndexOutOfBoundsException_) hsa (vx_hat (fun w hw => hts w (thr_in76 w hw)) thr_bad76 (thr_B 4 hG rfl)) thr_ot76 hZ.1 hZ.2 va_S.rf (by rw [hml]; exact hl.1) dX5_setFade_12 dX5_setFade_15 dX5_setFade_16 dX5_setFade_18 dX5_setFade_21 (fun x hx => (hne x hx).elim) (Nat.le_of_ble_eq_true rfl) (Nat.le_of_ble_eq_true rfl) (Nat.le_of_ble_eq_true rfl) (Nat.le_of_ble_eq_true rfl) hlk (XE.of rfl) (fun q hq => absurd hq List.not_mem_nil) (Nat.le_of_ble_eq_true rfl) (Nat.le_of_ble_eq_true rfl)
set_option maxHeartbeats 4000000 in
set_option maxRecDepth 100000 in
theorem t_setFade_2 (l : Launch) (D : va_G) (hns : l.stackTraces = false) {xo lc lt bo yo no : Nat} {et nS : Nat} {m2 : Int32} {s0 co : Nat} {sl : Nat → Nat} {pt : Nat → Int32} {p1 q1 : Int32} (hz0 : Nat) (hnS : nS ≤ 10) (hs0 : s0 < nS) (h : ¬ ((0 ≤ p1 ∧ p1 ≤ 2000) ∧ (0 ≤ q1 ∧ q1 ≤ 2000))) : vx_Met l yX5_setFade (ws_ yX5_setFade cX5_setFade 6 (some .int)) ({ frames := 6, cells := 1, slots := 6, locals := 102 } : Room) (va_Pc [.ref xo, .int (nI s0), .int p1, .int q1] (TW D [oO xo 5 [.ref lc, .ref lt, .ref bo, .ref yo, .ref no], oO lt 7 [.int m2, .ref et, .int (nI nS)], aO D et 10 (lsF sl nS), oO (sl s0) 3 [.ref co, .int (pt 0), .int (pt 1), .int (pt 3), .int (pt 4), .int (pt 5), .int (pt 6), .int (pt 7), .int (pt 8), .int (pt 9), .int (pt 10), .int (pt 11), .int (pt 12)]] hz0)) (va_Qi (fun _ (_ : Unit) => False) (fun _ _ => False) (va_A [] hz0)) (XE "java/lang/IllegalArgumentException" (va_A [] hz0)) 1 6 (va_A [] hz0) := by
  refine vx_ofW (cc := cX5_setFade) (maxL := 6) (ret := (some .int)) (by decide) rfl ?_
  intro p e s m args below meth c s₁ B hml hne hv
  obtain ⟨rfl, hsz, hG, hP, hZ⟩ := hv
  subst hsz
  have hx := B.exec
  have hb := B.bytes
  have hr := B.returns
  have hts : ∀ w ∈ wsL_law, w.before _ s = true := fun w h => atoms_spec (ws := (ws_ yX5_setFade cX5_setFade 6 (some .int))) B.pre w (List.mem_cons_of_mem _ h)
  have hown : s.vm.findClass RX5 = some m.cls := findClass_of_methodNamed B.named
  have hlk := B.notSynchronized
  have hC : CallFix p m c cX5_setFade 6 s _ wsL_law RX5 := ⟨hx, hb, hml, hown, hts⟩
  have hl := lv_entry ([.ref xo, .int (nI s0), .int p1, .int q1]) (n := 6) (Nat.le_of_ble_eq_true rfl)
  rw [lg_entry_eq]
  generalize (lg_sl ([.ref xo, .int (nI s0), .int p1, .int q1]) ++ List.replicate (6 - (lg_sl ([.ref xo, .int (nI s0), .int p1, .int q1])).length) Slot.unset).toArray = ls at hl ⊢
  have hl : lv_has ls 6 [(0, .ref xo), (1, .int (nI s0)), (2, .int p1), (3, .int q1)] := hl
  refine lv_aload_n hx hb dX5_setFade_0 rfl (lv_at hl 0 rfl) ?_
  refine lv_iload_n hx hb dX5_setFade_1 rfl (lv_at hl 1 rfl) ?_
  have hP9 := hP
  refine va_csq (pV (rest := []) (qc := (RX5, TX5, 5)) [.int (nI s0)] 1 hC (c_stripOrNull l D (xo := xo) (s0 := s0) (lc := lc) (lt := lt) (bo := bo) (yo := yo) (no := no) (m2 := m2) (et := et) (nS := nS) (co := co) (by omega) (by omega)) rfl (hP 0 _ rfl) (gV mM_X5_194 mI_X5_stripOrNull mS_X5_stripOrNull mN_X5 mC_X5_stripOrNull) (by decide +kernel) rfl rfl ⟨Nat.le_of_ble_eq_true rfl, Nat.le_of_ble_eq_true rfl⟩ hG hP9 rfl hl.1 rfl (Nat.le_of_ble_eq_true rfl) dX5_setFade_2 ⟨Nat.le_of_ble_eq_true rfl, Nat.le_of_ble_eq_true rfl⟩) (fun r2 h2 => ?_)
  obtain rfl : r2 = (some (sl s0)) := h2
  refine tpv (y := .ref (sl s0)) rfl ?_
  refine lv_astore (lv' := [(4, .ref (sl s0)), (0, .ref xo), (1, .int (nI s0)), (2, .int p1), (3, .int q1)]) hx hb dX5_setFade_5 hl (by decide) rfl (fun ls hl => ?_)
  refine lv_aload hx hb dX5_setFade_7 (lv_at hl 0 rfl) ?_
  refine lv_ifnonnull (tgt := 22) hx hb dX5_setFade_9 (by decide) ?_
  refine lv_iload_n hx hb dX5_setFade_22 rfl (lv_at hl 3 rfl) ?_
  refine lv_iconst (v := 0) hx hb dX5_setFade_23 (by decide) ?_
  refine lv_sipush (v := 2000) hx hb dX5_setFade_24 (by decide) ?_
  have hP9 : va_P D cls [] s.heap := fun k q h => by simp at h
  refine vp_callSi (pS (rest := []) [.int p1, .int 0, .int 2000] 3 hC (c_isIn l D (x := p1) (a := 0) (b := 2000) ) (gS mM_X5_41 mT_X5_isIn mN_X5 mC_X5_isIn) (by decide +kernel) rfl rfl ⟨Nat.le_of_ble_eq_true rfl, Nat.le_of_ble_eq_true rfl⟩ hG hP9 rfl hl.1 rfl (Nat.le_of_ble_eq_true rfl) dX5_setFade_27 ⟨Nat.le_of_ble_eq_true rfl, Nat.le_of_ble_eq_true rfl⟩) (fun r27 h27 => ?_)
  rcases h27 with ⟨rfl, hb27⟩ | ⟨rfl, hb27⟩
  · skip
    refine lv_if_eq (tgt := 44) hx hb dX5_setFade_30 (by decide) (fun h9 => absurd h9 (by decide)) (fun _ => ?_)
    refine lv_iload_n hx hb dX5_setFade_33 rfl (lv_at hl 4 rfl) ?_
    refine lv_iconst (v := 0) hx hb dX5_setFade_34 (by decide) ?_
    refine lv_sipush (v := 2000) hx hb dX5_setFade_35 (by decide) ?_
    have hP9 : va_P D cls [] s.heap := fun k q h => by simp at h
    refine vp_callSi (pS (rest := []) [.int q1, .int 0, .int 2000] 3 hC (c_isIn l D (x := q1) (a := 0) (b := 2000) ) (gS mM_X5_41 mT_X5_isIn mN_X5 mC_X5_isIn) (by decide +kernel) rfl rfl ⟨Nat.le_of_ble_eq_true rfl, Nat.le_of_ble_eq_true rfl⟩ hG hP9 rfl hl.1 rfl (Nat.le_of_ble_eq_true rfl) dX5_setFade_38 ⟨Nat.le_of_ble_eq_true rfl, Nat.le_of_ble_eq_true rfl⟩) (fun r38 h38 => ?_)
    rcases h38 with ⟨rfl, hb38⟩ | ⟨rfl, hb38⟩
    · exact absurd hb38 (fun h9 => h ⟨hb27, h9⟩)
    refine lv_if_ne (tgt := 54) hx hb dX5_setFade_41 (by decide) (fun h9 => (h9 (by decide)).elim) (fun _ => ?_)
    obtain ⟨sa, hsa⟩ := gkS hG 24 rfl
    exact vx_throwS (ik := 45) (is := 224) (ic := 49) (cls := "java/lang/IllegalArgumentException") (names := tXn) hx hb hns hown (by decide +kernel) (by decide +kernel) (hts _ mK_X5_45) (hts _ mN__java_lang_IllegalArgumentException_) hsa (vx_hat (fun w hw => hts w (thr_in49 w hw)) thr_bad49 (thr_B 2 hG rfl)) thr_ot49 hZ.1 hZ.2 va_S.rf (by rw [hml]; exact hl.1) dX5_setFade_44 dX5_setFade_47 dX5_setFade_48 dX5_setFade_50 dX5_setFade_53 (fun x hx => (hne x hx).elim) (Nat.le_of_ble_eq_true rfl) (Nat.le_of_ble_eq_true rfl) (Nat.le_of_ble_eq_true rfl) (Nat.le_of_ble_eq_true rfl) hlk (XE.of rfl) (fun q hq => absurd hq List.not_mem_nil) (Nat.le_of_ble_eq_true rfl) (Nat.le_of_ble_eq_true rfl)
  · skip
    refine lv_if_eq (tgt := 44) hx hb dX5_setFade_30 (by decide) (fun _ => ?_) (fun h9 => (h9 (by decide)).elim)
    obtain ⟨sa, hsa⟩ := gkS hG 24 rfl
    exact vx_throwS (ik := 45) (is := 224) (ic := 49) (cls := "java/lang/IllegalArgumentException") (names := tXn) hx hb hns hown (by decide +kernel) (by decide +kernel) (hts _ mK_X5_45) (hts _ mN__java_lang_IllegalArgumentException_) hsa (vx_hat (fun w hw => hts w (thr_in49 w hw)) thr_bad49 (thr_B 2 hG rfl)) thr_ot49 hZ.1 hZ.2 va_S.rf (by rw [hml]; exact hl.1) dX5_setFade_44 dX5_setFade_47 dX5_setFade_48 dX5_setFade_50 dX5_setFade_53 (fun x hx => (hne x hx).elim) (Nat.le_of_ble_eq_true rfl) (Nat.le_of_ble_eq_true rfl) (Nat.le_of_ble_eq_true rfl) (Nat.le_of_ble_eq_true rfl) hlk (XE.of rfl) (fun q hq => absurd hq List.not_mem_nil) (Nat.le_of_ble_eq_true rfl) (Nat.le_of_ble_eq_true rfl)
set_option maxHeartbeats 4000000 in
set_option maxRecDepth 100000 in
theorem c_setFade (l : Launch) (D : va_G) {xo lc lt bo yo no : Nat} {et nS : Nat} {m2 : Int32} {s0 co : Nat} {sl : Nat → Nat} {pt : Nat → Int32} {p1 q1 : Int32} (hz0 : Nat) (hnS : nS ≤ 10) (hs0 : s0 < nS) (h : (0 ≤ p1 ∧ p1 ≤ 2000) ∧ (0 ≤ q1 ∧ q1 ≤ 2000)) : Met l yX5_setFade (ws_ yX5_setFade cX5_setFade 6 (some .int)) ({ frames := 6, cells := 0, slots := 0, locals := 102 } : Room) (va_Pc [.ref xo, .int (nI s0), .int p1, .int q1] (SW D [oO xo 5 [.ref lc, .ref lt, .ref bo, .ref yo, .ref no], oO lt 7 [.int m2, .ref et, .int (nI nS)], aO D et 10 (lsF sl nS), oO (sl s0) 3 [.ref co, .int (pt 0), .int (pt 1), .int (pt 3), .int (pt 4), .int (pt 5), .int (pt 6), .int (pt 7), .int (pt 8), .int (pt 9), .int (pt 10), .int (pt 11), .int (pt 12)]] hz0)) (va_Qi (fun v _ => v = pt 11) (AT D (va_A [oO xo 5 [.ref lc, .ref lt, .ref bo, .ref yo, .ref no], oO lt 7 [.int m2, .ref et, .int (nI nS)], aO D et 10 (lsF sl nS), oO (sl s0) 3 [.ref co, .int (pt 0), .int (pt 1), .int (pt 3), .int (pt 4), .int (pt 5), .int (pt 6), .int (pt 7), .int (pt 8), .int (pt 9), .int (pt 10), .int (pt 11), .int (pt 12)]] hz0) (fun _ : Unit => [oO xo 5 [.ref lc, .ref lt, .ref bo, .ref yo, .ref no], oO lt 7 [.int m2, .ref et, .int (nI nS)], aO D et 10 (lsF sl nS), oO (sl s0) 3 [.ref co, .int ((upd (upd pt 11 p1) 12 q1) 0), .int ((upd (upd pt 11 p1) 12 q1) 1), .int ((upd (upd pt 11 p1) 12 q1) 3), .int ((upd (upd pt 11 p1) 12 q1) 4), .int ((upd (upd pt 11 p1) 12 q1) 5), .int ((upd (upd pt 11 p1) 12 q1) 6), .int ((upd (upd pt 11 p1) 12 q1) 7), .int ((upd (upd pt 11 p1) 12 q1) 8), .int ((upd (upd pt 11 p1) 12 q1) 9), .int ((upd (upd pt 11 p1) 12 q1) 10), .int ((upd (upd pt 11 p1) 12 q1) 11), .int ((upd (upd pt 11 p1) 12 q1) 12)]])) (va_A [oO xo 5 [.ref lc, .ref lt, .ref bo, .ref yo, .ref no], oO lt 7 [.int m2, .ref et, .int (nI nS)], aO D et 10 (lsF sl nS), oO (sl s0) 3 [.ref co, .int (pt 0), .int (pt 1), .int (pt 3), .int (pt 4), .int (pt 5), .int (pt 6), .int (pt 7), .int (pt 8), .int (pt 9), .int (pt 10), .int (pt 11), .int (pt 12)]] hz0)) 0 0 (va_A [oO xo 5 [.ref lc, .ref lt, .ref bo, .ref yo, .ref no], oO lt 7 [.int m2, .ref et, .int (nI nS)], aO D et 10 (lsF sl nS), oO (sl s0) 3 [.ref co, .int (pt 0), .int (pt 1), .int (pt 3), .int (pt 4), .int (pt 5), .int (pt 6), .int (pt 7), .int (pt 8), .int (pt 9), .int (pt 10), .int (pt 11), .int (pt 12)]] hz0) := by
  refine Met.ofW (cc := cX5_setFade) (maxL := 6) (ret := (some .int)) (by decide) rfl ?_
  intro p e s m args below meth c s₁ B hml hv
  obtain ⟨rfl, hsz, hG, hP, hD0⟩ := hv
  have hx := B.exec
  have hb := B.bytes
  have hr := B.returns
  have hts : ∀ w ∈ wsL_law, w.before _ s = true := fun w h => atoms_spec (ws := (ws_ yX5_setFade cX5_setFade 6 (some .int))) B.pre w (List.mem_cons_of_mem _ h)
  have hown : s.vm.findClass RX5 = some m.cls := findClass_of_methodNamed B.named
  have hlk := B.notSynchronized
  have hC : CallFix p m c cX5_setFade 6 s _ wsL_law RX5 := ⟨hx, hb, hml, hown, hts⟩
  subst hsz
  have hD := hD0.self (sz := s.heap.size)
  generalize hAe : va_A [oO xo 5 [.ref lc, .ref lt, .ref bo, .ref yo, .ref no], oO lt 7 [.int m2, .ref et, .int (nI nS)], aO D et 10 (lsF sl nS), oO (sl s0) 3 [.ref co, .int (pt 0), .int (pt 1), .int (pt 3), .int (pt 4), .int (pt 5), .int (pt 6), .int (pt 7), .int (pt 8), .int (pt 9), .int (pt 10), .int (pt 11), .int (pt 12)]] s.heap.size = A at hD ⊢
  have hA : ∀ q : Nat, s.heap.size ≤ q → A q := fun q h => by rw [← hAe]; exact Or.inr h
  have hS : va_S A s.heap s.heap [] := va_S.rf
  obtain ⟨H, hHe⟩ : ∃ H, H = s.heap := ⟨_, rfl⟩
  rw [← hHe] at hP
  have hS : va_S A s.heap H [] := by rw [hHe]; exact hS
  have hl := lv_entry ([.ref xo, .int (nI s0), .int p1, .int q1]) (n := 6) (Nat.le_of_ble_eq_true rfl)
  rw [lg_entry_eq]
  generalize (lg_sl ([.ref xo, .int (nI s0), .int p1, .int q1]) ++ List.replicate (6 - (lg_sl ([.ref xo, .int (nI s0), .int p1, .int q1])).length) Slot.unset).toArray = ls at hl ⊢
  have hl : lv_has ls 6 [(0, .ref xo), (1, .int (nI s0)), (2, .int p1), (3, .int q1)] := hl
  rw [← hHe]
  refine lv_aload_n hx hb dX5_setFade_0 rfl (lv_at hl 0 rfl) ?_
  refine lv_iload_n hx hb dX5_setFade_1 rfl (lv_at hl 1 rfl) ?_
  have hP9 := hP
  refine va_csq (pV (rest := []) (qc := (RX5, TX5, 5)) [.int (nI s0)] 1 hC (c_stripOrNull l D (xo := xo) (s0 := s0) (lc := lc) (lt := lt) (bo := bo) (yo := yo) (no := no) (m2 := m2) (et := et) (nS := nS) (co := co) (by omega) (by omega)) rfl (hP 0 _ rfl) (gV mM_X5_194 mI_X5_stripOrNull mS_X5_stripOrNull mN_X5 mC_X5_stripOrNull) (by decide +kernel) rfl rfl ⟨Nat.le_of_ble_eq_true rfl, Nat.le_of_ble_eq_true rfl⟩ hG hP9 rfl hl.1 rfl (Nat.le_of_ble_eq_true rfl) dX5_setFade_2 ⟨Nat.le_of_ble_eq_true rfl, Nat.le_of_ble_eq_true rfl⟩) (fun r2 h2 => ?_)
  obtain rfl : r2 = (some (sl s0)) := h2
  refine tpv (y := .ref (sl s0)) rfl ?_
  refine lv_astore (lv' := [(4, .ref (sl s0)), (0, .ref xo), (1, .int (nI s0)), (2, .int p1), (3, .int q1)]) hx hb dX5_setFade_5 hl (by decide) rfl (fun ls hl => ?_)
  refine lv_aload hx hb dX5_setFade_7 (lv_at hl 0 rfl) ?_
  refine lv_ifnonnull (tgt := 22) hx hb dX5_setFade_9 (by decide) ?_
  refine lv_iload_n hx hb dX5_setFade_22 rfl (lv_at hl 3 rfl) ?_
  refine lv_iconst (v := 0) hx hb dX5_setFade_23 (by decide) ?_
  refine lv_sipush (v := 2000) hx hb dX5_setFade_24 (by decide) ?_
  have hP9 : va_P D cls [] H := fun k q h => by simp at h
  refine vp_callSi (pS (rest := []) [.int p1, .int 0, .int 2000] 3 hC (c_isIn l D (x := p1) (a := 0) (b := 2000) ) (gS mM_X5_41 mT_X5_isIn mN_X5 mC_X5_isIn) (by decide +kernel) rfl rfl ⟨Nat.le_of_ble_eq_true rfl, Nat.le_of_ble_eq_true rfl⟩ hG hP9 rfl hl.1 rfl (Nat.le_of_ble_eq_true rfl) dX5_setFade_27 ⟨Nat.le_of_ble_eq_true rfl, Nat.le_of_ble_eq_true rfl⟩) (fun r27 h27 => ?_)
  rcases h27 with ⟨rfl, hb27⟩ | ⟨rfl, hb27⟩
  rotate_left
  · exact absurd (h.1) hb27
  refine lv_if_eq (tgt := 44) hx hb dX5_setFade_30 (by decide) (fun h9 => absurd h9 (by decide)) (fun _ => ?_)
  refine lv_iload_n hx hb dX5_setFade_33 rfl (lv_at hl 4 rfl) ?_
  refine lv_iconst (v := 0) hx hb dX5_setFade_34 (by decide) ?_
  refine lv_sipush (v := 2000) hx hb dX5_setFade_35 (by decide) ?_
  have hP9 : va_P D cls [] H := fun k q h => by simp at h
  refine vp_callSi (pS (rest := []) [.int q1, .int 0, .int 2000] 3 hC (c_isIn l D (x := q1) (a := 0) (b := 2000) ) (gS mM_X5_41 mT_X5_isIn mN_X5 mC_X5_isIn) (by decide +kernel) rfl rfl ⟨Nat.le_of_ble_eq_true rfl, Nat.le_of_ble_eq_true rfl⟩ hG hP9 rfl hl.1 rfl (Nat.le_of_ble_eq_true rfl) dX5_setFade_38 ⟨Nat.le_of_ble_eq_true rfl, Nat.le_of_ble_eq_true rfl⟩) (fun r38 h38 => ?_)
  rcases h38 with ⟨rfl, hb38⟩ | ⟨rfl, hb38⟩
  rotate_left
  · exact absurd (h.2) hb38
  refine lv_if_ne (tgt := 54) hx hb dX5_setFade_41 (by decide) (fun _ => ?_) (fun h9 => absurd h9 (by decide))
  refine lv_aload hx hb dX5_setFade_54 (lv_at hl 0 rfl) ?_
  refine va_getN (D := D) (ci := 3) (v := .int (pt 11)) (C := RX3) (T := TX3) (N := 13) hx hb hts inlX3 hown hG.K hP 3 rfl rfl 11 (by decide) (va_Nw.use rfl (nF_KeyStage_226 hG)) (fun _ h9 => h9) rfl dX5_setFade_56 ?_
  refine lv_istore (lv' := [(5, .int (pt 11)), (4, .ref (sl s0)), (0, .ref xo), (1, .int (nI s0)), (2, .int p1), (3, .int q1)]) hx hb dX5_setFade_59 hl (by decide) rfl (fun ls hl => ?_)
  refine lv_aload hx hb dX5_setFade_61 (lv_at hl 1 rfl) ?_
  refine lv_iload_n hx hb dX5_setFade_63 rfl (lv_at hl 4 rfl) ?_
  refine va_putN (D := D) (ci := 3) (v := .int p1) (ty := .int) (C := RX3) (T := TX3) (N := 13) hx hb hts inlX3 tyX3 tyX3_ok nmX3 hown hG.K hP hD hS 3 rfl rfl 11 (by decide) (va_Nw.use rfl (nF_KeyStage_226 hG)) (fun _ h9 => h9) rfl (by decide +kernel) rfl rfl (Nat.le_of_ble_eq_true rfl) dX5_setFade_64 (fun H locs hP hD hS => ?_)
  have hP : va_P D cls [oO xo 5 [.ref lc, .ref lt, .ref bo, .ref yo, .ref no], oO lt 7 [.int m2, .ref et, .int (nI nS)], aO D et 10 (lsF sl nS), oO (sl s0) 3 [.ref co, .int (pt 0), .int (pt 1), .int (pt 3), .int (pt 4), .int (pt 5), .int (pt 6), .int (pt 7), .int (pt 8), .int (pt 9), .int (pt 10), .int p1, .int (pt 12)]] H := hP
  have hD : va_D A [oO xo 5 [.ref lc, .ref lt, .ref bo, .ref yo, .ref no], oO lt 7 [.int m2, .ref et, .int (nI nS)], aO D et 10 (lsF sl nS), oO (sl s0) 3 [.ref co, .int (pt 0), .int (pt 1), .int (pt 3), .int (pt 4), .int (pt 5), .int (pt 6), .int (pt 7), .int (pt 8), .int (pt 9), .int (pt 10), .int p1, .int (pt 12)]] := hD
  refine lv_aload hx hb dX5_setFade_67 (lv_at hl 1 rfl) ?_
  refine lv_iload_n hx hb dX5_setFade_69 rfl (lv_at hl 5 rfl) ?_
  refine va_putN (D := D) (ci := 3) (v := .int q1) (ty := .int) (C := RX3) (T := TX3) (N := 13) hx hb hts inlX3 tyX3 tyX3_ok nmX3 hown hG.K hP hD hS 3 rfl rfl 12 (by decide) (va_Nw.use rfl (nF_KeyStage_229 hG)) (fun _ h9 => h9) rfl (by decide +kernel) rfl rfl (Nat.le_of_ble_eq_true rfl) dX5_setFade_70 (fun H locs hP hD hS => ?_)
  have hP : va_P D cls [oO xo 5 [.ref lc, .ref lt, .ref bo, .ref yo, .ref no], oO lt 7 [.int m2, .ref et, .int (nI nS)], aO D et 10 (lsF sl nS), oO (sl s0) 3 [.ref co, .int (pt 0), .int (pt 1), .int (pt 3), .int (pt 4), .int (pt 5), .int (pt 6), .int (pt 7), .int (pt 8), .int (pt 9), .int (pt 10), .int p1, .int q1]] H := hP
  have hD : va_D A [oO xo 5 [.ref lc, .ref lt, .ref bo, .ref yo, .ref no], oO lt 7 [.int m2, .ref et, .int (nI nS)], aO D et 10 (lsF sl nS), oO (sl s0) 3 [.ref co, .int (pt 0), .int (pt 1), .int (pt 3), .int (pt 4), .int (pt 5), .int (pt 6), .int (pt 7), .int (pt 8), .int (pt 9), .int (pt 10), .int p1, .int q1]] := hD
  have hP : va_P D cls [oO xo 5 [.ref lc, .ref lt, .ref bo, .ref yo, .ref no], oO lt 7 [.int m2, .ref et, .int (nI nS)], aO D et 10 (lsF sl nS), oO (sl s0) 3 [.ref co, .int ((upd (upd pt 11 p1) 12 q1) 0), .int ((upd (upd pt 11 p1) 12 q1) 1), .int ((upd (upd pt 11 p1) 12 q1) 3), .int ((upd (upd pt 11 p1) 12 q1) 4), .int ((upd (upd pt 11 p1) 12 q1) 5), .int ((upd (upd pt 11 p1) 12 q1) 6), .int ((upd (upd pt 11 p1) 12 q1) 7), .int ((upd (upd pt 11 p1) 12 q1) 8), .int ((upd (upd pt 11 p1) 12 q1) 9), .int ((upd (upd pt 11 p1) 12 q1) 10), .int ((upd (upd pt 11 p1) 12 q1) 11), .int ((upd (upd pt 11 p1) 12 q1) 12)]] H := hP
  have hD : va_D A [oO xo 5 [.ref lc, .ref lt, .ref bo, .ref yo, .ref no], oO lt 7 [.int m2, .ref et, .int (nI nS)], aO D et 10 (lsF sl nS), oO (sl s0) 3 [.ref co, .int ((upd (upd pt 11 p1) 12 q1) 0), .int ((upd (upd pt 11 p1) 12 q1) 1), .int ((upd (upd pt 11 p1) 12 q1) 3), .int ((upd (upd pt 11 p1) 12 q1) 4), .int ((upd (upd pt 11 p1) 12 q1) 5), .int ((upd (upd pt 11 p1) 12 q1) 6), .int ((upd (upd pt 11 p1) 12 q1) 7), .int ((upd (upd pt 11 p1) 12 q1) 8), .int ((upd (upd pt 11 p1) 12 q1) 9), .int ((upd (upd pt 11 p1) 12 q1) 10), .int ((upd (upd pt 11 p1) 12 q1) 11), .int ((upd (upd pt 11 p1) 12 q1) 12)]] := hD
  refine lv_iload hx hb dX5_setFade_73 (lv_at hl 0 rfl) ?_
  refine Wi () hx hb hr hlk ?_ hP hD hS (Nat.le_of_ble_eq_true rfl) (by first | exact Nat.le_of_ble_eq_true rfl | exact Nat.le_of_eq (Nat.zero_add _)) dX5_setFade_75
  exact rfl
set_option maxHeartbeats 4000000 in
set_option maxRecDepth 100000 in
theorem t_strip_1 (l : Launch) (D : va_G) (hns : l.stackTraces = false) {xo lc lt bo yo no : Nat} {et nS : Nat} {m2 : Int32} {x w : Int32} (hz0 : Nat) (hnS : nS ≤ 10) (hxx : x < 0 ∨ nI nS ≤ x) : vx_Met l yX5_strip (ws_ yX5_strip cX5_strip 4 (some .int)) ({ frames := 6, cells := 1, slots := 6, locals := 102 } : Room) (va_Pc [.ref xo, .int x, .int w] (TW D [oO xo 5 [.ref lc, .ref lt, .ref bo, .ref yo, .ref no], oO lt 7 [.int m2, .ref et, .int (nI nS)]] hz0)) (va_Qi (fun _ (_ : Unit) => False) (fun _ _ => False) (va_A [] hz0)) (XE "java/lang/IndexOutOfBoundsException" (va_A [] hz0)) 1 6 (va_A [] hz0) := by
  refine vx_ofW (cc := cX5_strip) (maxL := 4) (ret := (some .int)) (by decide) rfl ?_
  intro p e s m args below meth c s₁ B hml hne hv
  obtain ⟨rfl, hsz, hG, hP, hZ⟩ := hv
  subst hsz
  have hx := B.exec
  have hb := B.bytes
  have hr := B.returns
  have hts : ∀ w ∈ wsL_law, w.before _ s = true := fun w h => atoms_spec (ws := (ws_ yX5_strip cX5_strip 4 (some .int))) B.pre w (List.mem_cons_of_mem _ h)
  have hown : s.vm.findClass RX5 = some m.cls := findClass_of_methodNamed B.named
  have hlk := B.notSynchronized
  have hC : CallFix p m c cX5_strip 4 s _ wsL_law RX5 := ⟨hx, hb, hml, hown, hts⟩
  have hl := lv_entry ([.ref xo, .int x, .int w]) (n := 4) (Nat.le_of_ble_eq_true rfl)
  rw [lg_entry_eq]
  generalize (lg_sl ([.ref xo, .int x, .int w]) ++ List.replicate (4 - (lg_sl ([.ref xo, .int x, .int w])).length) Slot.unset).toArray = ls at hl ⊢
  have hl : lv_has ls 4 [(0, .ref xo), (1, .int x), (2, .int w)] := hl
  refine lv_aload_n hx hb dX5_strip_0 rfl (lv_at hl 0 rfl) ?_
  refine lv_iload_n hx hb dX5_strip_1 rfl (lv_at hl 1 rfl) ?_
  have hP9 := hP
  refine va_csq (pV (rest := []) (qc := (RX5, TX5, 5)) [.int x] 1 hC (c_stripOrNull_no l D (xo := xo) (x := x) (lc := lc) (lt := lt) (bo := bo) (yo := yo) (no := no) (m2 := m2) (et := et) (nS := nS) (by omega) (hxx)) rfl (hP 0 _ rfl) (gV mM_X5_194 mI_X5_stripOrNull mS_X5_stripOrNull mN_X5 mC_X5_stripOrNull) (by decide +kernel) rfl rfl ⟨Nat.le_of_ble_eq_true rfl, Nat.le_of_ble_eq_true rfl⟩ hG hP9 rfl hl.1 rfl (Nat.le_of_ble_eq_true rfl) dX5_strip_2 ⟨Nat.le_of_ble_eq_true rfl, Nat.le_of_ble_eq_true rfl⟩) (fun r2 h2 => ?_)
  obtain rfl : none = r2 := Eq.symm h2
  refine tpv (y := .null) rfl ?_
  refine lv_astore_nN (lv' := [(3, .null), (0, .ref xo), (1, .int x), (2, .int w)]) hx hb dX5_strip_5 rfl hl (by decide) rfl (fun ls hl => ?_)
  refine lv_aload_nN hx hb dX5_strip_6 rfl (lv_at hl 0 rfl) ?_
  refine lv_ifnullN (tgt := 20) hx hb dX5_strip_7 (by decide) ?_
  obtain ⟨sa, hsa⟩ := gkS hG 25 rfl
  exact vx_throwS (ik := 72) (is := 232) (ic := 76) (cls := "java/lang/IndexOutOfBoundsException") (names := tXn) hx hb hns hown (by decide +kernel) (by decide +kernel) (hts _ mK_X5_72) (hts _ mN__java_lang_IndexOutOfBoundsException_) hsa (vx_hat (fun w hw => hts w (thr_in76 w hw)) thr_bad76 (thr_B 4 hG rfl)) thr_ot76 hZ.1 hZ.2 va_S.rf (by rw [hml]; exact hl.1) dX5_strip_20 dX5_strip_23 dX5_strip_24 dX5_strip_26 dX5_strip_29 (fun x hx => (hne x hx).elim) (Nat.le_of_ble_eq_true rfl) (Nat.le_of_ble_eq_true rfl) (Nat.le_of_ble_eq_true rfl) (Nat.le_of_ble_eq_true rfl) hlk (XE.of rfl) (fun q hq => absurd hq List.not_mem_nil) (Nat.le_of_ble_eq_true rfl) (Nat.le_of_ble_eq_true rfl)
set_option maxHeartbeats 4000000 in
set_option maxRecDepth 100000 in
theorem t_strip_2 (l : Launch) (D : va_G) (hns : l.stackTraces = false) {xo lc lt bo yo no : Nat} {et nS : Nat} {m2 : Int32} {s0 co : Nat} {sl : Nat → Nat} {pt : Nat → Int32} {w : Int32} (hz0 : Nat) (hnS : nS ≤ 10) (hs0 : s0 < nS) (h : ¬ (0 ≤ w ∧ w ≤ 12)) : vx_Met l yX5_strip (ws_ yX5_strip cX5_strip 4 (some .int)) ({ frames := 6, cells := 1, slots := 6, locals := 102 } : Room) (va_Pc [.ref xo, .int (nI s0), .int w] (TW D [oO xo 5 [.ref lc, .ref lt, .ref bo, .ref yo, .ref no], oO lt 7 [.int m2, .ref et, .int (nI nS)], aO D et 10 (lsF sl nS), oO (sl s0) 3 [.ref co, .int (pt 0), .int (pt 1), .int (pt 3), .int (pt 4), .int (pt 5), .int (pt 6), .int (pt 7), .int (pt 8), .int (pt 9), .int (pt 10), .int (pt 11), .int (pt 12)]] hz0)) (va_Qi (fun _ (_ : Unit) => False) (fun _ _ => False) (va_A [] hz0)) (XE "java/lang/IndexOutOfBoundsException" (va_A [] hz0)) 1 6 (va_A [] hz0) := by
  refine vx_ofW (cc := cX5_strip) (maxL := 4) (ret := (some .int)) (by decide) rfl ?_
  intro p e s m args below meth c s₁ B hml hne hv
  obtain ⟨rfl, hsz, hG, hP, hZ⟩ := hv
  subst hsz
  have hx := B.exec
  have hb := B.bytes
  have hr := B.returns
  have hts : ∀ w ∈ wsL_law, w.before _ s = true := fun w h => atoms_spec (ws := (ws_ yX5_strip cX5_strip 4 (some .int))) B.pre w (List.mem_cons_of_mem _ h)
  have hown : s.vm.findClass RX5 = some m.cls := findClass_of_methodNamed B.named
  have hlk := B.notSynchronized
  have hC : CallFix p m c cX5_strip 4 s _ wsL_law RX5 := ⟨hx, hb, hml, hown, hts⟩
  have hl := lv_entry ([.ref xo, .int (nI s0), .int w]) (n := 4) (Nat.le_of_ble_eq_true rfl)
  rw [lg_entry_eq]
  generalize (lg_sl ([.ref xo, .int (nI s0), .int w]) ++ List.replicate (4 - (lg_sl ([.ref xo, .int (nI s0), .int w])).length) Slot.unset).toArray = ls at hl ⊢
  have hl : lv_has ls 4 [(0, .ref xo), (1, .int (nI s0)), (2, .int w)] := hl
  refine lv_aload_n hx hb dX5_strip_0 rfl (lv_at hl 0 rfl) ?_
  refine lv_iload_n hx hb dX5_strip_1 rfl (lv_at hl 1 rfl) ?_
  have hP9 := hP
  refine va_csq (pV (rest := []) (qc := (RX5, TX5, 5)) [.int (nI s0)] 1 hC (c_stripOrNull l D (xo := xo) (s0 := s0) (lc := lc) (lt := lt) (bo := bo) (yo := yo) (no := no) (m2 := m2) (et := et) (nS := nS) (co := co) (by omega) (by omega)) rfl (hP 0 _ rfl) (gV mM_X5_194 mI_X5_stripOrNull mS_X5_stripOrNull mN_X5 mC_X5_stripOrNull) (by decide +kernel) rfl rfl ⟨Nat.le_of_ble_eq_true rfl, Nat.le_of_ble_eq_true rfl⟩ hG hP9 rfl hl.1 rfl (Nat.le_of_ble_eq_true rfl) dX5_strip_2 ⟨Nat.le_of_ble_eq_true rfl, Nat.le_of_ble_eq_true rfl⟩) (fun r2 h2 => ?_)
  obtain rfl : r2 = (some (sl s0)) := h2
  refine tpv (y := .ref (sl s0)) rfl ?_
  refine lv_astore_n (lv' := [(3, .ref (sl s0)), (0, .ref xo), (1, .int (nI s0)), (2, .int w)]) hx hb dX5_strip_5 rfl hl (by decide) rfl (fun ls hl => ?_)
  refine lv_aload_n hx hb dX5_strip_6 rfl (lv_at hl 0 rfl) ?_
  refine lv_ifnull hx hb dX5_strip_7 ?_
  refine lv_iload_n hx hb dX5_strip_10 rfl (lv_at hl 3 rfl) ?_
  refine lv_iconst (v := 0) hx hb dX5_strip_11 (by decide) ?_
  refine lv_bipush (v := 12) hx hb dX5_strip_12 (by decide) ?_
  have hP9 : va_P D cls [] s.heap := fun k q h => by simp at h
  refine vp_callSi (pS (rest := []) [.int w, .int 0, .int 12] 3 hC (c_isIn l D (x := w) (a := 0) (b := 12) ) (gS mM_X5_41 mT_X5_isIn mN_X5 mC_X5_isIn) (by decide +kernel) rfl rfl ⟨Nat.le_of_ble_eq_true rfl, Nat.le_of_ble_eq_true rfl⟩ hG hP9 rfl hl.1 rfl (Nat.le_of_ble_eq_true rfl) dX5_strip_14 ⟨Nat.le_of_ble_eq_true rfl, Nat.le_of_ble_eq_true rfl⟩) (fun r14 h14 => ?_)
  rcases h14 with ⟨rfl, hb14⟩ | ⟨rfl, hb14⟩
  · exact absurd hb14 (h)
  refine lv_if_ne (tgt := 30) hx hb dX5_strip_17 (by decide) (fun h9 => (h9 (by decide)).elim) (fun _ => ?_)
  obtain ⟨sa, hsa⟩ := gkS hG 25 rfl
  exact vx_throwS (ik := 72) (is := 232) (ic := 76) (cls := "java/lang/IndexOutOfBoundsException") (names := tXn) hx hb hns hown (by decide +kernel) (by decide +kernel) (hts _ mK_X5_72) (hts _ mN__java_lang_IndexOutOfBoundsException_) hsa (vx_hat (fun w hw => hts w (thr_in76 w hw)) thr_bad76 (thr_B 4 hG rfl)) thr_ot76 hZ.1 hZ.2 va_S.rf (by rw [hml]; exact hl.1) dX5_strip_20 dX5_strip_23 dX5_strip_24 dX5_strip_26 dX5_strip_29 (fun x hx => (hne x hx).elim) (Nat.le_of_ble_eq_true rfl) (Nat.le_of_ble_eq_true rfl) (Nat.le_of_ble_eq_true rfl) (Nat.le_of_ble_eq_true rfl) hlk (XE.of rfl) (fun q hq => absurd hq List.not_mem_nil) (Nat.le_of_ble_eq_true rfl) (Nat.le_of_ble_eq_true rfl)
set_option maxHeartbeats 4000000 in
set_option maxRecDepth 100000 in
theorem c_strip (l : Launch) (D : va_G) {xo lc lt bo yo no : Nat} {et nS : Nat} {m2 : Int32} {s0 co : Nat} {sl : Nat → Nat} {pt : Nat → Int32} {ta : Nat} {q : Nat → Nat} {len : Int32} {w : Nat} (hnS : nS ≤ 10) (hs0 : s0 < nS) (hp : 0 < pt 5) (h9 : pt 9 = 0 ∨ pt 9 = 1) (h10 : pt 10 = 0 ∨ pt 10 = 1) (hw : w < 13) : Met l yX5_strip (ws_ yX5_strip cX5_strip 4 (some .int)) ({ frames := 6, cells := 0, slots := 0, locals := 102 } : Room) (va_Pc [.ref xo, .int (nI s0), .int (nI w)] (PW D [oO xo 5 [.ref lc, .ref lt, .ref bo, .ref yo, .ref no], oO lt 7 [.int m2, .ref et, .int (nI nS)], aO D et 10 (lsF sl nS), oO (sl s0) 3 [.ref co, .int (pt 0), .int (pt 1), .int (pt 3), .int (pt 4), .int (pt 5), .int (pt 6), .int (pt 7), .int (pt 8), .int (pt 9), .int (pt 10), .int (pt 11), .int (pt 12)], oO co 0 [.int len, .ref ta, .ref (q 0), .ref (q 1)]])) (vp_Si (fun v => v = factS len pt w)) 0 0 (fun _ => False) := by
  refine Met.ofW (cc := cX5_strip) (maxL := 4) (ret := (some .int)) (by decide) rfl ?_
  intro p e s m args below meth c s₁ B hml hv
  obtain ⟨rfl, hG, hP⟩ := hv
  have hx := B.exec
  have hb := B.bytes
  have hr := B.returns
  have hts : ∀ w ∈ wsL_law, w.before _ s = true := fun w h => atoms_spec (ws := (ws_ yX5_strip cX5_strip 4 (some .int))) B.pre w (List.mem_cons_of_mem _ h)
  have hown : s.vm.findClass RX5 = some m.cls := findClass_of_methodNamed B.named
  have hlk := B.notSynchronized
  have hC : CallFix p m c cX5_strip 4 s _ wsL_law RX5 := ⟨hx, hb, hml, hown, hts⟩
  have hl := lv_entry ([.ref xo, .int (nI s0), .int (nI w)]) (n := 4) (Nat.le_of_ble_eq_true rfl)
  rw [lg_entry_eq]
  generalize (lg_sl ([.ref xo, .int (nI s0), .int (nI w)]) ++ List.replicate (4 - (lg_sl ([.ref xo, .int (nI s0), .int (nI w)])).length) Slot.unset).toArray = ls at hl ⊢
  have hl : lv_has ls 4 [(0, .ref xo), (1, .int (nI s0)), (2, .int (nI w))] := hl
  refine lv_aload_n hx hb dX5_strip_0 rfl (lv_at hl 0 rfl) ?_
  refine lv_iload_n hx hb dX5_strip_1 rfl (lv_at hl 1 rfl) ?_
  have hP9 := hP.sub (ws' := [oO xo 5 [.ref lc, .ref lt, .ref bo, .ref yo, .ref no], oO lt 7 [.int m2, .ref et, .int (nI nS)], aO D et 10 (lsF sl nS), oO (sl s0) 3 [.ref co, .int (pt 0), .int (pt 1), .int (pt 3), .int (pt 4), .int (pt 5), .int (pt 6), .int (pt 7), .int (pt 8), .int (pt 9), .int (pt 10), .int (pt 11), .int (pt 12)]]) [0, 1, 2, 3] rfl
  refine va_csq (pV (rest := []) (qc := (RX5, TX5, 5)) [.int (nI s0)] 1 hC (c_stripOrNull l D (xo := xo) (s0 := s0) (lc := lc) (lt := lt) (bo := bo) (yo := yo) (no := no) (m2 := m2) (et := et) (nS := nS) (co := co) (by omega) (by omega)) rfl (hP 0 _ rfl) (gV mM_X5_194 mI_X5_stripOrNull mS_X5_stripOrNull mN_X5 mC_X5_stripOrNull) (by decide +kernel) rfl rfl ⟨Nat.le_of_ble_eq_true rfl, Nat.le_of_ble_eq_true rfl⟩ hG hP9 rfl hl.1 rfl (Nat.le_of_ble_eq_true rfl) dX5_strip_2 ⟨Nat.le_of_ble_eq_true rfl, Nat.le_of_ble_eq_true rfl⟩) (fun r2 h2 => ?_)
  obtain rfl : r2 = (some (sl s0)) := h2
  refine tpv (y := .ref (sl s0)) rfl ?_
  refine lv_astore_n (lv' := [(3, .ref (sl s0)), (0, .ref xo), (1, .int (nI s0)), (2, .int (nI w))]) hx hb dX5_strip_5 rfl hl (by decide) rfl (fun ls hl => ?_)
  refine lv_aload_n hx hb dX5_strip_6 rfl (lv_at hl 0 rfl) ?_
  refine lv_ifnull hx hb dX5_strip_7 ?_
  refine lv_iload_n hx hb dX5_strip_10 rfl (lv_at hl 3 rfl) ?_
  refine lv_iconst (v := 0) hx hb dX5_strip_11 (by decide) ?_
  refine lv_bipush (v := 12) hx hb dX5_strip_12 (by decide) ?_
  have hP9 : va_P D cls [] s.heap := fun k q h => by simp at h
  refine vp_callSi (pS (rest := []) [.int (nI w), .int 0, .int 12] 3 hC (c_isIn l D (x := nI w) (a := 0) (b := 12) ) (gS mM_X5_41 mT_X5_isIn mN_X5 mC_X5_isIn) (by decide +kernel) rfl rfl ⟨Nat.le_of_ble_eq_true rfl, Nat.le_of_ble_eq_true rfl⟩ hG hP9 rfl hl.1 rfl (Nat.le_of_ble_eq_true rfl) dX5_strip_14 ⟨Nat.le_of_ble_eq_true rfl, Nat.le_of_ble_eq_true rfl⟩) (fun r14 h14 => ?_)
  rcases h14 with ⟨rfl, hb14⟩ | ⟨rfl, hb14⟩
  rotate_left
  · exact absurd (⟨nI_pos' (by omega), (nI_leI (a := w) (b := 12) (by omega) (by omega)).mpr (by omega)⟩) hb14
  refine lv_if_ne (tgt := 30) hx hb dX5_strip_17 (by decide) (fun _ => ?_) (fun h9 => absurd h9 (by decide))
  refine lv_aload_n hx hb dX5_strip_30 rfl (lv_at hl 0 rfl) ?_
  refine lv_iload_n hx hb dX5_strip_31 rfl (lv_at hl 3 rfl) ?_
  have hP9 := hP.sub (ws' := [oO (sl s0) 3 [.ref co, .int (pt 0), .int (pt 1), .int (pt 3), .int (pt 4), .int (pt 5), .int (pt 6), .int (pt 7), .int (pt 8), .int (pt 9), .int (pt 10), .int (pt 11), .int (pt 12)], oO co 0 [.int len, .ref ta, .ref (q 0), .ref (q 1)]]) [3, 4] rfl
  refine vp_callSi (pV (rest := []) (qc := (RX3, TX3, 13)) [.int (nI w)] 1 hC (c_strip_fact l D (so := sl s0) (w := w) (co := co) (len := len) (ta := ta) (hp) (by omega) (h9) (h10)) rfl (hP 3 _ rfl) (gV mM_X5_234 mI_X3_fact mS_X3_fact mN_X3 mC_X3_fact) (by decide +kernel) rfl rfl ⟨Nat.le_of_ble_eq_true rfl, Nat.le_of_ble_eq_true rfl⟩ hG hP9 rfl hl.1 rfl (Nat.le_of_ble_eq_true rfl) dX5_strip_32 ⟨Nat.le_of_ble_eq_true rfl, Nat.le_of_ble_eq_true rfl⟩) (fun r32 h32 => ?_)
  obtain rfl : r32 = (factS len pt w) := h32
  refine Ri hx hb hr hlk ?_ dX5_strip_35
  exact rfl
set_option maxHeartbeats 4000000 in
set_option maxRecDepth 100000 in
theorem t_stripAt_1 (l : Launch) (D : va_G) (hns : l.stackTraces = false) {xo lc lt bo yo no : Nat} {et nS : Nat} {m2 : Int32} {x y lc0 : Int32} (hz0 : Nat) (hnS : nS ≤ 10) (hxx : x < 0 ∨ nI nS ≤ x) : vx_Met l yX5_stripAt (ws_ yX5_stripAt cX5_stripAt 5 (some .int)) ({ frames := 6, cells := 1, slots := 6, locals := 102 } : Room) (va_Pc [.ref xo, .int x, .int y, .int lc0] (TW D [oO xo 5 [.ref lc, .ref lt, .ref bo, .ref yo, .ref no], oO lt 7 [.int m2, .ref et, .int (nI nS)]] hz0)) (va_Qi (fun _ (_ : Unit) => False) (fun _ _ => False) (va_A [] hz0)) (XE "java/lang/IndexOutOfBoundsException" (va_A [] hz0)) 1 6 (va_A [] hz0) := by
  refine vx_ofW (cc := cX5_stripAt) (maxL := 5) (ret := (some .int)) (by decide) rfl ?_
  intro p e s m args below meth c s₁ B hml hne hv
  obtain ⟨rfl, hsz, hG, hP, hZ⟩ := hv
  subst hsz
  have hx := B.exec
  have hb := B.bytes
  have hr := B.returns
  have hts : ∀ w ∈ wsL_law, w.before _ s = true := fun w h => atoms_spec (ws := (ws_ yX5_stripAt cX5_stripAt 5 (some .int))) B.pre w (List.mem_cons_of_mem _ h)
  have hown : s.vm.findClass RX5 = some m.cls := findClass_of_methodNamed B.named
  have hlk := B.notSynchronized
  have hC : CallFix p m c cX5_stripAt 5 s _ wsL_law RX5 := ⟨hx, hb, hml, hown, hts⟩
  have hl := lv_entry ([.ref xo, .int x, .int y, .int lc0]) (n := 5) (Nat.le_of_ble_eq_true rfl)
  rw [lg_entry_eq]
  generalize (lg_sl ([.ref xo, .int x, .int y, .int lc0]) ++ List.replicate (5 - (lg_sl ([.ref xo, .int x, .int y, .int lc0])).length) Slot.unset).toArray = ls at hl ⊢
  have hl : lv_has ls 5 [(0, .ref xo), (1, .int x), (2, .int y), (3, .int lc0)] := hl
  refine lv_aload_n hx hb dX5_stripAt_0 rfl (lv_at hl 0 rfl) ?_
  refine lv_iload_n hx hb dX5_stripAt_1 rfl (lv_at hl 1 rfl) ?_
  have hP9 := hP
  refine va_csq (pV (rest := []) (qc := (RX5, TX5, 5)) [.int x] 1 hC (c_stripOrNull_no l D (xo := xo) (x := x) (lc := lc) (lt := lt) (bo := bo) (yo := yo) (no := no) (m2 := m2) (et := et) (nS := nS) (by omega) (hxx)) rfl (hP 0 _ rfl) (gV mM_X5_194 mI_X5_stripOrNull mS_X5_stripOrNull mN_X5 mC_X5_stripOrNull) (by decide +kernel) rfl rfl ⟨Nat.le_of_ble_eq_true rfl, Nat.le_of_ble_eq_true rfl⟩ hG hP9 rfl hl.1 rfl (Nat.le_of_ble_eq_true rfl) dX5_stripAt_2 ⟨Nat.le_of_ble_eq_true rfl, Nat.le_of_ble_eq_true rfl⟩) (fun r2 h2 => ?_)
  obtain rfl : none = r2 := Eq.symm h2
  refine tpv (y := .null) rfl ?_
  refine lv_astoreN (lv' := [(4, .null), (0, .ref xo), (1, .int x), (2, .int y), (3, .int lc0)]) hx hb dX5_stripAt_5 hl (by decide) rfl (fun ls hl => ?_)
  refine lv_aloadN hx hb dX5_stripAt_7 (lv_at hl 0 rfl) ?_
  refine lv_ifnonnullN hx hb dX5_stripAt_9 ?_
  obtain ⟨sa, hsa⟩ := gkS hG 21 rfl
  exact vx_throwS (ik := 72) (is := 188) (ic := 76) (cls := "java/lang/IndexOutOfBoundsException") (names := tXn) hx hb hns hown (by decide +kernel) (by decide +kernel) (hts _ mK_X5_72) (hts _ mN__java_lang_IndexOutOfBoundsException_) hsa (vx_hat (fun w hw => hts w (thr_in76 w hw)) thr_bad76 (thr_B 4 hG rfl)) thr_ot76 hZ.1 hZ.2 va_S.rf (by rw [hml]; exact hl.1) dX5_stripAt_12 dX5_stripAt_15 dX5_stripAt_16 dX5_stripAt_18 dX5_stripAt_21 (fun x hx => (hne x hx).elim) (Nat.le_of_ble_eq_true rfl) (Nat.le_of_ble_eq_true rfl) (Nat.le_of_ble_eq_true rfl) (Nat.le_of_ble_eq_true rfl) hlk (XE.of rfl) (fun q hq => absurd hq List.not_mem_nil) (Nat.le_of_ble_eq_true rfl) (Nat.le_of_ble_eq_true rfl)
set_option maxHeartbeats 4000000 in
set_option maxRecDepth 100000 in
theorem t_stripAt_2 (l : Launch) (D : va_G) (hns : l.stackTraces = false) {xo lc lt bo yo no : Nat} {et nS : Nat} {m2 : Int32} {s0 co : Nat} {sl : Nat → Nat} {pt : Nat → Int32} {y lc0 : Int32} (hz0 : Nat) (hnS : nS ≤ 10) (hs0 : s0 < nS) (h : ¬ ((0 : Int32) ≤ y ∧ y ≤ 100000)) : vx_Met l yX5_stripAt (ws_ yX5_stripAt cX5_stripAt 5 (some .int)) ({ frames := 6, cells := 1, slots := 6, locals := 102 } : Room) (va_Pc [.ref xo, .int (nI s0), .int y, .int lc0] (TW D [oO xo 5 [.ref lc, .ref lt, .ref bo, .ref yo, .ref no], oO lt 7 [.int m2, .ref et, .int (nI nS)], aO D et 10 (lsF sl nS), oO (sl s0) 3 [.ref co, .int (pt 0), .int (pt 1), .int (pt 3), .int (pt 4), .int (pt 5), .int (pt 6), .int (pt 7), .int (pt 8), .int (pt 9), .int (pt 10), .int (pt 11), .int (pt 12)]] hz0)) (va_Qi (fun _ (_ : Unit) => False) (fun _ _ => False) (va_A [] hz0)) (XE "java/lang/IllegalArgumentException" (va_A [] hz0)) 1 6 (va_A [] hz0) := by
  refine vx_ofW (cc := cX5_stripAt) (maxL := 5) (ret := (some .int)) (by decide) rfl ?_
  intro p e s m args below meth c s₁ B hml hne hv
  obtain ⟨rfl, hsz, hG, hP, hZ⟩ := hv
  subst hsz
  have hx := B.exec
  have hb := B.bytes
  have hr := B.returns
  have hts : ∀ w ∈ wsL_law, w.before _ s = true := fun w h => atoms_spec (ws := (ws_ yX5_stripAt cX5_stripAt 5 (some .int))) B.pre w (List.mem_cons_of_mem _ h)
  have hown : s.vm.findClass RX5 = some m.cls := findClass_of_methodNamed B.named
  have hlk := B.notSynchronized
  have hC : CallFix p m c cX5_stripAt 5 s _ wsL_law RX5 := ⟨hx, hb, hml, hown, hts⟩
  have hl := lv_entry ([.ref xo, .int (nI s0), .int y, .int lc0]) (n := 5) (Nat.le_of_ble_eq_true rfl)
  rw [lg_entry_eq]
  generalize (lg_sl ([.ref xo, .int (nI s0), .int y, .int lc0]) ++ List.replicate (5 - (lg_sl ([.ref xo, .int (nI s0), .int y, .int lc0])).length) Slot.unset).toArray = ls at hl ⊢
  have hl : lv_has ls 5 [(0, .ref xo), (1, .int (nI s0)), (2, .int y), (3, .int lc0)] := hl
  refine lv_aload_n hx hb dX5_stripAt_0 rfl (lv_at hl 0 rfl) ?_
  refine lv_iload_n hx hb dX5_stripAt_1 rfl (lv_at hl 1 rfl) ?_
  have hP9 := hP
  refine va_csq (pV (rest := []) (qc := (RX5, TX5, 5)) [.int (nI s0)] 1 hC (c_stripOrNull l D (xo := xo) (s0 := s0) (lc := lc) (lt := lt) (bo := bo) (yo := yo) (no := no) (m2 := m2) (et := et) (nS := nS) (co := co) (by omega) (by omega)) rfl (hP 0 _ rfl) (gV mM_X5_194 mI_X5_stripOrNull mS_X5_stripOrNull mN_X5 mC_X5_stripOrNull) (by decide +kernel) rfl rfl ⟨Nat.le_of_ble_eq_true rfl, Nat.le_of_ble_eq_true rfl⟩ hG hP9 rfl hl.1 rfl (Nat.le_of_ble_eq_true rfl) dX5_stripAt_2 ⟨Nat.le_of_ble_eq_true rfl, Nat.le_of_ble_eq_true rfl⟩) (fun r2 h2 => ?_)
  obtain rfl : r2 = (some (sl s0)) := h2
  refine tpv (y := .ref (sl s0)) rfl ?_
  refine lv_astore (lv' := [(4, .ref (sl s0)), (0, .ref xo), (1, .int (nI s0)), (2, .int y), (3, .int lc0)]) hx hb dX5_stripAt_5 hl (by decide) rfl (fun ls hl => ?_)
  refine lv_aload hx hb dX5_stripAt_7 (lv_at hl 0 rfl) ?_
  refine lv_ifnonnull (tgt := 22) hx hb dX5_stripAt_9 (by decide) ?_
  refine lv_iload_n hx hb dX5_stripAt_22 rfl (lv_at hl 3 rfl) ?_
  have hP9 : va_P D cls [] s.heap := fun k q h => by simp at h
  refine vp_callSi (pS (rest := []) [.int y] 1 hC (c_isTime l D (x := y) ) (gS mM_X5_236 mT_X5_isTime mN_X5 mC_X5_isTime) (by decide +kernel) rfl rfl ⟨Nat.le_of_ble_eq_true rfl, Nat.le_of_ble_eq_true rfl⟩ hG hP9 rfl hl.1 rfl (Nat.le_of_ble_eq_true rfl) dX5_stripAt_23 ⟨Nat.le_of_ble_eq_true rfl, Nat.le_of_ble_eq_true rfl⟩) (fun r23 h23 => ?_)
  rcases h23 with ⟨rfl, hb23⟩ | ⟨rfl, hb23⟩
  · exact absurd hb23 (h)
  refine lv_if_ne (tgt := 39) hx hb dX5_stripAt_26 (by decide) (fun h9 => (h9 (by decide)).elim) (fun _ => ?_)
  obtain ⟨sa, hsa⟩ := gkS hG 26 rfl
  exact vx_throwS (ik := 45) (is := 239) (ic := 49) (cls := "java/lang/IllegalArgumentException") (names := tXn) hx hb hns hown (by decide +kernel) (by decide +kernel) (hts _ mK_X5_45) (hts _ mN__java_lang_IllegalArgumentException_) hsa (vx_hat (fun w hw => hts w (thr_in49 w hw)) thr_bad49 (thr_B 2 hG rfl)) thr_ot49 hZ.1 hZ.2 va_S.rf (by rw [hml]; exact hl.1) dX5_stripAt_29 dX5_stripAt_32 dX5_stripAt_33 dX5_stripAt_35 dX5_stripAt_38 (fun x hx => (hne x hx).elim) (Nat.le_of_ble_eq_true rfl) (Nat.le_of_ble_eq_true rfl) (Nat.le_of_ble_eq_true rfl) (Nat.le_of_ble_eq_true rfl) hlk (XE.of rfl) (fun q hq => absurd hq List.not_mem_nil) (Nat.le_of_ble_eq_true rfl) (Nat.le_of_ble_eq_true rfl)
set_option maxHeartbeats 4000000 in
set_option maxRecDepth 100000 in
theorem c_stripAt (l : Launch) (D : va_G) {xo lc lt bo yo no : Nat} {et nS : Nat} {m2 : Int32} {s0 co : Nat} {sl : Nat → Nat} {pt : Nat → Int32} {ta : Nat} {q : Nat → Nat} {len : Int32} {y lc0 : Int32} (hnS : nS ≤ 10) (hs0 : s0 < nS) (hp : 0 < pt 5) (hq : 0 < pt 6) (hln : 0 < len) (h : (0 : Int32) ≤ y ∧ y ≤ 100000) (hF : isOnS len pt y → fadesOK len pt y) : Met l yX5_stripAt (ws_ yX5_stripAt cX5_stripAt 5 (some .int)) ({ frames := 6, cells := 0, slots := 0, locals := 102 } : Room) (va_Pc [.ref xo, .int (nI s0), .int y, .int lc0] (PW D [oO xo 5 [.ref lc, .ref lt, .ref bo, .ref yo, .ref no], oO lt 7 [.int m2, .ref et, .int (nI nS)], aO D et 10 (lsF sl nS), oO (sl s0) 3 [.ref co, .int (pt 0), .int (pt 1), .int (pt 3), .int (pt 4), .int (pt 5), .int (pt 6), .int (pt 7), .int (pt 8), .int (pt 9), .int (pt 10), .int (pt 11), .int (pt 12)], oO co 0 [.int len, .ref ta, .ref (q 0), .ref (q 1)]])) (vp_Si (fun v => v = if isOnS len pt y then (if lc0 = 0 then strS len pt y else localS len pt y) else -1)) 0 0 (fun _ => False) := by
  refine Met.ofW (cc := cX5_stripAt) (maxL := 5) (ret := (some .int)) (by decide) rfl ?_
  intro p e s m args below meth c s₁ B hml hv
  obtain ⟨rfl, hG, hP⟩ := hv
  have hx := B.exec
  have hb := B.bytes
  have hr := B.returns
  have hts : ∀ w ∈ wsL_law, w.before _ s = true := fun w h => atoms_spec (ws := (ws_ yX5_stripAt cX5_stripAt 5 (some .int))) B.pre w (List.mem_cons_of_mem _ h)
  have hown : s.vm.findClass RX5 = some m.cls := findClass_of_methodNamed B.named
  have hlk := B.notSynchronized
  have hC : CallFix p m c cX5_stripAt 5 s _ wsL_law RX5 := ⟨hx, hb, hml, hown, hts⟩
  have hl := lv_entry ([.ref xo, .int (nI s0), .int y, .int lc0]) (n := 5) (Nat.le_of_ble_eq_true rfl)
  rw [lg_entry_eq]
  generalize (lg_sl ([.ref xo, .int (nI s0), .int y, .int lc0]) ++ List.replicate (5 - (lg_sl ([.ref xo, .int (nI s0), .int y, .int lc0])).length) Slot.unset).toArray = ls at hl ⊢
  have hl : lv_has ls 5 [(0, .ref xo), (1, .int (nI s0)), (2, .int y), (3, .int lc0)] := hl
  refine lv_aload_n hx hb dX5_stripAt_0 rfl (lv_at hl 0 rfl) ?_
  refine lv_iload_n hx hb dX5_stripAt_1 rfl (lv_at hl 1 rfl) ?_
  have hP9 := hP.sub (ws' := [oO xo 5 [.ref lc, .ref lt, .ref bo, .ref yo, .ref no], oO lt 7 [.int m2, .ref et, .int (nI nS)], aO D et 10 (lsF sl nS), oO (sl s0) 3 [.ref co, .int (pt 0), .int (pt 1), .int (pt 3), .int (pt 4), .int (pt 5), .int (pt 6), .int (pt 7), .int (pt 8), .int (pt 9), .int (pt 10), .int (pt 11), .int (pt 12)]]) [0, 1, 2, 3] rfl
  refine va_csq (pV (rest := []) (qc := (RX5, TX5, 5)) [.int (nI s0)] 1 hC (c_stripOrNull l D (xo := xo) (s0 := s0) (lc := lc) (lt := lt) (bo := bo) (yo := yo) (no := no) (m2 := m2) (et := et) (nS := nS) (co := co) (by omega) (by omega)) rfl (hP 0 _ rfl) (gV mM_X5_194 mI_X5_stripOrNull mS_X5_stripOrNull mN_X5 mC_X5_stripOrNull) (by decide +kernel) rfl rfl ⟨Nat.le_of_ble_eq_true rfl, Nat.le_of_ble_eq_true rfl⟩ hG hP9 rfl hl.1 rfl (Nat.le_of_ble_eq_true rfl) dX5_stripAt_2 ⟨Nat.le_of_ble_eq_true rfl, Nat.le_of_ble_eq_true rfl⟩) (fun r2 h2 => ?_)
  obtain rfl : r2 = (some (sl s0)) := h2
  refine tpv (y := .ref (sl s0)) rfl ?_
  refine lv_astore (lv' := [(4, .ref (sl s0)), (0, .ref xo), (1, .int (nI s0)), (2, .int y), (3, .int lc0)]) hx hb dX5_stripAt_5 hl (by decide) rfl (fun ls hl => ?_)
  refine lv_aload hx hb dX5_stripAt_7 (lv_at hl 0 rfl) ?_
  refine lv_ifnonnull (tgt := 22) hx hb dX5_stripAt_9 (by decide) ?_
  refine lv_iload_n hx hb dX5_stripAt_22 rfl (lv_at hl 3 rfl) ?_
  have hP9 : va_P D cls [] s.heap := fun k q h => by simp at h
  refine vp_callSi (pS (rest := []) [.int y] 1 hC (c_isTime l D (x := y) ) (gS mM_X5_236 mT_X5_isTime mN_X5 mC_X5_isTime) (by decide +kernel) rfl rfl ⟨Nat.le_of_ble_eq_true rfl, Nat.le_of_ble_eq_true rfl⟩ hG hP9 rfl hl.1 rfl (Nat.le_of_ble_eq_true rfl) dX5_stripAt_23 ⟨Nat.le_of_ble_eq_true rfl, Nat.le_of_ble_eq_true rfl⟩) (fun r23 h23 => ?_)
  rcases h23 with ⟨rfl, hb23⟩ | ⟨rfl, hb23⟩
  rotate_left
  · exact absurd (h) hb23
  refine lv_if_ne (tgt := 39) hx hb dX5_stripAt_26 (by decide) (fun _ => ?_) (fun h9 => absurd h9 (by decide))
  refine lv_aload hx hb dX5_stripAt_39 (lv_at hl 0 rfl) ?_
  refine lv_iload_n hx hb dX5_stripAt_41 rfl (lv_at hl 3 rfl) ?_
  have hP9 := hP.sub (ws' := [oO (sl s0) 3 [.ref co, .int (pt 0), .int (pt 1), .int (pt 3), .int (pt 4), .int (pt 5), .int (pt 6), .int (pt 7), .int (pt 8), .int (pt 9), .int (pt 10), .int (pt 11), .int (pt 12)], oO co 0 [.int len, .ref ta, .ref (q 0), .ref (q 1)]]) [3, 4] rfl
  refine vp_callSi (pV (rest := []) (qc := (RX3, TX3, 13)) [.int y] 1 hC (c_isOn l D (so := sl s0) (x := y) (co := co) (len := len) (ta := ta) (hp)) rfl (hP 3 _ rfl) (gV mM_X5_241 mI_X3_isOn mS_X3_isOn mN_X3 mC_X3_isOn) (by decide +kernel) rfl rfl ⟨Nat.le_of_ble_eq_true rfl, Nat.le_of_ble_eq_true rfl⟩ hG hP9 rfl hl.1 rfl (Nat.le_of_ble_eq_true rfl) dX5_stripAt_42 ⟨Nat.le_of_ble_eq_true rfl, Nat.le_of_ble_eq_true rfl⟩) (fun r42 h42 => ?_)
  rcases h42 with ⟨rfl, hb42⟩ | ⟨rfl, hb42⟩
  · skip
    refine lv_if_ne (tgt := 50) hx hb dX5_stripAt_45 (by decide) (fun _ => ?_) (fun h9 => absurd h9 (by decide))
    refine lv_iload_n hx hb dX5_stripAt_50 rfl (lv_at hl 4 rfl) ?_
    refine lv_if_eq (tgt := 63) hx hb dX5_stripAt_51 (by decide) (fun c51 => ?_) (fun c51 => ?_)
    · skip
      refine lv_aload hx hb dX5_stripAt_63 (lv_at hl 0 rfl) ?_
      refine lv_iload_n hx hb dX5_stripAt_65 rfl (lv_at hl 3 rfl) ?_
      have hP9 := hP.sub (ws' := [oO (sl s0) 3 [.ref co, .int (pt 0), .int (pt 1), .int (pt 3), .int (pt 4), .int (pt 5), .int (pt 6), .int (pt 7), .int (pt 8), .int (pt 9), .int (pt 10), .int (pt 11), .int (pt 12)], oO co 0 [.int len, .ref ta, .ref (q 0), .ref (q 1)]]) [3, 4] rfl
      refine vp_callSi (pV (rest := []) (qc := (RX3, TX3, 13)) [.int y] 1 hC (c_strength l D (so := sl s0) (x := y) (co := co) (len := len) (ta := ta) (hp) (hF hb42)) rfl (hP 3 _ rfl) (gV mM_X5_247 mI_X3_strength mS_X3_strength mN_X3 mC_X3_strength) (by decide +kernel) rfl rfl ⟨Nat.le_of_ble_eq_true rfl, Nat.le_of_ble_eq_true rfl⟩ hG hP9 rfl hl.1 rfl (Nat.le_of_ble_eq_true rfl) dX5_stripAt_66 ⟨Nat.le_of_ble_eq_true rfl, Nat.le_of_ble_eq_true rfl⟩) (fun r66 h66 => ?_)
      obtain rfl : r66 = (strS len pt y) := h66
      refine Ri hx hb hr hlk ?_ dX5_stripAt_69
      show _ = _
      rw [if_pos hb42]
      first | rw [if_pos c51] | rw [if_neg c51]
    · skip
      refine lv_aload hx hb dX5_stripAt_54 (lv_at hl 0 rfl) ?_
      refine lv_iload_n hx hb dX5_stripAt_56 rfl (lv_at hl 3 rfl) ?_
      have hP9 := hP.sub (ws' := [oO (sl s0) 3 [.ref co, .int (pt 0), .int (pt 1), .int (pt 3), .int (pt 4), .int (pt 5), .int (pt 6), .int (pt 7), .int (pt 8), .int (pt 9), .int (pt 10), .int (pt 11), .int (pt 12)], oO co 0 [.int len, .ref ta, .ref (q 0), .ref (q 1)]]) [3, 4] rfl
      refine vp_callSi (pV (rest := []) (qc := (RX3, TX3, 13)) [.int y] 1 hC (c_localTime l D (so := sl s0) (x := y) (co := co) (len := len) (ta := ta) (hq) (hln)) rfl (hP 3 _ rfl) (gV mM_X5_244 mI_X3_localTime mS_X3_localTime mN_X3 mC_X3_localTime) (by decide +kernel) rfl rfl ⟨Nat.le_of_ble_eq_true rfl, Nat.le_of_ble_eq_true rfl⟩ hG hP9 rfl hl.1 rfl (Nat.le_of_ble_eq_true rfl) dX5_stripAt_57 ⟨Nat.le_of_ble_eq_true rfl, Nat.le_of_ble_eq_true rfl⟩) (fun r57 h57 => ?_)
      obtain rfl : r57 = (localS len pt y) := h57
      refine lv_goto (tgt := 69) hx hb dX5_stripAt_60 (by decide) ?_
      refine Ri hx hb hr hlk ?_ dX5_stripAt_69
      show _ = _
      rw [if_pos hb42]
      first | rw [if_pos c51] | rw [if_neg c51]
  · skip
    refine lv_if_ne (tgt := 50) hx hb dX5_stripAt_45 (by decide) (fun h9 => (h9 (by decide)).elim) (fun _ => ?_)
    refine lv_iconst (v := -1) hx hb dX5_stripAt_48 (by decide) ?_
    refine Ri hx hb hr hlk ?_ dX5_stripAt_49
    show _ = _
    rw [if_neg hb42]
set_option maxHeartbeats 4000000 in
set_option maxRecDepth 100000 in
theorem t_met_1 (l : Launch) (D : va_G) (hns : l.stackTraces = false) {xo lc lt bo yo no : Nat} {k : Nat} {g h : Nat → Nat} {f : Nat → Nat → Int32} {cnt : Int32} {ix w : Int32} (hz0 : Nat) (hk : k ≤ 100) (hh : ¬ ((0 ≤ ix ∧ ix ≤ nI k - 1) ∧ (0 ≤ w ∧ w ≤ 3))) : vx_Met l yX5_met (ws_ yX5_met cX5_met 3 (some .int)) ({ frames := 6, cells := 1, slots := 6, locals := 95 } : Room) (va_Pc [.ref xo, .int ix, .int w] (TW D [oO xo 5 [.ref lc, .ref lt, .ref bo, .ref yo, .ref no], oO no 1 [.ref (g 0), .ref (g 1), .ref (g 2), .ref (g 3), .int cnt], oO (g 0) 2 [.ref (h 0), .int (nI k)], oO (g 1) 2 [.ref (h 1), .int (nI k)], oO (g 2) 2 [.ref (h 2), .int (nI k)], oO (g 3) 2 [.ref (h 3), .int (nI k)], aI D (h 0) 100 (f 0), aI D (h 1) 100 (f 1), aI D (h 2) 100 (f 2), aI D (h 3) 100 (f 3)] hz0)) (va_Qi (fun _ (_ : Unit) => False) (fun _ _ => False) (va_A [] hz0)) (XE "java/lang/IndexOutOfBoundsException" (va_A [] hz0)) 1 6 (va_A [] hz0) := by
  refine vx_ofW (cc := cX5_met) (maxL := 3) (ret := (some .int)) (by decide) rfl ?_
  intro p e s m args below meth c s₁ B hml hne hv
  obtain ⟨rfl, hsz, hG, hP, hZ⟩ := hv
  subst hsz
  have hx := B.exec
  have hb := B.bytes
  have hr := B.returns
  have hts : ∀ w ∈ wsL_law, w.before _ s = true := fun w h => atoms_spec (ws := (ws_ yX5_met cX5_met 3 (some .int))) B.pre w (List.mem_cons_of_mem _ h)
  have hown : s.vm.findClass RX5 = some m.cls := findClass_of_methodNamed B.named
  have hlk := B.notSynchronized
  have hC : CallFix p m c cX5_met 3 s _ wsL_law RX5 := ⟨hx, hb, hml, hown, hts⟩
  have hl := lv_entry ([.ref xo, .int ix, .int w]) (n := 3) (Nat.le_of_ble_eq_true rfl)
  rw [lg_entry_eq]
  generalize (lg_sl ([.ref xo, .int ix, .int w]) ++ List.replicate (3 - (lg_sl ([.ref xo, .int ix, .int w])).length) Slot.unset).toArray = ls at hl ⊢
  have hl : lv_has ls 3 [(0, .ref xo), (1, .int ix), (2, .int w)] := hl
  refine lv_iload_n hx hb dX5_met_0 rfl (lv_at hl 1 rfl) ?_
  refine lv_iconst (v := 0) hx hb dX5_met_1 (by decide) ?_
  refine lv_aload_n hx hb dX5_met_2 rfl (lv_at hl 0 rfl) ?_
  refine va_get (D := D) (ci := 5) (v := .ref no) (C := RX5) (T := TX5) (N := 5) hx hb hts inlX5 hown hG.K hP 0 rfl rfl 4 (by decide) (hts _ mF_X5_37) (fun _ h9 => h9) rfl dX5_met_3 ?_
  have hP9 := hP.sub (ws' := [oO no 1 [.ref (g 0), .ref (g 1), .ref (g 2), .ref (g 3), .int cnt], oO (g 0) 2 [.ref (h 0), .int (nI k)], oO (g 1) 2 [.ref (h 1), .int (nI k)], oO (g 2) 2 [.ref (h 2), .int (nI k)], oO (g 3) 2 [.ref (h 3), .int (nI k)], aI D (h 0) 100 (f 0), aI D (h 1) 100 (f 1), aI D (h 2) 100 (f 2), aI D (h 3) 100 (f 3)]) [1, 2, 3, 4, 5, 6, 7, 8, 9] rfl
  refine vp_callSi (pV (rest := [.int 0, .int ix]) (qc := (RX1, TX1, 5)) [] 0 hC (c_keptCount l D (no := no) (cnt := cnt) (k := k) ) rfl (hP 1 _ rfl) (gV mM_X5_276 mI_X1_keptCount mS_X1_keptCount mN_X1 mC_X1_keptCount) (by decide +kernel) rfl rfl ⟨Nat.le_of_ble_eq_true rfl, Nat.le_of_ble_eq_true rfl⟩ hG hP9 rfl hl.1 rfl (Nat.le_of_ble_eq_true rfl) dX5_met_6 ⟨Nat.le_of_ble_eq_true rfl, Nat.le_of_ble_eq_true rfl⟩) (fun r6 h6 => ?_)
  obtain rfl : r6 = (nI k) := h6
  refine lv_iconst (v := 1) hx hb dX5_met_9 (by decide) ?_
  refine lv_isub hx hb dX5_met_10 ?_
  have hP9 : va_P D cls [] s.heap := fun k q h => by simp at h
  refine vp_callSi (pS (rest := []) [.int ix, .int 0, .int ((nI k) - 1)] 3 hC (c_isIn l D (x := ix) (a := 0) (b := (nI k) - 1) ) (gS mM_X5_41 mT_X5_isIn mN_X5 mC_X5_isIn) (by decide +kernel) rfl rfl ⟨Nat.le_of_ble_eq_true rfl, Nat.le_of_ble_eq_true rfl⟩ hG hP9 rfl hl.1 rfl (Nat.le_of_ble_eq_true rfl) dX5_met_11 ⟨Nat.le_of_ble_eq_true rfl, Nat.le_of_ble_eq_true rfl⟩) (fun r11 h11 => ?_)
  rcases h11 with ⟨rfl, hb11⟩ | ⟨rfl, hb11⟩
  · skip
    refine lv_if_eq (tgt := 26) hx hb dX5_met_14 (by decide) (fun h9 => absurd h9 (by decide)) (fun _ => ?_)
    refine lv_iload_n hx hb dX5_met_17 rfl (lv_at hl 2 rfl) ?_
    refine lv_iconst (v := 0) hx hb dX5_met_18 (by decide) ?_
    refine lv_iconst (v := 3) hx hb dX5_met_19 (by decide) ?_
    have hP9 : va_P D cls [] s.heap := fun k q h => by simp at h
    refine vp_callSi (pS (rest := []) [.int w, .int 0, .int 3] 3 hC (c_isIn l D (x := w) (a := 0) (b := 3) ) (gS mM_X5_41 mT_X5_isIn mN_X5 mC_X5_isIn) (by decide +kernel) rfl rfl ⟨Nat.le_of_ble_eq_true rfl, Nat.le_of_ble_eq_true rfl⟩ hG hP9 rfl hl.1 rfl (Nat.le_of_ble_eq_true rfl) dX5_met_20 ⟨Nat.le_of_ble_eq_true rfl, Nat.le_of_ble_eq_true rfl⟩) (fun r20 h20 => ?_)
    rcases h20 with ⟨rfl, hb20⟩ | ⟨rfl, hb20⟩
    · exact absurd hb20 (fun h9 => hh ⟨hb11, h9⟩)
    refine lv_if_ne (tgt := 37) hx hb dX5_met_23 (by decide) (fun h9 => (h9 (by decide)).elim) (fun _ => ?_)
    obtain ⟨sa, hsa⟩ := gkS hG 29 rfl
    exact vx_throwSW (ik := 72) (is := 279) (ic := 76) (cls := "java/lang/IndexOutOfBoundsException") (names := tXn) hx hb hns hown (by decide +kernel) (by decide +kernel) (hts _ mK_X5_72) (hts _ mN__java_lang_IndexOutOfBoundsException_) hsa (vx_hat (fun w hw => hts w (thr_in76 w hw)) thr_bad76 (thr_B 4 hG rfl)) thr_ot76 hZ.1 hZ.2 va_S.rf (by rw [hml]; exact hl.1) dX5_met_26 dX5_met_29 dX5_met_30 dX5_met_33 dX5_met_36 (fun x hx => (hne x hx).elim) (Nat.le_of_ble_eq_true rfl) (Nat.le_of_ble_eq_true rfl) (Nat.le_of_ble_eq_true rfl) (Nat.le_of_ble_eq_true rfl) hlk (XE.of rfl) (fun q hq => absurd hq List.not_mem_nil) (Nat.le_of_ble_eq_true rfl) (Nat.le_of_ble_eq_true rfl)
  · skip
    refine lv_if_eq (tgt := 26) hx hb dX5_met_14 (by decide) (fun _ => ?_) (fun h9 => (h9 (by decide)).elim)
    obtain ⟨sa, hsa⟩ := gkS hG 29 rfl
    exact vx_throwSW (ik := 72) (is := 279) (ic := 76) (cls := "java/lang/IndexOutOfBoundsException") (names := tXn) hx hb hns hown (by decide +kernel) (by decide +kernel) (hts _ mK_X5_72) (hts _ mN__java_lang_IndexOutOfBoundsException_) hsa (vx_hat (fun w hw => hts w (thr_in76 w hw)) thr_bad76 (thr_B 4 hG rfl)) thr_ot76 hZ.1 hZ.2 va_S.rf (by rw [hml]; exact hl.1) dX5_met_26 dX5_met_29 dX5_met_30 dX5_met_33 dX5_met_36 (fun x hx => (hne x hx).elim) (Nat.le_of_ble_eq_true rfl) (Nat.le_of_ble_eq_true rfl) (Nat.le_of_ble_eq_true rfl) (Nat.le_of_ble_eq_true rfl) hlk (XE.of rfl) (fun q hq => absurd hq List.not_mem_nil) (Nat.le_of_ble_eq_true rfl) (Nat.le_of_ble_eq_true rfl)
set_option maxHeartbeats 4000000 in
set_option maxRecDepth 100000 in
theorem c_met (l : Launch) (D : va_G) {xo lc lt bo yo no : Nat} {k : Nat} {g h : Nat → Nat} {f : Nat → Nat → Int32} {cnt : Int32} {i w : Nat} (hk : k ≤ 100) (hi : i < k) (hw : w < 4) : Met l yX5_met (ws_ yX5_met cX5_met 3 (some .int)) ({ frames := 6, cells := 0, slots := 0, locals := 95 } : Room) (va_Pc [.ref xo, .int (nI i), .int (nI w)] (PW D [oO xo 5 [.ref lc, .ref lt, .ref bo, .ref yo, .ref no], oO no 1 [.ref (g 0), .ref (g 1), .ref (g 2), .ref (g 3), .int cnt], oO (g 0) 2 [.ref (h 0), .int (nI k)], oO (g 1) 2 [.ref (h 1), .int (nI k)], oO (g 2) 2 [.ref (h 2), .int (nI k)], oO (g 3) 2 [.ref (h 3), .int (nI k)], aI D (h 0) 100 (f 0), aI D (h 1) 100 (f 1), aI D (h 2) 100 (f 2), aI D (h 3) 100 (f 3)])) (vp_Si (fun v => v = f w i)) 0 0 (fun _ => False) := by
  refine Met.ofW (cc := cX5_met) (maxL := 3) (ret := (some .int)) (by decide) rfl ?_
  intro p e s m args below meth c s₁ B hml hv
  obtain ⟨rfl, hG, hP⟩ := hv
  have hx := B.exec
  have hb := B.bytes
  have hr := B.returns
  have hts : ∀ w ∈ wsL_law, w.before _ s = true := fun w h => atoms_spec (ws := (ws_ yX5_met cX5_met 3 (some .int))) B.pre w (List.mem_cons_of_mem _ h)
  have hown : s.vm.findClass RX5 = some m.cls := findClass_of_methodNamed B.named
  have hlk := B.notSynchronized
  have hC : CallFix p m c cX5_met 3 s _ wsL_law RX5 := ⟨hx, hb, hml, hown, hts⟩
  have hl := lv_entry ([.ref xo, .int (nI i), .int (nI w)]) (n := 3) (Nat.le_of_ble_eq_true rfl)
  rw [lg_entry_eq]
  generalize (lg_sl ([.ref xo, .int (nI i), .int (nI w)]) ++ List.replicate (3 - (lg_sl ([.ref xo, .int (nI i), .int (nI w)])).length) Slot.unset).toArray = ls at hl ⊢
  have hl : lv_has ls 3 [(0, .ref xo), (1, .int (nI i)), (2, .int (nI w))] := hl
  refine lv_iload_n hx hb dX5_met_0 rfl (lv_at hl 1 rfl) ?_
  refine lv_iconst (v := 0) hx hb dX5_met_1 (by decide) ?_
  refine lv_aload_n hx hb dX5_met_2 rfl (lv_at hl 0 rfl) ?_
  refine va_get (D := D) (ci := 5) (v := .ref no) (C := RX5) (T := TX5) (N := 5) hx hb hts inlX5 hown hG.K hP 0 rfl rfl 4 (by decide) (hts _ mF_X5_37) (fun _ h9 => h9) rfl dX5_met_3 ?_
  have hP9 := hP.sub (ws' := [oO no 1 [.ref (g 0), .ref (g 1), .ref (g 2), .ref (g 3), .int cnt], oO (g 0) 2 [.ref (h 0), .int (nI k)], oO (g 1) 2 [.ref (h 1), .int (nI k)], oO (g 2) 2 [.ref (h 2), .int (nI k)], oO (g 3) 2 [.ref (h 3), .int (nI k)], aI D (h 0) 100 (f 0), aI D (h 1) 100 (f 1), aI D (h 2) 100 (f 2), aI D (h 3) 100 (f 3)]) [1, 2, 3, 4, 5, 6, 7, 8, 9] rfl
  refine vp_callSi (pV (rest := [.int 0, .int (nI i)]) (qc := (RX1, TX1, 5)) [] 0 hC (c_keptCount l D (no := no) (cnt := cnt) (k := k) ) rfl (hP 1 _ rfl) (gV mM_X5_276 mI_X1_keptCount mS_X1_keptCount mN_X1 mC_X1_keptCount) (by decide +kernel) rfl rfl ⟨Nat.le_of_ble_eq_true rfl, Nat.le_of_ble_eq_true rfl⟩ hG hP9 rfl hl.1 rfl (Nat.le_of_ble_eq_true rfl) dX5_met_6 ⟨Nat.le_of_ble_eq_true rfl, Nat.le_of_ble_eq_true rfl⟩) (fun r6 h6 => ?_)
  obtain rfl : r6 = (nI k) := h6
  refine lv_iconst (v := 1) hx hb dX5_met_9 (by decide) ?_
  refine lv_isub hx hb dX5_met_10 ?_
  refine tpi (y := nI (k - 1)) (pk_sub (a := k) (b := 1) (by omega)) ?_
  have hP9 : va_P D cls [] s.heap := fun k q h => by simp at h
  refine vp_callSi (pS (rest := []) [.int (nI i), .int 0, .int (nI (k - 1))] 3 hC (c_isIn l D (x := nI i) (a := 0) (b := nI (k - 1)) ) (gS mM_X5_41 mT_X5_isIn mN_X5 mC_X5_isIn) (by decide +kernel) rfl rfl ⟨Nat.le_of_ble_eq_true rfl, Nat.le_of_ble_eq_true rfl⟩ hG hP9 rfl hl.1 rfl (Nat.le_of_ble_eq_true rfl) dX5_met_11 ⟨Nat.le_of_ble_eq_true rfl, Nat.le_of_ble_eq_true rfl⟩) (fun r11 h11 => ?_)
  rcases h11 with ⟨rfl, hb11⟩ | ⟨rfl, hb11⟩
  rotate_left
  · exact absurd (⟨nI_pos' (by omega), nI_le (by omega) (by omega)⟩) hb11
  refine lv_if_eq (tgt := 26) hx hb dX5_met_14 (by decide) (fun h9 => absurd h9 (by decide)) (fun _ => ?_)
  refine lv_iload_n hx hb dX5_met_17 rfl (lv_at hl 2 rfl) ?_
  refine lv_iconst (v := 0) hx hb dX5_met_18 (by decide) ?_
  refine lv_iconst (v := 3) hx hb dX5_met_19 (by decide) ?_
  have hP9 : va_P D cls [] s.heap := fun k q h => by simp at h
  refine vp_callSi (pS (rest := []) [.int (nI w), .int 0, .int 3] 3 hC (c_isIn l D (x := nI w) (a := 0) (b := 3) ) (gS mM_X5_41 mT_X5_isIn mN_X5 mC_X5_isIn) (by decide +kernel) rfl rfl ⟨Nat.le_of_ble_eq_true rfl, Nat.le_of_ble_eq_true rfl⟩ hG hP9 rfl hl.1 rfl (Nat.le_of_ble_eq_true rfl) dX5_met_20 ⟨Nat.le_of_ble_eq_true rfl, Nat.le_of_ble_eq_true rfl⟩) (fun r20 h20 => ?_)
  rcases h20 with ⟨rfl, hb20⟩ | ⟨rfl, hb20⟩
  rotate_left
  · exact absurd (⟨nI_pos' (by omega), (nI_leI (a := w) (b := 3) (by omega) (by omega)).mpr (by omega)⟩) hb20
  refine lv_if_ne (tgt := 37) hx hb dX5_met_23 (by decide) (fun _ => ?_) (fun h9 => absurd h9 (by decide))
  refine lv_aload_n hx hb dX5_met_37 rfl (lv_at hl 0 rfl) ?_
  refine va_get (D := D) (ci := 5) (v := .ref no) (C := RX5) (T := TX5) (N := 5) hx hb hts inlX5 hown hG.K hP 0 rfl rfl 4 (by decide) (hts _ mF_X5_37) (fun _ h9 => h9) rfl dX5_met_38 ?_
  refine lv_iload_n hx hb dX5_met_41 rfl (lv_at hl 1 rfl) ?_
  refine lv_iload_n hx hb dX5_met_42 rfl (lv_at hl 2 rfl) ?_
  have hP9 := hP.sub (ws' := [oO no 1 [.ref (g 0), .ref (g 1), .ref (g 2), .ref (g 3), .int cnt], oO (g 0) 2 [.ref (h 0), .int (nI k)], oO (g 1) 2 [.ref (h 1), .int (nI k)], oO (g 2) 2 [.ref (h 2), .int (nI k)], oO (g 3) 2 [.ref (h 3), .int (nI k)], aI D (h 0) 100 (f 0), aI D (h 1) 100 (f 1), aI D (h 2) 100 (f 2), aI D (h 3) 100 (f 3)]) [1, 2, 3, 4, 5, 6, 7, 8, 9] rfl
  refine vp_callSi (pV (rest := []) (qc := (RX1, TX1, 5)) [.int (nI i), .int (nI w)] 2 hC (c_note_fact l D (no := no) (i := i) (w := w) (cnt := cnt) (k := k) (by omega) (by omega) (by omega)) rfl (hP 1 _ rfl) (gV mM_X5_281 mI_X1_fact mS_X1_fact mN_X1 mC_X1_fact) (by decide +kernel) rfl rfl ⟨Nat.le_of_ble_eq_true rfl, Nat.le_of_ble_eq_true rfl⟩ hG hP9 rfl hl.1 rfl (Nat.le_of_ble_eq_true rfl) dX5_met_43 ⟨Nat.le_of_ble_eq_true rfl, Nat.le_of_ble_eq_true rfl⟩) (fun r43 h43 => ?_)
  obtain rfl : r43 = (f w i) := h43
  refine Ri hx hb hr hlk ?_ dX5_met_46
  exact rfl
