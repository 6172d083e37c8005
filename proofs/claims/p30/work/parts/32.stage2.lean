set_option maxHeartbeats 4000000 in
set_option maxRecDepth 100000 in
theorem c_stripOrNull (l : Launch) (D : va_G) {xo lc lt bo yo no : Nat} {et nS : Nat} {m2 : Int32} {s0 co : Nat} {sl : Nat → Nat} {pt : Nat → Int32} (hnS : nS ≤ 10) (hs0 : s0 < nS) : Met l yX5_stripOrNull (ws_ yX5_stripOrNull cX5_stripOrNull 2 (some (.object "KeyStage$Strip"))) ({ frames := 3, cells := 0, slots := 0, locals := 81 } : Room) (va_Pc [.ref xo, .int (nI s0)] (PW D [oO xo 5 [.ref lc, .ref lt, .ref bo, .ref yo, .ref no], oO lt 7 [.int m2, .ref et, .int (nI nS)], aO D et 10 (lsF sl nS), oO (sl s0) 3 [.ref co, .int (pt 0), .int (pt 1), .int (pt 3), .int (pt 4), .int (pt 5), .int (pt 6), .int (pt 7), .int (pt 8), .int (pt 9), .int (pt 10), .int (pt 11), .int (pt 12)]])) (va_Sq (fun v => v = some (sl s0))) 0 0 (fun _ => False) := by
  refine Met.ofW (cc := cX5_stripOrNull) (maxL := 2) (ret := (some (.object "KeyStage$Strip"))) (by decide) rfl ?_
  intro p e s m args below meth c s₁ B hml hv
  obtain ⟨rfl, hG, hP⟩ := hv
  have hx := B.exec
  have hb := B.bytes
  have hr := B.returns
  have hts : ∀ w ∈ wsL_law, w.before _ s = true := fun w h => atoms_spec (ws := (ws_ yX5_stripOrNull cX5_stripOrNull 2 (some (.object "KeyStage$Strip")))) B.pre w (List.mem_cons_of_mem _ h)
  have hown : s.vm.findClass RX5 = some m.cls := findClass_of_methodNamed B.named
  have hlk := B.notSynchronized
  have hC : CallFix p m c cX5_stripOrNull 2 s _ wsL_law RX5 := ⟨hx, hb, hml, hown, hts⟩
  have hl := lv_entry ([.ref xo, .int (nI s0)]) (n := 2) (Nat.le_of_ble_eq_true rfl)
  rw [lg_entry_eq]
  generalize (lg_sl ([.ref xo, .int (nI s0)]) ++ List.replicate (2 - (lg_sl ([.ref xo, .int (nI s0)])).length) Slot.unset).toArray = ls at hl ⊢
  have hl : lv_has ls 2 [(0, .ref xo), (1, .int (nI s0))] := hl
  refine lv_iload_n hx hb dX5_stripOrNull_0 rfl (lv_at hl 1 rfl) ?_
  refine lv_if_lt (tgt := 29) hx hb dX5_stripOrNull_1 (by decide) (fun h9 => absurd ((nI_ltI (a := s0) (b := 0) (by omega) (by omega)).mp h9) (by omega)) (fun _ => ?_)
  refine lv_iload_n hx hb dX5_stripOrNull_4 rfl (lv_at hl 1 rfl) ?_
  refine lv_aload_n hx hb dX5_stripOrNull_5 rfl (lv_at hl 0 rfl) ?_
  refine va_get (D := D) (ci := 5) (v := .ref lt) (C := RX5) (T := TX5) (N := 5) hx hb hts inlX5 hown hG.K hP 0 rfl rfl 1 (by decide) (hts _ mF_X5_16) (fun _ h9 => h9) rfl dX5_stripOrNull_6 ?_
  have hP9 := hP.sub (ws' := [oO lt 7 [.int m2, .ref et, .int (nI nS)]]) [1] rfl
  refine vp_callSi (pV (rest := [.int (nI s0)]) (qc := (RJx4a65c, TJx4a65c, 3)) [] 0 hC (c_list_size l D (lo := lt) (mc := m2) (ea := et) (n := nS) ) rfl (hP 1 _ rfl) (gV mM_X5_52 mI_Jx4a65c_size_8abf5 mS_Jx4a65c_size_8abf5 mN_Jx4a65c mC_Jx4a65c_size_8abf5) (by decide +kernel) rfl rfl ⟨Nat.le_of_ble_eq_true rfl, Nat.le_of_ble_eq_true rfl⟩ hG hP9 rfl hl.1 rfl (Nat.le_of_ble_eq_true rfl) dX5_stripOrNull_9 ⟨Nat.le_of_ble_eq_true rfl, Nat.le_of_ble_eq_true rfl⟩) (fun r9 h9 => ?_)
  obtain rfl : r9 = (nI nS) := h9
  refine lv_icmp_ge (tgt := 29) hx hb dX5_stripOrNull_12 (by decide) (fun h9 => absurd ((nI_leI (a := nS) (b := s0) (by omega) (by omega)).mp h9) (by omega)) (fun _ => ?_)
  refine lv_aload_n hx hb dX5_stripOrNull_15 rfl (lv_at hl 0 rfl) ?_
  refine va_get (D := D) (ci := 5) (v := .ref lt) (C := RX5) (T := TX5) (N := 5) hx hb hts inlX5 hown hG.K hP 0 rfl rfl 1 (by decide) (hts _ mF_X5_16) (fun _ h9 => h9) rfl dX5_stripOrNull_16 ?_
  refine lv_iload_n hx hb dX5_stripOrNull_19 rfl (lv_at hl 1 rfl) ?_
  have hP9 := hP.sub (ws' := [oO lt 7 [.int m2, .ref et, .int (nI nS)], aO D et 10 (lsF sl nS)]) [1, 2] rfl
  refine va_csq (pV (rest := []) (qc := (RJx4a65c, TJx4a65c, 3)) [.int (nI s0)] 1 hC (c_list_get l D (lo := lt) (i := s0) (mc := m2) (ea := et) (n := nS) (k := 10) (f := lsF sl nS) (by omega) (by omega) (by omega)) rfl (hP 1 _ rfl) (gV mM_X5_250 mI_Jx4a65c_get_915e3 mS_Jx4a65c_get_915e3 mN_Jx4a65c mC_Jx4a65c_get_915e3) (by decide +kernel) rfl rfl ⟨Nat.le_of_ble_eq_true rfl, Nat.le_of_ble_eq_true rfl⟩ hG hP9 rfl hl.1 rfl (Nat.le_of_ble_eq_true rfl) dX5_stripOrNull_20 ⟨Nat.le_of_ble_eq_true rfl, Nat.le_of_ble_eq_true rfl⟩) (fun r20 h20 => ?_)
  obtain rfl : r20 = ((lsF sl nS) s0) := h20
  refine tpv (y := .ref (sl s0)) (lsF_ref (by omega)) ?_
  refine va_castS (nm := RX3) hx hb hown (hts _ mK_X5_183) (hG.K.1 3 _ rfl).2 (rcv hG (hP 3 _ rfl) (ci := 3) rfl) dX5_stripOrNull_23 ?_
  refine lv_goto (tgt := 30) hx hb dX5_stripOrNull_26 (by decide) ?_
  refine Rq (v := some (sl s0)) hx hb hr hlk ?_ dX5_stripOrNull_30
  exact rfl
set_option maxHeartbeats 4000000 in
set_option maxRecDepth 100000 in
theorem c_stripOrNull_no (l : Launch) (D : va_G) {xo lc lt bo yo no : Nat} {et nS : Nat} {m2 : Int32} {x : Int32} (hnS : nS ≤ 10) (hxx : x < 0 ∨ nI nS ≤ x) : Met l yX5_stripOrNull (ws_ yX5_stripOrNull cX5_stripOrNull 2 (some (.object "KeyStage$Strip"))) ({ frames := 3, cells := 0, slots := 0, locals := 81 } : Room) (va_Pc [.ref xo, .int x] (PW D [oO xo 5 [.ref lc, .ref lt, .ref bo, .ref yo, .ref no], oO lt 7 [.int m2, .ref et, .int (nI nS)]])) (va_Sq (fun v => v = none)) 0 0 (fun _ => False) := by
  refine Met.ofW (cc := cX5_stripOrNull) (maxL := 2) (ret := (some (.object "KeyStage$Strip"))) (by decide) rfl ?_
  intro p e s m args below meth c s₁ B hml hv
  obtain ⟨rfl, hG, hP⟩ := hv
  have hx := B.exec
  have hb := B.bytes
  have hr := B.returns
  have hts : ∀ w ∈ wsL_law, w.before _ s = true := fun w h => atoms_spec (ws := (ws_ yX5_stripOrNull cX5_stripOrNull 2 (some (.object "KeyStage$Strip")))) B.pre w (List.mem_cons_of_mem _ h)
  have hown : s.vm.findClass RX5 = some m.cls := findClass_of_methodNamed B.named
  have hlk := B.notSynchronized
  have hC : CallFix p m c cX5_stripOrNull 2 s _ wsL_law RX5 := ⟨hx, hb, hml, hown, hts⟩
  have hl := lv_entry ([.ref xo, .int x]) (n := 2) (Nat.le_of_ble_eq_true rfl)
  rw [lg_entry_eq]
  generalize (lg_sl ([.ref xo, .int x]) ++ List.replicate (2 - (lg_sl ([.ref xo, .int x])).length) Slot.unset).toArray = ls at hl ⊢
  have hl : lv_has ls 2 [(0, .ref xo), (1, .int x)] := hl
  refine lv_iload_n hx hb dX5_stripOrNull_0 rfl (lv_at hl 1 rfl) ?_
  refine lv_if_lt (tgt := 29) hx hb dX5_stripOrNull_1 (by decide) (fun c1 => ?_) (fun c1 => ?_)
  · skip
    refine lv_null hx hb dX5_stripOrNull_29 ?_
    refine Rq (v := none) hx hb hr hlk ?_ dX5_stripOrNull_30
    exact rfl
  · skip
    refine lv_iload_n hx hb dX5_stripOrNull_4 rfl (lv_at hl 1 rfl) ?_
    refine lv_aload_n hx hb dX5_stripOrNull_5 rfl (lv_at hl 0 rfl) ?_
    refine va_get (D := D) (ci := 5) (v := .ref lt) (C := RX5) (T := TX5) (N := 5) hx hb hts inlX5 hown hG.K hP 0 rfl rfl 1 (by decide) (hts _ mF_X5_16) (fun _ h9 => h9) rfl dX5_stripOrNull_6 ?_
    have hP9 := hP.sub (ws' := [oO lt 7 [.int m2, .ref et, .int (nI nS)]]) [1] rfl
    refine vp_callSi (pV (rest := [.int x]) (qc := (RJx4a65c, TJx4a65c, 3)) [] 0 hC (c_list_size l D (lo := lt) (mc := m2) (ea := et) (n := nS) ) rfl (hP 1 _ rfl) (gV mM_X5_52 mI_Jx4a65c_size_8abf5 mS_Jx4a65c_size_8abf5 mN_Jx4a65c mC_Jx4a65c_size_8abf5) (by decide +kernel) rfl rfl ⟨Nat.le_of_ble_eq_true rfl, Nat.le_of_ble_eq_true rfl⟩ hG hP9 rfl hl.1 rfl (Nat.le_of_ble_eq_true rfl) dX5_stripOrNull_9 ⟨Nat.le_of_ble_eq_true rfl, Nat.le_of_ble_eq_true rfl⟩) (fun r9 h9 => ?_)
    obtain rfl : r9 = (nI nS) := h9
    refine lv_icmp_ge (tgt := 29) hx hb dX5_stripOrNull_12 (by decide) (fun c12 => ?_) (fun c12 => absurd (hxx.resolve_left c1) c12)
    refine lv_null hx hb dX5_stripOrNull_29 ?_
    refine Rq (v := none) hx hb hr hlk ?_ dX5_stripOrNull_30
    exact rfl
set_option maxHeartbeats 4000000 in
set_option maxRecDepth 100000 in
theorem c_addStrip (l : Launch) (D : va_G) {xo lc lt bo yo no : Nat} {ec nC c0 : Nat} {m1 : Int32} {cl : Nat → Nat} {ta : Nat} {len : Int32} {q : Nat → Nat} {et nS : Nat} {m2 : Int32} {sl : Nat → Nat} {x1 x2 x3 : Int32} (hz0 : Nat) (hnC : nC ≤ 6) (hc : c0 < nC) (h : (0 ≤ x1 ∧ x1 ≤ 5000) ∧ (1 ≤ x2 ∧ x2 ≤ 9) ∧ (0 ≤ x3 ∧ x3 ≤ 2)) (hnS : nS < 10) : Met l yX5_addStrip (ws_ yX5_addStrip cX5_addStrip 6 (some .int)) ({ frames := 6, cells := 1, slots := 13, locals := 166 } : Room) (va_Pc [.ref xo, .int (nI c0), .int x1, .int x2, .int x3] (SW D [oO xo 5 [.ref lc, .ref lt, .ref bo, .ref yo, .ref no], oO lc 7 [.int m1, .ref ec, .int (nI nC)], aO D ec 10 (lsF cl nC), oO (cl c0) 0 [.int len, .ref ta, .ref (q 0), .ref (q 1)], oO lt 7 [.int m2, .ref et, .int (nI nS)], aO D et 10 (lsF sl nS)] hz0)) (va_Qi (fun v _ => v = nI nS) (AT D (va_A [oO xo 5 [.ref lc, .ref lt, .ref bo, .ref yo, .ref no], oO lc 7 [.int m1, .ref ec, .int (nI nC)], aO D ec 10 (lsF cl nC), oO (cl c0) 0 [.int len, .ref ta, .ref (q 0), .ref (q 1)], oO lt 7 [.int m2, .ref et, .int (nI nS)], aO D et 10 (lsF sl nS)] hz0) (fun so : Nat => [oO xo 5 [.ref lc, .ref lt, .ref bo, .ref yo, .ref no], oO lc 7 [.int m1, .ref ec, .int (nI nC)], aO D ec 10 (lsF cl nC), oO (cl c0) 0 [.int len, .ref ta, .ref (q 0), .ref (q 1)], oO lt 7 [.int (m2 + 1), .ref et, .int (nI (nS + 1))], aO D et 10 (lsF (fun k => if k = nS then so else sl k) (nS + 1)), oO so 3 [.ref (cl c0), .int (nI c0), .int x1, .int x2, .int x3, .int 1, .int 1, .int 0, .int 100, .int 0, .int 0, .int 0, .int 0]])) (va_A [oO xo 5 [.ref lc, .ref lt, .ref bo, .ref yo, .ref no], oO lc 7 [.int m1, .ref ec, .int (nI nC)], aO D ec 10 (lsF cl nC), oO (cl c0) 0 [.int len, .ref ta, .ref (q 0), .ref (q 1)], oO lt 7 [.int m2, .ref et, .int (nI nS)], aO D et 10 (lsF sl nS)] hz0)) 1 13 (va_A [oO xo 5 [.ref lc, .ref lt, .ref bo, .ref yo, .ref no], oO lc 7 [.int m1, .ref ec, .int (nI nC)], aO D ec 10 (lsF cl nC), oO (cl c0) 0 [.int len, .ref ta, .ref (q 0), .ref (q 1)], oO lt 7 [.int m2, .ref et, .int (nI nS)], aO D et 10 (lsF sl nS)] hz0) := by
  refine Met.ofW (cc := cX5_addStrip) (maxL := 6) (ret := (some .int)) (by decide) rfl ?_
  intro p e s m args below meth c s₁ B hml hv
  obtain ⟨rfl, hsz, hG, hP, hD0⟩ := hv
  have hx := B.exec
  have hb := B.bytes
  have hr := B.returns
  have hts : ∀ w ∈ wsL_law, w.before _ s = true := fun w h => atoms_spec (ws := (ws_ yX5_addStrip cX5_addStrip 6 (some .int))) B.pre w (List.mem_cons_of_mem _ h)
  have hown : s.vm.findClass RX5 = some m.cls := findClass_of_methodNamed B.named
  have hlk := B.notSynchronized
  have hC : CallFix p m c cX5_addStrip 6 s _ wsL_law RX5 := ⟨hx, hb, hml, hown, hts⟩
  subst hsz
  have hD := hD0.self (sz := s.heap.size)
  generalize hAe : va_A [oO xo 5 [.ref lc, .ref lt, .ref bo, .ref yo, .ref no], oO lc 7 [.int m1, .ref ec, .int (nI nC)], aO D ec 10 (lsF cl nC), oO (cl c0) 0 [.int len, .ref ta, .ref (q 0), .ref (q 1)], oO lt 7 [.int m2, .ref et, .int (nI nS)], aO D et 10 (lsF sl nS)] s.heap.size = A at hD ⊢
  have hA : ∀ q : Nat, s.heap.size ≤ q → A q := fun q h => by rw [← hAe]; exact Or.inr h
  have hS : va_S A s.heap s.heap [] := va_S.rf
  obtain ⟨H, hHe⟩ : ∃ H, H = s.heap := ⟨_, rfl⟩
  rw [← hHe] at hP
  have hS : va_S A s.heap H [] := by rw [hHe]; exact hS
  have hl := lv_entry ([.ref xo, .int (nI c0), .int x1, .int x2, .int x3]) (n := 6) (Nat.le_of_ble_eq_true rfl)
  rw [lg_entry_eq]
  generalize (lg_sl ([.ref xo, .int (nI c0), .int x1, .int x2, .int x3]) ++ List.replicate (6 - (lg_sl ([.ref xo, .int (nI c0), .int x1, .int x2, .int x3])).length) Slot.unset).toArray = ls at hl ⊢
  have hl : lv_has ls 6 [(0, .ref xo), (1, .int (nI c0)), (2, .int x1), (3, .int x2), (4, .int x3)] := hl
  rw [← hHe]
  refine lv_aload_n hx hb dX5_addStrip_0 rfl (lv_at hl 0 rfl) ?_
  refine lv_iload_n hx hb dX5_addStrip_1 rfl (lv_at hl 1 rfl) ?_
  have hP9 := hP.sub (ws' := [oO xo 5 [.ref lc, .ref lt, .ref bo, .ref yo, .ref no], oO lc 7 [.int m1, .ref ec, .int (nI nC)], aO D ec 10 (lsF cl nC), oO (cl c0) 0 [.int len, .ref ta, .ref (q 0), .ref (q 1)]]) [0, 1, 2, 3] rfl
  refine va_csq (pV (rest := []) (qc := (RX5, TX5, 5)) [.int (nI c0)] 1 hC (c_clipOrNull l D (xo := xo) (c0 := c0) (lc := lc) (lt := lt) (bo := bo) (yo := yo) (no := no) (m1 := m1) (ec := ec) (nC := nC) (len := len) (ta := ta) (by omega) (by omega)) rfl (hP 0 _ rfl) (gV mM_X5_68 mI_X5_clipOrNull mS_X5_clipOrNull mN_X5 mC_X5_clipOrNull) (by decide +kernel) rfl rfl ⟨Nat.le_of_ble_eq_true rfl, Nat.le_of_ble_eq_true rfl⟩ hG hP9 rfl hl.1 rfl (Nat.le_of_ble_eq_true rfl) dX5_addStrip_2 ⟨Nat.le_of_ble_eq_true rfl, Nat.le_of_ble_eq_true rfl⟩) (fun r2 h2 => ?_)
  obtain rfl : r2 = (some (cl c0)) := h2
  refine tpv (y := .ref (cl c0)) rfl ?_
  refine lv_astore (lv' := [(5, .ref (cl c0)), (0, .ref xo), (1, .int (nI c0)), (2, .int x1), (3, .int x2), (4, .int x3)]) hx hb dX5_addStrip_5 hl (by decide) rfl (fun ls hl => ?_)
  refine lv_aload hx hb dX5_addStrip_7 (lv_at hl 0 rfl) ?_
  refine lv_ifnonnull (tgt := 22) hx hb dX5_addStrip_9 (by decide) ?_
  refine lv_iload_n hx hb dX5_addStrip_22 rfl (lv_at hl 3 rfl) ?_
  refine lv_iconst (v := 0) hx hb dX5_addStrip_23 (by decide) ?_
  refine lv_sipush (v := 5000) hx hb dX5_addStrip_24 (by decide) ?_
  have hP9 : va_P D cls [] H := fun k q h => by simp at h
  refine vp_callSi (pS (rest := []) [.int x1, .int 0, .int 5000] 3 hC (c_isIn l D (x := x1) (a := 0) (b := 5000) ) (gS mM_X5_41 mT_X5_isIn mN_X5 mC_X5_isIn) (by decide +kernel) rfl rfl ⟨Nat.le_of_ble_eq_true rfl, Nat.le_of_ble_eq_true rfl⟩ hG hP9 rfl hl.1 rfl (Nat.le_of_ble_eq_true rfl) dX5_addStrip_27 ⟨Nat.le_of_ble_eq_true rfl, Nat.le_of_ble_eq_true rfl⟩) (fun r27 h27 => ?_)
  rcases h27 with ⟨rfl, hb27⟩ | ⟨rfl, hb27⟩
  rotate_left
  · exact absurd (h.1) hb27
  refine lv_if_eq (tgt := 53) hx hb dX5_addStrip_30 (by decide) (fun h9 => absurd h9 (by decide)) (fun _ => ?_)
  refine lv_iload_n hx hb dX5_addStrip_33 rfl (lv_at hl 4 rfl) ?_
  refine lv_iconst (v := 1) hx hb dX5_addStrip_34 (by decide) ?_
  refine lv_bipush (v := 9) hx hb dX5_addStrip_35 (by decide) ?_
  have hP9 : va_P D cls [] H := fun k q h => by simp at h
  refine vp_callSi (pS (rest := []) [.int x2, .int 1, .int 9] 3 hC (c_isIn l D (x := x2) (a := 1) (b := 9) ) (gS mM_X5_41 mT_X5_isIn mN_X5 mC_X5_isIn) (by decide +kernel) rfl rfl ⟨Nat.le_of_ble_eq_true rfl, Nat.le_of_ble_eq_true rfl⟩ hG hP9 rfl hl.1 rfl (Nat.le_of_ble_eq_true rfl) dX5_addStrip_37 ⟨Nat.le_of_ble_eq_true rfl, Nat.le_of_ble_eq_true rfl⟩) (fun r37 h37 => ?_)
  rcases h37 with ⟨rfl, hb37⟩ | ⟨rfl, hb37⟩
  rotate_left
  · exact absurd (h.2.1) hb37
  refine lv_if_eq (tgt := 53) hx hb dX5_addStrip_40 (by decide) (fun h9 => absurd h9 (by decide)) (fun _ => ?_)
  refine lv_iload hx hb dX5_addStrip_43 (lv_at hl 5 rfl) ?_
  refine lv_iconst (v := 0) hx hb dX5_addStrip_45 (by decide) ?_
  refine lv_iconst (v := 2) hx hb dX5_addStrip_46 (by decide) ?_
  have hP9 : va_P D cls [] H := fun k q h => by simp at h
  refine vp_callSi (pS (rest := []) [.int x3, .int 0, .int 2] 3 hC (c_isIn l D (x := x3) (a := 0) (b := 2) ) (gS mM_X5_41 mT_X5_isIn mN_X5 mC_X5_isIn) (by decide +kernel) rfl rfl ⟨Nat.le_of_ble_eq_true rfl, Nat.le_of_ble_eq_true rfl⟩ hG hP9 rfl hl.1 rfl (Nat.le_of_ble_eq_true rfl) dX5_addStrip_47 ⟨Nat.le_of_ble_eq_true rfl, Nat.le_of_ble_eq_true rfl⟩) (fun r47 h47 => ?_)
  rcases h47 with ⟨rfl, hb47⟩ | ⟨rfl, hb47⟩
  rotate_left
  · exact absurd (h.2.2) hb47
  refine lv_if_ne (tgt := 63) hx hb dX5_addStrip_50 (by decide) (fun _ => ?_) (fun h9 => absurd h9 (by decide))
  refine lv_aload_n hx hb dX5_addStrip_63 rfl (lv_at hl 1 rfl) ?_
  refine va_get (D := D) (ci := 5) (v := .ref lt) (C := RX5) (T := TX5) (N := 5) hx hb hts inlX5 hown hG.K hP 0 rfl rfl 1 (by decide) (hts _ mF_X5_16) (fun _ h9 => h9) rfl dX5_addStrip_64 ?_
  have hP9 := hP.sub (ws' := [oO lt 7 [.int m2, .ref et, .int (nI nS)]]) [4] rfl
  refine vp_callSi (pV (rest := []) (qc := (RJx4a65c, TJx4a65c, 3)) [] 0 hC (c_list_size l D (lo := lt) (mc := m2) (ea := et) (n := nS) ) rfl (hP 4 _ rfl) (gV mM_X5_52 mI_Jx4a65c_size_8abf5 mS_Jx4a65c_size_8abf5 mN_Jx4a65c mC_Jx4a65c_size_8abf5) (by decide +kernel) rfl rfl ⟨Nat.le_of_ble_eq_true rfl, Nat.le_of_ble_eq_true rfl⟩ hG hP9 rfl hl.1 rfl (Nat.le_of_ble_eq_true rfl) dX5_addStrip_67 ⟨Nat.le_of_ble_eq_true rfl, Nat.le_of_ble_eq_true rfl⟩) (fun r67 h67 => ?_)
  obtain rfl : r67 = (nI nS) := h67
  refine lv_bipush (v := 10) hx hb dX5_addStrip_70 (by decide) ?_
  refine lv_icmp_lt (tgt := 85) hx hb dX5_addStrip_72 (by decide) (fun _ => ?_) (fun h9 => absurd ((nI_ltI (a := nS) (b := 10) (by omega) (by omega)).mpr (by omega)) h9)
  refine lv_aload_n hx hb dX5_addStrip_85 rfl (lv_at hl 1 rfl) ?_
  refine va_get (D := D) (ci := 5) (v := .ref lt) (C := RX5) (T := TX5) (N := 5) hx hb hts inlX5 hown hG.K hP 0 rfl rfl 1 (by decide) (hts _ mF_X5_16) (fun _ h9 => h9) rfl dX5_addStrip_86 ?_
  refine va_new (ci := 3) (fs := [.null, .int 0, .int 0, .int 0, .int 0, .int 0, .int 0, .int 0, .int 0, .int 0, .int 0, .int 0, .int 0]) (C := RX3) (T := TX3) (N := 13) hx hb hts inlX3 tyX3 tyX3_ok hown (hts _ mK_X5_183) (hts _ mB_X3) (hts _ mN_X3) hG.K hP hD hS hA rfl (fun j hj => by rcases (show j = 0 ∨ j = 1 ∨ j = 2 ∨ j = 3 ∨ j = 4 ∨ j = 5 ∨ j = 6 ∨ j = 7 ∨ j = 8 ∨ j = 9 ∨ j = 10 ∨ j = 11 ∨ j = 12 by omega) with rfl | rfl | rfl | rfl | rfl | rfl | rfl | rfl | rfl | rfl | rfl | rfl | rfl <;> rfl) (Nat.le_of_ble_eq_true rfl) (Nat.le_of_ble_eq_true rfl) dX5_addStrip_89 (fun so H hP hD hS => ?_)
  have hP : va_P D cls [oO xo 5 [.ref lc, .ref lt, .ref bo, .ref yo, .ref no], oO lc 7 [.int m1, .ref ec, .int (nI nC)], aO D ec 10 (lsF cl nC), oO (cl c0) 0 [.int len, .ref ta, .ref (q 0), .ref (q 1)], oO lt 7 [.int m2, .ref et, .int (nI nS)], aO D et 10 (lsF sl nS), oO so 3 [.null, .int 0, .int 0, .int 0, .int 0, .int 0, .int 0, .int 0, .int 0, .int 0, .int 0, .int 0, .int 0]] H := hP
  have hD : va_D A [oO xo 5 [.ref lc, .ref lt, .ref bo, .ref yo, .ref no], oO lc 7 [.int m1, .ref ec, .int (nI nC)], aO D ec 10 (lsF cl nC), oO (cl c0) 0 [.int len, .ref ta, .ref (q 0), .ref (q 1)], oO lt 7 [.int m2, .ref et, .int (nI nS)], aO D et 10 (lsF sl nS), oO so 3 [.null, .int 0, .int 0, .int 0, .int 0, .int 0, .int 0, .int 0, .int 0, .int 0, .int 0, .int 0, .int 0]] := hD
  refine lv_dup hx hb dX5_addStrip_92 rfl ?_
  refine lv_aload hx hb dX5_addStrip_93 (lv_at hl 0 rfl) ?_
  refine lv_iload_n hx hb dX5_addStrip_95 rfl (lv_at hl 2 rfl) ?_
  refine lv_iload_n hx hb dX5_addStrip_96 rfl (lv_at hl 3 rfl) ?_
  refine lv_iload_n hx hb dX5_addStrip_97 rfl (lv_at hl 4 rfl) ?_
  refine lv_iload hx hb dX5_addStrip_98 (lv_at hl 5 rfl) ?_
  have hP9 := hP.sub (ws' := [oO so 3 [.null, .int 0, .int 0, .int 0, .int 0, .int 0, .int 0, .int 0, .int 0, .int 0, .int 0, .int 0, .int 0]]) [6] rfl
  have hD9 := (hD.sub (ws' := [oO so 3 [.null, .int 0, .int 0, .int 0, .int 0, .int 0, .int 0, .int 0, .int 0, .int 0, .int 0, .int 0, .int 0]]) [6] (by decide) rfl).weaken (B := fun _ => True) (fun _ _ _ _ => trivial)
  refine kv (wr := [oO xo 5 [.ref lc, .ref lt, .ref bo, .ref yo, .ref no], oO lc 7 [.int m1, .ref ec, .int (nI nC)], aO D ec 10 (lsF cl nC), oO (cl c0) 0 [.int len, .ref ta, .ref (q 0), .ref (q 1)], oO lt 7 [.int m2, .ref et, .int (nI nS)], aO D et 10 (lsF sl nS)]) (rI (rest := [.ref so, .ref lt]) [.ref (cl c0), .int (nI c0), .int x1, .int x2, .int x3] 5 0 0 hC (c_Strip_init l D (so := so) (co := cl c0) (x0 := nI c0) (x1 := x1) (x2 := x2) (x3 := x3) (hz0 := H.size) ) mM_X5_185 mI_X3_init mN_X3 mC_X3_init rfl (by decide +kernel) rfl rfl ⟨Nat.le_of_ble_eq_true rfl, Nat.le_of_ble_eq_true rfl⟩ hG hP9 hD9 rfl hl.1 rfl (Nat.le_of_ble_eq_true rfl) dX5_addStrip_100 ⟨Nat.le_of_ble_eq_true rfl, Nat.le_of_ble_eq_true rfl⟩) hP hD hS hA [6] [0, 1, 2, 3, 4, 5] rfl rfl (by decide) (by decide) (fun u100 H locs h100 hP hD hS hz hfr => ?_)
  have hP : va_P D cls [oO xo 5 [.ref lc, .ref lt, .ref bo, .ref yo, .ref no], oO lc 7 [.int m1, .ref ec, .int (nI nC)], aO D ec 10 (lsF cl nC), oO (cl c0) 0 [.int len, .ref ta, .ref (q 0), .ref (q 1)], oO lt 7 [.int m2, .ref et, .int (nI nS)], aO D et 10 (lsF sl nS), oO so 3 [.ref (cl c0), .int (nI c0), .int x1, .int x2, .int x3, .int 1, .int 1, .int 0, .int 100, .int 0, .int 0, .int 0, .int 0]] H := hP
  have hD : va_D A [oO xo 5 [.ref lc, .ref lt, .ref bo, .ref yo, .ref no], oO lc 7 [.int m1, .ref ec, .int (nI nC)], aO D ec 10 (lsF cl nC), oO (cl c0) 0 [.int len, .ref ta, .ref (q 0), .ref (q 1)], oO lt 7 [.int m2, .ref et, .int (nI nS)], aO D et 10 (lsF sl nS), oO so 3 [.ref (cl c0), .int (nI c0), .int x1, .int x2, .int x3, .int 1, .int 1, .int 0, .int 100, .int 0, .int 0, .int 0, .int 0]] := hD
  have hP9 := hP.sub (ws' := [oO lt 7 [.int m2, .ref et, .int (nI nS)], aO D et 10 (lsF sl nS), oO so 3 [.ref (cl c0), .int (nI c0), .int x1, .int x2, .int x3, .int 1, .int 1, .int 0, .int 100, .int 0, .int 0, .int 0, .int 0]]) [4, 5, 6] rfl
  have hD9 := (hD.sub (ws' := [oO lt 7 [.int m2, .ref et, .int (nI nS)], aO D et 10 (lsF sl nS), oO so 3 [.ref (cl c0), .int (nI c0), .int x1, .int x2, .int x3, .int 1, .int 1, .int 0, .int 100, .int 0, .int 0, .int 0, .int 0]]) [4, 5, 6] (by decide) rfl).weaken (B := fun _ => True) (fun _ _ _ _ => trivial)
  refine ki (wr := [oO xo 5 [.ref lc, .ref lt, .ref bo, .ref yo, .ref no], oO lc 7 [.int m1, .ref ec, .int (nI nC)], aO D ec 10 (lsF cl nC), oO (cl c0) 0 [.int len, .ref ta, .ref (q 0), .ref (q 1)]]) (rV (rest := []) (qc := (RJx4a65c, TJx4a65c, 3)) [.ref so] 1 0 0 hC (c_add_Strip l D (lo := lt) (vo := so) (mc := m2) (ea := et) (n := nS) (k := 10) (f := lsF sl nS) (v0 := .ref (cl c0)) (v1 := .int (nI c0)) (v2 := .int x1) (v3 := .int x2) (v4 := .int x3) (v5 := .int 1) (v6 := .int 1) (v7 := .int 0) (v8 := .int 100) (v9 := .int 0) (v10 := .int 0) (v11 := .int 0) (v12 := .int 0) (hz0 := H.size) (by omega) (by omega)) rfl (hP 4 _ rfl) (gV mM_X5_64 mI_Jx4a65c_add_9ea2d mS_Jx4a65c_add_9ea2d mN_Jx4a65c mC_Jx4a65c_add_9ea2d) (by decide +kernel) rfl rfl ⟨Nat.le_of_ble_eq_true rfl, Nat.le_of_ble_eq_true rfl⟩ hG hP9 hD9 rfl hl.1 rfl (Nat.le_of_ble_eq_true rfl) dX5_addStrip_103 ⟨Nat.le_of_ble_eq_true rfl, Nat.le_of_ble_eq_true rfl⟩) hP hD hS hA [4, 5, 6] [0, 1, 2, 3] rfl rfl (by decide) (by decide) (fun r103 u103 H locs h103 hP hD hS hz hfr => ?_)
  have hP : va_P D cls [oO xo 5 [.ref lc, .ref lt, .ref bo, .ref yo, .ref no], oO lc 7 [.int m1, .ref ec, .int (nI nC)], aO D ec 10 (lsF cl nC), oO (cl c0) 0 [.int len, .ref ta, .ref (q 0), .ref (q 1)], oO lt 7 [.int (m2 + 1), .ref et, .int (nI (nS + 1))], aO D et 10 (va_up (lsF sl nS) nS (some so)), oO so 3 [(.ref (cl c0)), (.int (nI c0)), (.int x1), (.int x2), (.int x3), (.int 1), (.int 1), (.int 0), (.int 100), (.int 0), (.int 0), (.int 0), (.int 0)]] H := hP
  have hD : va_D A [oO xo 5 [.ref lc, .ref lt, .ref bo, .ref yo, .ref no], oO lc 7 [.int m1, .ref ec, .int (nI nC)], aO D ec 10 (lsF cl nC), oO (cl c0) 0 [.int len, .ref ta, .ref (q 0), .ref (q 1)], oO lt 7 [.int (m2 + 1), .ref et, .int (nI (nS + 1))], aO D et 10 (va_up (lsF sl nS) nS (some so)), oO so 3 [(.ref (cl c0)), (.int (nI c0)), (.int x1), (.int x2), (.int x3), (.int 1), (.int 1), (.int 0), (.int 100), (.int 0), (.int 0), (.int 0), (.int 0)]] := hD
  subst h103
  refine lv_pop hx hb dX5_addStrip_106 rfl ?_
  have hcv1 : (lsF (fun k => if k = nS then so else sl k) (nS + 1)) = (va_up (lsF sl nS) nS (some so)) := (lsF_add sl nS so).symm
  have hP := Eq.mpr (congrArg (fun z9 => va_P D cls [oO xo 5 [.ref lc, .ref lt, .ref bo, .ref yo, .ref no], oO lc 7 [.int m1, .ref ec, .int (nI nC)], aO D ec 10 (lsF cl nC), oO (cl c0) 0 [.int len, .ref ta, .ref (q 0), .ref (q 1)], oO lt 7 [.int (m2 + 1), .ref et, .int (nI (nS + 1))], aO D et 10 z9, oO so 3 [(.ref (cl c0)), (.int (nI c0)), (.int x1), (.int x2), (.int x3), (.int 1), (.int 1), (.int 0), (.int 100), (.int 0), (.int 0), (.int 0), (.int 0)]] H) hcv1) hP
  have hD := Eq.mpr (congrArg (fun z9 => va_D A [oO xo 5 [.ref lc, .ref lt, .ref bo, .ref yo, .ref no], oO lc 7 [.int m1, .ref ec, .int (nI nC)], aO D ec 10 (lsF cl nC), oO (cl c0) 0 [.int len, .ref ta, .ref (q 0), .ref (q 1)], oO lt 7 [.int (m2 + 1), .ref et, .int (nI (nS + 1))], aO D et 10 z9, oO so 3 [(.ref (cl c0)), (.int (nI c0)), (.int x1), (.int x2), (.int x3), (.int 1), (.int 1), (.int 0), (.int 100), (.int 0), (.int 0), (.int 0), (.int 0)]]) hcv1) hD
  have hP : va_P D cls [oO xo 5 [.ref lc, .ref lt, .ref bo, .ref yo, .ref no], oO lc 7 [.int m1, .ref ec, .int (nI nC)], aO D ec 10 (lsF cl nC), oO (cl c0) 0 [.int len, .ref ta, .ref (q 0), .ref (q 1)], oO lt 7 [.int (m2 + 1), .ref et, .int (nI (nS + 1))], aO D et 10 (lsF (fun k => if k = nS then so else sl k) (nS + 1)), oO so 3 [(.ref (cl c0)), (.int (nI c0)), (.int x1), (.int x2), (.int x3), (.int 1), (.int 1), (.int 0), (.int 100), (.int 0), (.int 0), (.int 0), (.int 0)]] H := hP
  have hD : va_D A [oO xo 5 [.ref lc, .ref lt, .ref bo, .ref yo, .ref no], oO lc 7 [.int m1, .ref ec, .int (nI nC)], aO D ec 10 (lsF cl nC), oO (cl c0) 0 [.int len, .ref ta, .ref (q 0), .ref (q 1)], oO lt 7 [.int (m2 + 1), .ref et, .int (nI (nS + 1))], aO D et 10 (lsF (fun k => if k = nS then so else sl k) (nS + 1)), oO so 3 [(.ref (cl c0)), (.int (nI c0)), (.int x1), (.int x2), (.int x3), (.int 1), (.int 1), (.int 0), (.int 100), (.int 0), (.int 0), (.int 0), (.int 0)]] := hD
  refine lv_aload_n hx hb dX5_addStrip_107 rfl (lv_at hl 1 rfl) ?_
  refine va_get (D := D) (ci := 5) (v := .ref lt) (C := RX5) (T := TX5) (N := 5) hx hb hts inlX5 hown hG.K hP 0 rfl rfl 1 (by decide) (hts _ mF_X5_16) (fun _ h9 => h9) rfl dX5_addStrip_108 ?_
  have hP9 := hP.sub (ws' := [oO lt 7 [.int (m2 + 1), .ref et, .int (nI (nS + 1))]]) [4] rfl
  refine vp_callSi (pV (rest := []) (qc := (RJx4a65c, TJx4a65c, 3)) [] 0 hC (c_list_size l D (lo := lt) (mc := m2 + 1) (ea := et) (n := nS + 1) ) rfl (hP 4 _ rfl) (gV mM_X5_52 mI_Jx4a65c_size_8abf5 mS_Jx4a65c_size_8abf5 mN_Jx4a65c mC_Jx4a65c_size_8abf5) (by decide +kernel) rfl rfl ⟨Nat.le_of_ble_eq_true rfl, Nat.le_of_ble_eq_true rfl⟩ hG hP9 rfl hl.1 rfl (Nat.le_of_ble_eq_true rfl) dX5_addStrip_111 ⟨Nat.le_of_ble_eq_true rfl, Nat.le_of_ble_eq_true rfl⟩) (fun r111 h111 => ?_)
  obtain rfl : r111 = (nI (nS + 1)) := h111
  refine lv_iconst (v := 1) hx hb dX5_addStrip_114 (by decide) ?_
  refine lv_isub hx hb dX5_addStrip_115 ?_
  refine tpi (y := nI nS) (pk_sub (a := nS + 1) (b := 1) (by omega)) ?_
  refine Wi so hx hb hr hlk ?_ hP hD hS (Nat.le_of_ble_eq_true rfl) (by first | exact Nat.le_of_ble_eq_true rfl | exact Nat.le_of_eq (Nat.zero_add _)) dX5_addStrip_116
  exact rfl
set_option maxHeartbeats 4000000 in
set_option maxRecDepth 100000 in
theorem c_addStrip_first (l : Launch) (D : va_G) {xo lc lt bo yo no : Nat} {ec nC c0 : Nat} {m1 : Int32} {cl : Nat → Nat} {ta : Nat} {len : Int32} {q : Nat → Nat} {z : Nat} {m2 : Int32} {x1 x2 x3 : Int32} (hz0 : Nat) (hnC : nC ≤ 6) (hc : c0 < nC) (h : (0 ≤ x1 ∧ x1 ≤ 5000) ∧ (1 ≤ x2 ∧ x2 ≤ 9) ∧ (0 ≤ x3 ∧ x3 ≤ 2)) : Met l yX5_addStrip (ws_ yX5_addStrip cX5_addStrip 6 (some .int)) ({ frames := 6, cells := 2, slots := 23, locals := 166 } : Room) (va_Pc [.ref xo, .int (nI c0), .int x1, .int x2, .int x3] (SX D [oO xo 5 [.ref lc, .ref lt, .ref bo, .ref yo, .ref no], oO lc 7 [.int m1, .ref ec, .int (nI nC)], aO D ec 10 (lsF cl nC), oO (cl c0) 0 [.int len, .ref ta, .ref (q 0), .ref (q 1)], oO lt 7 [.int m2, .ref z, .int (nI 0)]] hz0 (ZL z (va_A [oO xo 5 [.ref lc, .ref lt, .ref bo, .ref yo, .ref no], oO lc 7 [.int m1, .ref ec, .int (nI nC)], aO D ec 10 (lsF cl nC), oO (cl c0) 0 [.int len, .ref ta, .ref (q 0), .ref (q 1)], oO lt 7 [.int m2, .ref z, .int (nI 0)]] hz0)))) (va_Qi (fun v _ => v = nI 0) (AT D (va_A [oO xo 5 [.ref lc, .ref lt, .ref bo, .ref yo, .ref no], oO lc 7 [.int m1, .ref ec, .int (nI nC)], aO D ec 10 (lsF cl nC), oO (cl c0) 0 [.int len, .ref ta, .ref (q 0), .ref (q 1)], oO lt 7 [.int m2, .ref z, .int (nI 0)]] hz0) (fun ((et, so) : Nat × Nat) => [oO xo 5 [.ref lc, .ref lt, .ref bo, .ref yo, .ref no], oO lc 7 [.int m1, .ref ec, .int (nI nC)], aO D ec 10 (lsF cl nC), oO (cl c0) 0 [.int len, .ref ta, .ref (q 0), .ref (q 1)], oO lt 7 [.int (m2 + 1), .ref et, .int (nI 1)], aO D et 10 (lsF (fun _ => so) 1), oO so 3 [.ref (cl c0), .int (nI c0), .int x1, .int x2, .int x3, .int 1, .int 1, .int 0, .int 100, .int 0, .int 0, .int 0, .int 0]])) (va_A [oO xo 5 [.ref lc, .ref lt, .ref bo, .ref yo, .ref no], oO lc 7 [.int m1, .ref ec, .int (nI nC)], aO D ec 10 (lsF cl nC), oO (cl c0) 0 [.int len, .ref ta, .ref (q 0), .ref (q 1)], oO lt 7 [.int m2, .ref z, .int (nI 0)]] hz0)) 2 23 (va_A [oO xo 5 [.ref lc, .ref lt, .ref bo, .ref yo, .ref no], oO lc 7 [.int m1, .ref ec, .int (nI nC)], aO D ec 10 (lsF cl nC), oO (cl c0) 0 [.int len, .ref ta, .ref (q 0), .ref (q 1)], oO lt 7 [.int m2, .ref z, .int (nI 0)]] hz0) := by
  refine Met.ofW (cc := cX5_addStrip) (maxL := 6) (ret := (some .int)) (by decide) rfl ?_
  intro p e s m args below meth c s₁ B hml hv
  obtain ⟨rfl, ⟨hsz, hG, hP, hD0⟩, hX⟩ := hv
  have hx := B.exec
  have hb := B.bytes
  have hr := B.returns
  have hts : ∀ w ∈ wsL_law, w.before _ s = true := fun w h => atoms_spec (ws := (ws_ yX5_addStrip cX5_addStrip 6 (some .int))) B.pre w (List.mem_cons_of_mem _ h)
  have hown : s.vm.findClass RX5 = some m.cls := findClass_of_methodNamed B.named
  have hlk := B.notSynchronized
  have hC : CallFix p m c cX5_addStrip 6 s _ wsL_law RX5 := ⟨hx, hb, hml, hown, hts⟩
  subst hsz
  have hD := hD0.self (sz := s.heap.size)
  generalize hAe : va_A [oO xo 5 [.ref lc, .ref lt, .ref bo, .ref yo, .ref no], oO lc 7 [.int m1, .ref ec, .int (nI nC)], aO D ec 10 (lsF cl nC), oO (cl c0) 0 [.int len, .ref ta, .ref (q 0), .ref (q 1)], oO lt 7 [.int m2, .ref z, .int (nI 0)]] s.heap.size = A at hD hX ⊢
  have hA : ∀ q : Nat, s.heap.size ≤ q → A q := fun q h => by rw [← hAe]; exact Or.inr h
  have hS : va_S A s.heap s.heap [] := va_S.rf
  obtain ⟨H, hHe⟩ : ∃ H, H = s.heap := ⟨_, rfl⟩
  rw [← hHe] at hP
  have hS : va_S A s.heap H [] := by rw [hHe]; exact hS
  have hl := lv_entry ([.ref xo, .int (nI c0), .int x1, .int x2, .int x3]) (n := 6) (Nat.le_of_ble_eq_true rfl)
  rw [lg_entry_eq]
  generalize (lg_sl ([.ref xo, .int (nI c0), .int x1, .int x2, .int x3]) ++ List.replicate (6 - (lg_sl ([.ref xo, .int (nI c0), .int x1, .int x2, .int x3])).length) Slot.unset).toArray = ls at hl ⊢
  have hl : lv_has ls 6 [(0, .ref xo), (1, .int (nI c0)), (2, .int x1), (3, .int x2), (4, .int x3)] := hl
  rw [← hHe]
  refine lv_aload_n hx hb dX5_addStrip_0 rfl (lv_at hl 0 rfl) ?_
  refine lv_iload_n hx hb dX5_addStrip_1 rfl (lv_at hl 1 rfl) ?_
  have hP9 := hP.sub (ws' := [oO xo 5 [.ref lc, .ref lt, .ref bo, .ref yo, .ref no], oO lc 7 [.int m1, .ref ec, .int (nI nC)], aO D ec 10 (lsF cl nC), oO (cl c0) 0 [.int len, .ref ta, .ref (q 0), .ref (q 1)]]) [0, 1, 2, 3] rfl
  refine va_csq (pV (rest := []) (qc := (RX5, TX5, 5)) [.int (nI c0)] 1 hC (c_clipOrNull l D (xo := xo) (c0 := c0) (lc := lc) (lt := lt) (bo := bo) (yo := yo) (no := no) (m1 := m1) (ec := ec) (nC := nC) (len := len) (ta := ta) (by omega) (by omega)) rfl (hP 0 _ rfl) (gV mM_X5_68 mI_X5_clipOrNull mS_X5_clipOrNull mN_X5 mC_X5_clipOrNull) (by decide +kernel) rfl rfl ⟨Nat.le_of_ble_eq_true rfl, Nat.le_of_ble_eq_true rfl⟩ hG hP9 rfl hl.1 rfl (Nat.le_of_ble_eq_true rfl) dX5_addStrip_2 ⟨Nat.le_of_ble_eq_true rfl, Nat.le_of_ble_eq_true rfl⟩) (fun r2 h2 => ?_)
  obtain rfl : r2 = (some (cl c0)) := h2
  refine tpv (y := .ref (cl c0)) rfl ?_
  refine lv_astore (lv' := [(5, .ref (cl c0)), (0, .ref xo), (1, .int (nI c0)), (2, .int x1), (3, .int x2), (4, .int x3)]) hx hb dX5_addStrip_5 hl (by decide) rfl (fun ls hl => ?_)
  refine lv_aload hx hb dX5_addStrip_7 (lv_at hl 0 rfl) ?_
  refine lv_ifnonnull (tgt := 22) hx hb dX5_addStrip_9 (by decide) ?_
  refine lv_iload_n hx hb dX5_addStrip_22 rfl (lv_at hl 3 rfl) ?_
  refine lv_iconst (v := 0) hx hb dX5_addStrip_23 (by decide) ?_
  refine lv_sipush (v := 5000) hx hb dX5_addStrip_24 (by decide) ?_
  have hP9 : va_P D cls [] H := fun k q h => by simp at h
  refine vp_callSi (pS (rest := []) [.int x1, .int 0, .int 5000] 3 hC (c_isIn l D (x := x1) (a := 0) (b := 5000) ) (gS mM_X5_41 mT_X5_isIn mN_X5 mC_X5_isIn) (by decide +kernel) rfl rfl ⟨Nat.le_of_ble_eq_true rfl, Nat.le_of_ble_eq_true rfl⟩ hG hP9 rfl hl.1 rfl (Nat.le_of_ble_eq_true rfl) dX5_addStrip_27 ⟨Nat.le_of_ble_eq_true rfl, Nat.le_of_ble_eq_true rfl⟩) (fun r27 h27 => ?_)
  rcases h27 with ⟨rfl, hb27⟩ | ⟨rfl, hb27⟩
  rotate_left
  · exact absurd (h.1) hb27
  refine lv_if_eq (tgt := 53) hx hb dX5_addStrip_30 (by decide) (fun h9 => absurd h9 (by decide)) (fun _ => ?_)
  refine lv_iload_n hx hb dX5_addStrip_33 rfl (lv_at hl 4 rfl) ?_
  refine lv_iconst (v := 1) hx hb dX5_addStrip_34 (by decide) ?_
  refine lv_bipush (v := 9) hx hb dX5_addStrip_35 (by decide) ?_
  have hP9 : va_P D cls [] H := fun k q h => by simp at h
  refine vp_callSi (pS (rest := []) [.int x2, .int 1, .int 9] 3 hC (c_isIn l D (x := x2) (a := 1) (b := 9) ) (gS mM_X5_41 mT_X5_isIn mN_X5 mC_X5_isIn) (by decide +kernel) rfl rfl ⟨Nat.le_of_ble_eq_true rfl, Nat.le_of_ble_eq_true rfl⟩ hG hP9 rfl hl.1 rfl (Nat.le_of_ble_eq_true rfl) dX5_addStrip_37 ⟨Nat.le_of_ble_eq_true rfl, Nat.le_of_ble_eq_true rfl⟩) (fun r37 h37 => ?_)
  rcases h37 with ⟨rfl, hb37⟩ | ⟨rfl, hb37⟩
  rotate_left
  · exact absurd (h.2.1) hb37
  refine lv_if_eq (tgt := 53) hx hb dX5_addStrip_40 (by decide) (fun h9 => absurd h9 (by decide)) (fun _ => ?_)
  refine lv_iload hx hb dX5_addStrip_43 (lv_at hl 5 rfl) ?_
  refine lv_iconst (v := 0) hx hb dX5_addStrip_45 (by decide) ?_
  refine lv_iconst (v := 2) hx hb dX5_addStrip_46 (by decide) ?_
  have hP9 : va_P D cls [] H := fun k q h => by simp at h
  refine vp_callSi (pS (rest := []) [.int x3, .int 0, .int 2] 3 hC (c_isIn l D (x := x3) (a := 0) (b := 2) ) (gS mM_X5_41 mT_X5_isIn mN_X5 mC_X5_isIn) (by decide +kernel) rfl rfl ⟨Nat.le_of_ble_eq_true rfl, Nat.le_of_ble_eq_true rfl⟩ hG hP9 rfl hl.1 rfl (Nat.le_of_ble_eq_true rfl) dX5_addStrip_47 ⟨Nat.le_of_ble_eq_true rfl, Nat.le_of_ble_eq_true rfl⟩) (fun r47 h47 => ?_)
  rcases h47 with ⟨rfl, hb47⟩ | ⟨rfl, hb47⟩
  rotate_left
  · exact absurd (h.2.2) hb47
  refine lv_if_ne (tgt := 63) hx hb dX5_addStrip_50 (by decide) (fun _ => ?_) (fun h9 => absurd h9 (by decide))
  refine lv_aload_n hx hb dX5_addStrip_63 rfl (lv_at hl 1 rfl) ?_
  refine va_get (D := D) (ci := 5) (v := .ref lt) (C := RX5) (T := TX5) (N := 5) hx hb hts inlX5 hown hG.K hP 0 rfl rfl 1 (by decide) (hts _ mF_X5_16) (fun _ h9 => h9) rfl dX5_addStrip_64 ?_
  have hP9 := hP.sub (ws' := [oO lt 7 [.int m2, .ref z, .int (nI 0)]]) [4] rfl
  refine vp_callSi (pV (rest := []) (qc := (RJx4a65c, TJx4a65c, 3)) [] 0 hC (c_list_size l D (lo := lt) (mc := m2) (ea := z) (n := 0) ) rfl (hP 4 _ rfl) (gV mM_X5_52 mI_Jx4a65c_size_8abf5 mS_Jx4a65c_size_8abf5 mN_Jx4a65c mC_Jx4a65c_size_8abf5) (by decide +kernel) rfl rfl ⟨Nat.le_of_ble_eq_true rfl, Nat.le_of_ble_eq_true rfl⟩ hG hP9 rfl hl.1 rfl (Nat.le_of_ble_eq_true rfl) dX5_addStrip_67 ⟨Nat.le_of_ble_eq_true rfl, Nat.le_of_ble_eq_true rfl⟩) (fun r67 h67 => ?_)
  obtain rfl : r67 = (nI 0) := h67
  refine lv_bipush (v := 10) hx hb dX5_addStrip_70 (by decide) ?_
  refine lv_icmp_lt (tgt := 85) hx hb dX5_addStrip_72 (by decide) (fun _ => ?_) (fun h9 => absurd ((nI_ltI (a := 0) (b := 10) (by omega) (by omega)).mpr (by omega)) h9)
  refine lv_aload_n hx hb dX5_addStrip_85 rfl (lv_at hl 1 rfl) ?_
  refine va_get (D := D) (ci := 5) (v := .ref lt) (C := RX5) (T := TX5) (N := 5) hx hb hts inlX5 hown hG.K hP 0 rfl rfl 1 (by decide) (hts _ mF_X5_16) (fun _ h9 => h9) rfl dX5_addStrip_86 ?_
  refine va_new (ci := 3) (fs := [.null, .int 0, .int 0, .int 0, .int 0, .int 0, .int 0, .int 0, .int 0, .int 0, .int 0, .int 0, .int 0]) (C := RX3) (T := TX3) (N := 13) hx hb hts inlX3 tyX3 tyX3_ok hown (hts _ mK_X5_183) (hts _ mB_X3) (hts _ mN_X3) hG.K hP hD hS hA rfl (fun j hj => by rcases (show j = 0 ∨ j = 1 ∨ j = 2 ∨ j = 3 ∨ j = 4 ∨ j = 5 ∨ j = 6 ∨ j = 7 ∨ j = 8 ∨ j = 9 ∨ j = 10 ∨ j = 11 ∨ j = 12 by omega) with rfl | rfl | rfl | rfl | rfl | rfl | rfl | rfl | rfl | rfl | rfl | rfl | rfl <;> rfl) (Nat.le_of_ble_eq_true rfl) (Nat.le_of_ble_eq_true rfl) dX5_addStrip_89 (fun so H hP hD hS => ?_)
  have hP : va_P D cls [oO xo 5 [.ref lc, .ref lt, .ref bo, .ref yo, .ref no], oO lc 7 [.int m1, .ref ec, .int (nI nC)], aO D ec 10 (lsF cl nC), oO (cl c0) 0 [.int len, .ref ta, .ref (q 0), .ref (q 1)], oO lt 7 [.int m2, .ref z, .int (nI 0)], oO so 3 [.null, .int 0, .int 0, .int 0, .int 0, .int 0, .int 0, .int 0, .int 0, .int 0, .int 0, .int 0, .int 0]] H := hP
  have hD : va_D A [oO xo 5 [.ref lc, .ref lt, .ref bo, .ref yo, .ref no], oO lc 7 [.int m1, .ref ec, .int (nI nC)], aO D ec 10 (lsF cl nC), oO (cl c0) 0 [.int len, .ref ta, .ref (q 0), .ref (q 1)], oO lt 7 [.int m2, .ref z, .int (nI 0)], oO so 3 [.null, .int 0, .int 0, .int 0, .int 0, .int 0, .int 0, .int 0, .int 0, .int 0, .int 0, .int 0, .int 0]] := hD
  refine lv_dup hx hb dX5_addStrip_92 rfl ?_
  refine lv_aload hx hb dX5_addStrip_93 (lv_at hl 0 rfl) ?_
  refine lv_iload_n hx hb dX5_addStrip_95 rfl (lv_at hl 2 rfl) ?_
  refine lv_iload_n hx hb dX5_addStrip_96 rfl (lv_at hl 3 rfl) ?_
  refine lv_iload_n hx hb dX5_addStrip_97 rfl (lv_at hl 4 rfl) ?_
  refine lv_iload hx hb dX5_addStrip_98 (lv_at hl 5 rfl) ?_
  have hP9 := hP.sub (ws' := [oO so 3 [.null, .int 0, .int 0, .int 0, .int 0, .int 0, .int 0, .int 0, .int 0, .int 0, .int 0, .int 0, .int 0]]) [5] rfl
  have hD9 := (hD.sub (ws' := [oO so 3 [.null, .int 0, .int 0, .int 0, .int 0, .int 0, .int 0, .int 0, .int 0, .int 0, .int 0, .int 0, .int 0]]) [5] (by decide) rfl).weaken (B := fun _ => True) (fun _ _ _ _ => trivial)
  refine kv (wr := [oO xo 5 [.ref lc, .ref lt, .ref bo, .ref yo, .ref no], oO lc 7 [.int m1, .ref ec, .int (nI nC)], aO D ec 10 (lsF cl nC), oO (cl c0) 0 [.int len, .ref ta, .ref (q 0), .ref (q 1)], oO lt 7 [.int m2, .ref z, .int (nI 0)]]) (rI (rest := [.ref so, .ref lt]) [.ref (cl c0), .int (nI c0), .int x1, .int x2, .int x3] 5 0 0 hC (c_Strip_init l D (so := so) (co := cl c0) (x0 := nI c0) (x1 := x1) (x2 := x2) (x3 := x3) (hz0 := H.size) ) mM_X5_185 mI_X3_init mN_X3 mC_X3_init rfl (by decide +kernel) rfl rfl ⟨Nat.le_of_ble_eq_true rfl, Nat.le_of_ble_eq_true rfl⟩ hG hP9 hD9 rfl hl.1 rfl (Nat.le_of_ble_eq_true rfl) dX5_addStrip_100 ⟨Nat.le_of_ble_eq_true rfl, Nat.le_of_ble_eq_true rfl⟩) hP hD hS hA [5] [0, 1, 2, 3, 4] rfl rfl (by decide) (by decide) (fun u100 H locs h100 hP hD hS hz hfr => ?_)
  have hP : va_P D cls [oO xo 5 [.ref lc, .ref lt, .ref bo, .ref yo, .ref no], oO lc 7 [.int m1, .ref ec, .int (nI nC)], aO D ec 10 (lsF cl nC), oO (cl c0) 0 [.int len, .ref ta, .ref (q 0), .ref (q 1)], oO lt 7 [.int m2, .ref z, .int (nI 0)], oO so 3 [.ref (cl c0), .int (nI c0), .int x1, .int x2, .int x3, .int 1, .int 1, .int 0, .int 100, .int 0, .int 0, .int 0, .int 0]] H := hP
  have hD : va_D A [oO xo 5 [.ref lc, .ref lt, .ref bo, .ref yo, .ref no], oO lc 7 [.int m1, .ref ec, .int (nI nC)], aO D ec 10 (lsF cl nC), oO (cl c0) 0 [.int len, .ref ta, .ref (q 0), .ref (q 1)], oO lt 7 [.int m2, .ref z, .int (nI 0)], oO so 3 [.ref (cl c0), .int (nI c0), .int x1, .int x2, .int x3, .int 1, .int 1, .int 0, .int 100, .int 0, .int 0, .int 0, .int 0]] := hD
  have hP9 := hP.sub (ws' := [oO lt 7 [.int m2, .ref z, .int (nI 0)], oO so 3 [.ref (cl c0), .int (nI c0), .int x1, .int x2, .int x3, .int 1, .int 1, .int 0, .int 100, .int 0, .int 0, .int 0, .int 0]]) [4, 5] rfl
  have hD9 := (hD.sub (ws' := [oO lt 7 [.int m2, .ref z, .int (nI 0)], oO so 3 [.ref (cl c0), .int (nI c0), .int x1, .int x2, .int x3, .int 1, .int 1, .int 0, .int 100, .int 0, .int 0, .int 0, .int 0]]) [4, 5] (by decide) rfl).weaken (B := fun _ => True) (fun _ _ _ _ => trivial)
  refine ki (wr := [oO xo 5 [.ref lc, .ref lt, .ref bo, .ref yo, .ref no], oO lc 7 [.int m1, .ref ec, .int (nI nC)], aO D ec 10 (lsF cl nC), oO (cl c0) 0 [.int len, .ref ta, .ref (q 0), .ref (q 1)]]) (rVX (ZL.blind) (ZL.pre hX hS (va_free' hD hS hA [4, 5] rfl).2) (rest := []) (qc := (RJx4a65c, TJx4a65c, 3)) [.ref so] 1 1 10 hC (c_add_first_Strip l D (lo := lt) (vo := so) (mc := m2) (z := z) (v0 := .ref (cl c0)) (v1 := .int (nI c0)) (v2 := .int x1) (v3 := .int x2) (v4 := .int x3) (v5 := .int 1) (v6 := .int 1) (v7 := .int 0) (v8 := .int 100) (v9 := .int 0) (v10 := .int 0) (v11 := .int 0) (v12 := .int 0) (hz0 := H.size) ) rfl (hP 4 _ rfl) (gV mM_X5_64 mI_Jx4a65c_add_9ea2d mS_Jx4a65c_add_9ea2d mN_Jx4a65c mC_Jx4a65c_add_9ea2d) (by decide +kernel) rfl rfl ⟨Nat.le_of_ble_eq_true rfl, Nat.le_of_ble_eq_true rfl⟩ hG hP9 hD9 rfl hl.1 rfl (Nat.le_of_ble_eq_true rfl) dX5_addStrip_103 ⟨Nat.le_of_ble_eq_true rfl, Nat.le_of_ble_eq_true rfl⟩) hP hD hS hA [4, 5] [0, 1, 2, 3] rfl rfl (by decide) (by decide) (fun r103 u103 H locs h103 hP hD hS hz hfr => ?_)
  obtain ⟨et, rfl⟩ : ∃ z, z = u103 := ⟨_, rfl⟩
  have hP : va_P D cls [oO xo 5 [.ref lc, .ref lt, .ref bo, .ref yo, .ref no], oO lc 7 [.int m1, .ref ec, .int (nI nC)], aO D ec 10 (lsF cl nC), oO (cl c0) 0 [.int len, .ref ta, .ref (q 0), .ref (q 1)], oO lt 7 [.int (m2 + 1), .ref et, .int (nI 1)], aO D et 10 (va_up (fun _ => none) 0 (some so)), oO so 3 [(.ref (cl c0)), (.int (nI c0)), (.int x1), (.int x2), (.int x3), (.int 1), (.int 1), (.int 0), (.int 100), (.int 0), (.int 0), (.int 0), (.int 0)]] H := hP
  have hD : va_D A [oO xo 5 [.ref lc, .ref lt, .ref bo, .ref yo, .ref no], oO lc 7 [.int m1, .ref ec, .int (nI nC)], aO D ec 10 (lsF cl nC), oO (cl c0) 0 [.int len, .ref ta, .ref (q 0), .ref (q 1)], oO lt 7 [.int (m2 + 1), .ref et, .int (nI 1)], aO D et 10 (va_up (fun _ => none) 0 (some so)), oO so 3 [(.ref (cl c0)), (.int (nI c0)), (.int x1), (.int x2), (.int x3), (.int 1), (.int 1), (.int 0), (.int 100), (.int 0), (.int 0), (.int 0), (.int 0)]] := hD
  subst h103
  refine lv_pop hx hb dX5_addStrip_106 rfl ?_
  have hcv1 : (lsF (fun _ => so) 1) = (va_up (fun _ => none) 0 (some so)) := (lsF_1 so).symm
  have hP := Eq.mpr (congrArg (fun z9 => va_P D cls [oO xo 5 [.ref lc, .ref lt, .ref bo, .ref yo, .ref no], oO lc 7 [.int m1, .ref ec, .int (nI nC)], aO D ec 10 (lsF cl nC), oO (cl c0) 0 [.int len, .ref ta, .ref (q 0), .ref (q 1)], oO lt 7 [.int (m2 + 1), .ref et, .int (nI 1)], aO D et 10 z9, oO so 3 [(.ref (cl c0)), (.int (nI c0)), (.int x1), (.int x2), (.int x3), (.int 1), (.int 1), (.int 0), (.int 100), (.int 0), (.int 0), (.int 0), (.int 0)]] H) hcv1) hP
  have hD := Eq.mpr (congrArg (fun z9 => va_D A [oO xo 5 [.ref lc, .ref lt, .ref bo, .ref yo, .ref no], oO lc 7 [.int m1, .ref ec, .int (nI nC)], aO D ec 10 (lsF cl nC), oO (cl c0) 0 [.int len, .ref ta, .ref (q 0), .ref (q 1)], oO lt 7 [.int (m2 + 1), .ref et, .int (nI 1)], aO D et 10 z9, oO so 3 [(.ref (cl c0)), (.int (nI c0)), (.int x1), (.int x2), (.int x3), (.int 1), (.int 1), (.int 0), (.int 100), (.int 0), (.int 0), (.int 0), (.int 0)]]) hcv1) hD
  have hP : va_P D cls [oO xo 5 [.ref lc, .ref lt, .ref bo, .ref yo, .ref no], oO lc 7 [.int m1, .ref ec, .int (nI nC)], aO D ec 10 (lsF cl nC), oO (cl c0) 0 [.int len, .ref ta, .ref (q 0), .ref (q 1)], oO lt 7 [.int (m2 + 1), .ref et, .int (nI 1)], aO D et 10 (lsF (fun _ => so) 1), oO so 3 [(.ref (cl c0)), (.int (nI c0)), (.int x1), (.int x2), (.int x3), (.int 1), (.int 1), (.int 0), (.int 100), (.int 0), (.int 0), (.int 0), (.int 0)]] H := hP
  have hD : va_D A [oO xo 5 [.ref lc, .ref lt, .ref bo, .ref yo, .ref no], oO lc 7 [.int m1, .ref ec, .int (nI nC)], aO D ec 10 (lsF cl nC), oO (cl c0) 0 [.int len, .ref ta, .ref (q 0), .ref (q 1)], oO lt 7 [.int (m2 + 1), .ref et, .int (nI 1)], aO D et 10 (lsF (fun _ => so) 1), oO so 3 [(.ref (cl c0)), (.int (nI c0)), (.int x1), (.int x2), (.int x3), (.int 1), (.int 1), (.int 0), (.int 100), (.int 0), (.int 0), (.int 0), (.int 0)]] := hD
  refine lv_aload_n hx hb dX5_addStrip_107 rfl (lv_at hl 1 rfl) ?_
  refine va_get (D := D) (ci := 5) (v := .ref lt) (C := RX5) (T := TX5) (N := 5) hx hb hts inlX5 hown hG.K hP 0 rfl rfl 1 (by decide) (hts _ mF_X5_16) (fun _ h9 => h9) rfl dX5_addStrip_108 ?_
  have hP9 := hP.sub (ws' := [oO lt 7 [.int (m2 + 1), .ref et, .int (nI 1)]]) [4] rfl
  refine vp_callSi (pV (rest := []) (qc := (RJx4a65c, TJx4a65c, 3)) [] 0 hC (c_list_size l D (lo := lt) (mc := m2 + 1) (ea := et) (n := 1) ) rfl (hP 4 _ rfl) (gV mM_X5_52 mI_Jx4a65c_size_8abf5 mS_Jx4a65c_size_8abf5 mN_Jx4a65c mC_Jx4a65c_size_8abf5) (by decide +kernel) rfl rfl ⟨Nat.le_of_ble_eq_true rfl, Nat.le_of_ble_eq_true rfl⟩ hG hP9 rfl hl.1 rfl (Nat.le_of_ble_eq_true rfl) dX5_addStrip_111 ⟨Nat.le_of_ble_eq_true rfl, Nat.le_of_ble_eq_true rfl⟩) (fun r111 h111 => ?_)
  obtain rfl : r111 = (nI 1) := h111
  refine lv_iconst (v := 1) hx hb dX5_addStrip_114 (by decide) ?_
  refine lv_isub hx hb dX5_addStrip_115 ?_
  refine tpi (y := nI 0) (by decide) ?_
  refine Wi (et, so) hx hb hr hlk ?_ hP hD hS (Nat.le_of_ble_eq_true rfl) (by first | exact Nat.le_of_ble_eq_true rfl | exact Nat.le_of_eq (Nat.zero_add _)) dX5_addStrip_116
  exact rfl
set_option maxHeartbeats 4000000 in
set_option maxRecDepth 100000 in
theorem c_removeStrip (l : Launch) (D : va_G) {xo lc lt bo yo no : Nat} {et nS : Nat} {m2 : Int32} {s0 : Nat} {sl : Nat → Nat} (hz0 : Nat) (hnS : nS ≤ 10) (hs0 : s0 < nS) : Met l yX5_removeStrip (ws_ yX5_removeStrip cX5_removeStrip 2 (some .int)) ({ frames := 6, cells := 0, slots := 0, locals := 123 } : Room) (va_Pc [.ref xo, .int (nI s0)] (SX D [oO xo 5 [.ref lc, .ref lt, .ref bo, .ref yo, .ref no], oO lt 7 [.int m2, .ref et, .int (nI nS)], aO D et 10 (lsF sl nS)] hz0 (EL D (lsF sl nS) nS lt et))) (va_Qi (fun v _ => v = nI (nS - 1)) (AT D (va_A [oO xo 5 [.ref lc, .ref lt, .ref bo, .ref yo, .ref no], oO lt 7 [.int m2, .ref et, .int (nI nS)], aO D et 10 (lsF sl nS)] hz0) (fun _ : Unit => [oO xo 5 [.ref lc, .ref lt, .ref bo, .ref yo, .ref no], oO lt 7 [.int (m2 + 1), .ref et, .int (nI (nS - 1))], aO D et 10 (rmQ (lsF sl nS) s0 nS)])) (va_A [oO xo 5 [.ref lc, .ref lt, .ref bo, .ref yo, .ref no], oO lt 7 [.int m2, .ref et, .int (nI nS)], aO D et 10 (lsF sl nS)] hz0)) 0 0 (va_A [oO xo 5 [.ref lc, .ref lt, .ref bo, .ref yo, .ref no], oO lt 7 [.int m2, .ref et, .int (nI nS)], aO D et 10 (lsF sl nS)] hz0) := by
  refine Met.ofW (cc := cX5_removeStrip) (maxL := 2) (ret := (some .int)) (by decide) rfl ?_
  intro p e s m args below meth c s₁ B hml hv
  obtain ⟨rfl, ⟨hsz, hG, hP, hD0⟩, hX⟩ := hv
  have hx := B.exec
  have hb := B.bytes
  have hr := B.returns
  have hts : ∀ w ∈ wsL_law, w.before _ s = true := fun w h => atoms_spec (ws := (ws_ yX5_removeStrip cX5_removeStrip 2 (some .int))) B.pre w (List.mem_cons_of_mem _ h)
  have hown : s.vm.findClass RX5 = some m.cls := findClass_of_methodNamed B.named
  have hlk := B.notSynchronized
  have hC : CallFix p m c cX5_removeStrip 2 s _ wsL_law RX5 := ⟨hx, hb, hml, hown, hts⟩
  subst hsz
  have hD := hD0.self (sz := s.heap.size)
  generalize hAe : va_A [oO xo 5 [.ref lc, .ref lt, .ref bo, .ref yo, .ref no], oO lt 7 [.int m2, .ref et, .int (nI nS)], aO D et 10 (lsF sl nS)] s.heap.size = A at hD hX ⊢
  have hA : ∀ q : Nat, s.heap.size ≤ q → A q := fun q h => by rw [← hAe]; exact Or.inr h
  have hS : va_S A s.heap s.heap [] := va_S.rf
  obtain ⟨H, hHe⟩ : ∃ H, H = s.heap := ⟨_, rfl⟩
  rw [← hHe] at hP
  have hS : va_S A s.heap H [] := by rw [hHe]; exact hS
  have hl := lv_entry ([.ref xo, .int (nI s0)]) (n := 2) (Nat.le_of_ble_eq_true rfl)
  rw [lg_entry_eq]
  generalize (lg_sl ([.ref xo, .int (nI s0)]) ++ List.replicate (2 - (lg_sl ([.ref xo, .int (nI s0)])).length) Slot.unset).toArray = ls at hl ⊢
  have hl : lv_has ls 2 [(0, .ref xo), (1, .int (nI s0))] := hl
  rw [← hHe]
  refine lv_iload_n hx hb dX5_removeStrip_0 rfl (lv_at hl 1 rfl) ?_
  refine lv_iconst (v := 0) hx hb dX5_removeStrip_1 (by decide) ?_
  refine lv_aload_n hx hb dX5_removeStrip_2 rfl (lv_at hl 0 rfl) ?_
  refine va_get (D := D) (ci := 5) (v := .ref lt) (C := RX5) (T := TX5) (N := 5) hx hb hts inlX5 hown hG.K hP 0 rfl rfl 1 (by decide) (hts _ mF_X5_16) (fun _ h9 => h9) rfl dX5_removeStrip_3 ?_
  have hP9 := hP.sub (ws' := [oO lt 7 [.int m2, .ref et, .int (nI nS)]]) [1] rfl
  refine vp_callSi (pV (rest := [.int 0, .int (nI s0)]) (qc := (RJx4a65c, TJx4a65c, 3)) [] 0 hC (c_list_size l D (lo := lt) (mc := m2) (ea := et) (n := nS) ) rfl (hP 1 _ rfl) (gV mM_X5_52 mI_Jx4a65c_size_8abf5 mS_Jx4a65c_size_8abf5 mN_Jx4a65c mC_Jx4a65c_size_8abf5) (by decide +kernel) rfl rfl ⟨Nat.le_of_ble_eq_true rfl, Nat.le_of_ble_eq_true rfl⟩ hG hP9 rfl hl.1 rfl (Nat.le_of_ble_eq_true rfl) dX5_removeStrip_6 ⟨Nat.le_of_ble_eq_true rfl, Nat.le_of_ble_eq_true rfl⟩) (fun r6 h6 => ?_)
  obtain rfl : r6 = (nI nS) := h6
  refine lv_iconst (v := 1) hx hb dX5_removeStrip_9 (by decide) ?_
  refine lv_isub hx hb dX5_removeStrip_10 ?_
  refine tpi (y := nI (nS - 1)) (pk_sub (a := nS) (b := 1) (by omega)) ?_
  have hP9 : va_P D cls [] H := fun k q h => by simp at h
  refine vp_callSi (pS (rest := []) [.int (nI s0), .int 0, .int (nI (nS - 1))] 3 hC (c_isIn l D (x := nI s0) (a := 0) (b := nI (nS - 1)) ) (gS mM_X5_41 mT_X5_isIn mN_X5 mC_X5_isIn) (by decide +kernel) rfl rfl ⟨Nat.le_of_ble_eq_true rfl, Nat.le_of_ble_eq_true rfl⟩ hG hP9 rfl hl.1 rfl (Nat.le_of_ble_eq_true rfl) dX5_removeStrip_11 ⟨Nat.le_of_ble_eq_true rfl, Nat.le_of_ble_eq_true rfl⟩) (fun r11 h11 => ?_)
  rcases h11 with ⟨rfl, hb11⟩ | ⟨rfl, hb11⟩
  rotate_left
  · exact absurd (⟨nI_pos' (by omega), nI_le (by omega) (by omega)⟩) hb11
  refine lv_if_ne (tgt := 27) hx hb dX5_removeStrip_14 (by decide) (fun _ => ?_) (fun h9 => absurd h9 (by decide))
  refine lv_aload_n hx hb dX5_removeStrip_27 rfl (lv_at hl 0 rfl) ?_
  refine va_get (D := D) (ci := 5) (v := .ref lt) (C := RX5) (T := TX5) (N := 5) hx hb hts inlX5 hown hG.K hP 0 rfl rfl 1 (by decide) (hts _ mF_X5_16) (fun _ h9 => h9) rfl dX5_removeStrip_28 ?_
  refine lv_iload_n hx hb dX5_removeStrip_31 rfl (lv_at hl 1 rfl) ?_
  have hP9 := hP.sub (ws' := [oO lt 7 [.int m2, .ref et, .int (nI nS)], aO D et 10 (lsF sl nS)]) [1, 2] rfl
  have hD9 := (hD.sub (ws' := [oO lt 7 [.int m2, .ref et, .int (nI nS)], aO D et 10 (lsF sl nS)]) [1, 2] (by decide) rfl).weaken (B := fun _ => True) (fun _ _ _ _ => trivial)
  refine kq (wr := [oO xo 5 [.ref lc, .ref lt, .ref bo, .ref yo, .ref no]]) (rVX (EL.blind) (fun U hU _ => by
    intro k9 h9 y9 h8
    obtain ⟨a1, a2, a3⟩ := hX k9 h9 y9 h8
    rw [hU, hHe]
    exact ⟨a1, a2, a3⟩) (rest := []) (qc := (RJx4a65c, TJx4a65c, 3)) [.int (nI s0)] 1 0 0 hC (c_list_remove l D (y0 := sl s0) (lo := lt) (i := s0) (mc := m2) (ea := et) (n := nS) (k := 10) (f := lsF sl nS) (hz0 := H.size) (by omega) (by omega) (by omega) (if_pos hs0)) rfl (hP 1 _ rfl) (gV mM_X5_190 mI_Jx4a65c_remove_915e3 mS_Jx4a65c_remove_915e3 mN_Jx4a65c mC_Jx4a65c_remove_915e3) (by decide +kernel) rfl rfl ⟨Nat.le_of_ble_eq_true rfl, Nat.le_of_ble_eq_true rfl⟩ hG hP9 hD9 rfl hl.1 rfl (Nat.le_of_ble_eq_true rfl) dX5_removeStrip_32 ⟨Nat.le_of_ble_eq_true rfl, Nat.le_of_ble_eq_true rfl⟩) hP hD hS hA [1, 2] [0] rfl rfl (by decide) (by decide) (fun r32 u32 H locs h32 hP hD hS hz hfr => ?_)
  have hP : va_P D cls [oO xo 5 [.ref lc, .ref lt, .ref bo, .ref yo, .ref no], oO lt 7 [.int (m2 + 1), .ref et, .int (nI (nS - 1))], aO D et 10 (rmQ (lsF sl nS) s0 nS)] H := hP
  have hD : va_D A [oO xo 5 [.ref lc, .ref lt, .ref bo, .ref yo, .ref no], oO lt 7 [.int (m2 + 1), .ref et, .int (nI (nS - 1))], aO D et 10 (rmQ (lsF sl nS) s0 nS)] := hD
  subst h32
  refine tpv (y := .ref (sl s0)) rfl ?_
  refine lv_pop hx hb dX5_removeStrip_35 rfl ?_
  refine lv_aload_n hx hb dX5_removeStrip_36 rfl (lv_at hl 0 rfl) ?_
  refine va_get (D := D) (ci := 5) (v := .ref lt) (C := RX5) (T := TX5) (N := 5) hx hb hts inlX5 hown hG.K hP 0 rfl rfl 1 (by decide) (hts _ mF_X5_16) (fun _ h9 => h9) rfl dX5_removeStrip_37 ?_
  have hP9 := hP.sub (ws' := [oO lt 7 [.int (m2 + 1), .ref et, .int (nI (nS - 1))]]) [1] rfl
  refine vp_callSi (pV (rest := []) (qc := (RJx4a65c, TJx4a65c, 3)) [] 0 hC (c_list_size l D (lo := lt) (mc := m2 + 1) (ea := et) (n := nS - 1) ) rfl (hP 1 _ rfl) (gV mM_X5_52 mI_Jx4a65c_size_8abf5 mS_Jx4a65c_size_8abf5 mN_Jx4a65c mC_Jx4a65c_size_8abf5) (by decide +kernel) rfl rfl ⟨Nat.le_of_ble_eq_true rfl, Nat.le_of_ble_eq_true rfl⟩ hG hP9 rfl hl.1 rfl (Nat.le_of_ble_eq_true rfl) dX5_removeStrip_40 ⟨Nat.le_of_ble_eq_true rfl, Nat.le_of_ble_eq_true rfl⟩) (fun r40 h40 => ?_)
  obtain rfl : r40 = (nI (nS - 1)) := h40
  refine Wi () hx hb hr hlk ?_ hP hD hS (Nat.le_of_ble_eq_true rfl) (by first | exact Nat.le_of_ble_eq_true rfl | exact Nat.le_of_eq (Nat.zero_add _)) dX5_removeStrip_43
  exact rfl
set_option maxHeartbeats 4000000 in
set_option maxRecDepth 100000 in
theorem c_setSpeed (l : Launch) (D : va_G) {xo lc lt bo yo no : Nat} {et nS : Nat} {m2 : Int32} {s0 co : Nat} {sl : Nat → Nat} {pt : Nat → Int32} {ta : Nat} {q : Nat → Nat} {len : Int32} {p1 q1 : Int32} (hz0 : Nat) (hnS : nS ≤ 10) (hs0 : s0 < nS) (h : (1 ≤ p1 ∧ p1 ≤ 9) ∧ (1 ≤ q1 ∧ q1 ≤ 9)) : Met l yX5_setSpeed (ws_ yX5_setSpeed cX5_setSpeed 5 (some .int)) ({ frames := 6, cells := 0, slots := 0, locals := 102 } : Room) (va_Pc [.ref xo, .int (nI s0), .int p1, .int q1] (SW D [oO xo 5 [.ref lc, .ref lt, .ref bo, .ref yo, .ref no], oO lt 7 [.int m2, .ref et, .int (nI nS)], aO D et 10 (lsF sl nS), oO (sl s0) 3 [.ref co, .int (pt 0), .int (pt 1), .int (pt 3), .int (pt 4), .int (pt 5), .int (pt 6), .int (pt 7), .int (pt 8), .int (pt 9), .int (pt 10), .int (pt 11), .int (pt 12)], oO co 0 [.int len, .ref ta, .ref (q 0), .ref (q 1)]] hz0)) (va_Qi (fun v _ => v = endS len (upd (upd pt 5 p1) 6 q1)) (AT D (va_A [oO xo 5 [.ref lc, .ref lt, .ref bo, .ref yo, .ref no], oO lt 7 [.int m2, .ref et, .int (nI nS)], aO D et 10 (lsF sl nS), oO (sl s0) 3 [.ref co, .int (pt 0), .int (pt 1), .int (pt 3), .int (pt 4), .int (pt 5), .int (pt 6), .int (pt 7), .int (pt 8), .int (pt 9), .int (pt 10), .int (pt 11), .int (pt 12)], oO co 0 [.int len, .ref ta, .ref (q 0), .ref (q 1)]] hz0) (fun _ : Unit => [oO xo 5 [.ref lc, .ref lt, .ref bo, .ref yo, .ref no], oO lt 7 [.int m2, .ref et, .int (nI nS)], aO D et 10 (lsF sl nS), oO (sl s0) 3 [.ref co, .int ((upd (upd pt 5 p1) 6 q1) 0), .int ((upd (upd pt 5 p1) 6 q1) 1), .int ((upd (upd pt 5 p1) 6 q1) 3), .int ((upd (upd pt 5 p1) 6 q1) 4), .int ((upd (upd pt 5 p1) 6 q1) 5), .int ((upd (upd pt 5 p1) 6 q1) 6), .int ((upd (upd pt 5 p1) 6 q1) 7), .int ((upd (upd pt 5 p1) 6 q1) 8), .int ((upd (upd pt 5 p1) 6 q1) 9), .int ((upd (upd pt 5 p1) 6 q1) 10), .int ((upd (upd pt 5 p1) 6 q1) 11), .int ((upd (upd pt 5 p1) 6 q1) 12)], oO co 0 [.int len, .ref ta, .ref (q 0), .ref (q 1)]])) (va_A [oO xo 5 [.ref lc, .ref lt, .ref bo, .ref yo, .ref no], oO lt 7 [.int m2, .ref et, .int (nI nS)], aO D et 10 (lsF sl nS), oO (sl s0) 3 [.ref co, .int (pt 0), .int (pt 1), .int (pt 3), .int (pt 4), .int (pt 5), .int (pt 6), .int (pt 7), .int (pt 8), .int (pt 9), .int (pt 10), .int (pt 11), .int (pt 12)], oO co 0 [.int len, .ref ta, .ref (q 0), .ref (q 1)]] hz0)) 0 0 (va_A [oO xo 5 [.ref lc, .ref lt, .ref bo, .ref yo, .ref no], oO lt 7 [.int m2, .ref et, .int (nI nS)], aO D et 10 (lsF sl nS), oO (sl s0) 3 [.ref co, .int (pt 0), .int (pt 1), .int (pt 3), .int (pt 4), .int (pt 5), .int (pt 6), .int (pt 7), .int (pt 8), .int (pt 9), .int (pt 10), .int (pt 11), .int (pt 12)], oO co 0 [.int len, .ref ta, .ref (q 0), .ref (q 1)]] hz0) := by
  refine Met.ofW (cc := cX5_setSpeed) (maxL := 5) (ret := (some .int)) (by decide) rfl ?_
  intro p e s m args below meth c s₁ B hml hv
  obtain ⟨rfl, hsz, hG, hP, hD0⟩ := hv
  have hx := B.exec
  have hb := B.bytes
  have hr := B.returns
  have hts : ∀ w ∈ wsL_law, w.before _ s = true := fun w h => atoms_spec (ws := (ws_ yX5_setSpeed cX5_setSpeed 5 (some .int))) B.pre w (List.mem_cons_of_mem _ h)
  have hown : s.vm.findClass RX5 = some m.cls := findClass_of_methodNamed B.named
  have hlk := B.notSynchronized
  have hC : CallFix p m c cX5_setSpeed 5 s _ wsL_law RX5 := ⟨hx, hb, hml, hown, hts⟩
  subst hsz
  have hD := hD0.self (sz := s.heap.size)
  generalize hAe : va_A [oO xo 5 [.ref lc, .ref lt, .ref bo, .ref yo, .ref no], oO lt 7 [.int m2, .ref et, .int (nI nS)], aO D et 10 (lsF sl nS), oO (sl s0) 3 [.ref co, .int (pt 0), .int (pt 1), .int (pt 3), .int (pt 4), .int (pt 5), .int (pt 6), .int (pt 7), .int (pt 8), .int (pt 9), .int (pt 10), .int (pt 11), .int (pt 12)], oO co 0 [.int len, .ref ta, .ref (q 0), .ref (q 1)]] s.heap.size = A at hD ⊢
  have hA : ∀ q : Nat, s.heap.size ≤ q → A q := fun q h => by rw [← hAe]; exact Or.inr h
  have hS : va_S A s.heap s.heap [] := va_S.rf
  obtain ⟨H, hHe⟩ : ∃ H, H = s.heap := ⟨_, rfl⟩
  rw [← hHe] at hP
  have hS : va_S A s.heap H [] := by rw [hHe]; exact hS
  have hl := lv_entry ([.ref xo, .int (nI s0), .int p1, .int q1]) (n := 5) (Nat.le_of_ble_eq_true rfl)
  rw [lg_entry_eq]
  generalize (lg_sl ([.ref xo, .int (nI s0), .int p1, .int q1]) ++ List.replicate (5 - (lg_sl ([.ref xo, .int (nI s0), .int p1, .int q1])).length) Slot.unset).toArray = ls at hl ⊢
  have hl : lv_has ls 5 [(0, .ref xo), (1, .int (nI s0)), (2, .int p1), (3, .int q1)] := hl
  rw [← hHe]
  refine lv_aload_n hx hb dX5_setSpeed_0 rfl (lv_at hl 0 rfl) ?_
  refine lv_iload_n hx hb dX5_setSpeed_1 rfl (lv_at hl 1 rfl) ?_
  have hP9 := hP.sub (ws' := [oO xo 5 [.ref lc, .ref lt, .ref bo, .ref yo, .ref no], oO lt 7 [.int m2, .ref et, .int (nI nS)], aO D et 10 (lsF sl nS), oO (sl s0) 3 [.ref co, .int (pt 0), .int (pt 1), .int (pt 3), .int (pt 4), .int (pt 5), .int (pt 6), .int (pt 7), .int (pt 8), .int (pt 9), .int (pt 10), .int (pt 11), .int (pt 12)]]) [0, 1, 2, 3] rfl
  refine va_csq (pV (rest := []) (qc := (RX5, TX5, 5)) [.int (nI s0)] 1 hC (c_stripOrNull l D (xo := xo) (s0 := s0) (lc := lc) (lt := lt) (bo := bo) (yo := yo) (no := no) (m2 := m2) (et := et) (nS := nS) (co := co) (by omega) (by omega)) rfl (hP 0 _ rfl) (gV mM_X5_194 mI_X5_stripOrNull mS_X5_stripOrNull mN_X5 mC_X5_stripOrNull) (by decide +kernel) rfl rfl ⟨Nat.le_of_ble_eq_true rfl, Nat.le_of_ble_eq_true rfl⟩ hG hP9 rfl hl.1 rfl (Nat.le_of_ble_eq_true rfl) dX5_setSpeed_2 ⟨Nat.le_of_ble_eq_true rfl, Nat.le_of_ble_eq_true rfl⟩) (fun r2 h2 => ?_)
  obtain rfl : r2 = (some (sl s0)) := h2
  refine tpv (y := .ref (sl s0)) rfl ?_
  refine lv_astore (lv' := [(4, .ref (sl s0)), (0, .ref xo), (1, .int (nI s0)), (2, .int p1), (3, .int q1)]) hx hb dX5_setSpeed_5 hl (by decide) rfl (fun ls hl => ?_)
  refine lv_aload hx hb dX5_setSpeed_7 (lv_at hl 0 rfl) ?_
  refine lv_ifnonnull (tgt := 22) hx hb dX5_setSpeed_9 (by decide) ?_
  refine lv_iload_n hx hb dX5_setSpeed_22 rfl (lv_at hl 3 rfl) ?_
  refine lv_iconst (v := 1) hx hb dX5_setSpeed_23 (by decide) ?_
  refine lv_bipush (v := 9) hx hb dX5_setSpeed_24 (by decide) ?_
  have hP9 : va_P D cls [] H := fun k q h => by simp at h
  refine vp_callSi (pS (rest := []) [.int p1, .int 1, .int 9] 3 hC (c_isIn l D (x := p1) (a := 1) (b := 9) ) (gS mM_X5_41 mT_X5_isIn mN_X5 mC_X5_isIn) (by decide +kernel) rfl rfl ⟨Nat.le_of_ble_eq_true rfl, Nat.le_of_ble_eq_true rfl⟩ hG hP9 rfl hl.1 rfl (Nat.le_of_ble_eq_true rfl) dX5_setSpeed_26 ⟨Nat.le_of_ble_eq_true rfl, Nat.le_of_ble_eq_true rfl⟩) (fun r26 h26 => ?_)
  rcases h26 with ⟨rfl, hb26⟩ | ⟨rfl, hb26⟩
  rotate_left
  · exact absurd (h.1) hb26
  refine lv_if_eq (tgt := 42) hx hb dX5_setSpeed_29 (by decide) (fun h9 => absurd h9 (by decide)) (fun _ => ?_)
  refine lv_iload_n hx hb dX5_setSpeed_32 rfl (lv_at hl 4 rfl) ?_
  refine lv_iconst (v := 1) hx hb dX5_setSpeed_33 (by decide) ?_
  refine lv_bipush (v := 9) hx hb dX5_setSpeed_34 (by decide) ?_
  have hP9 : va_P D cls [] H := fun k q h => by simp at h
  refine vp_callSi (pS (rest := []) [.int q1, .int 1, .int 9] 3 hC (c_isIn l D (x := q1) (a := 1) (b := 9) ) (gS mM_X5_41 mT_X5_isIn mN_X5 mC_X5_isIn) (by decide +kernel) rfl rfl ⟨Nat.le_of_ble_eq_true rfl, Nat.le_of_ble_eq_true rfl⟩ hG hP9 rfl hl.1 rfl (Nat.le_of_ble_eq_true rfl) dX5_setSpeed_36 ⟨Nat.le_of_ble_eq_true rfl, Nat.le_of_ble_eq_true rfl⟩) (fun r36 h36 => ?_)
  rcases h36 with ⟨rfl, hb36⟩ | ⟨rfl, hb36⟩
  rotate_left
  · exact absurd (h.2) hb36
  refine lv_if_ne (tgt := 52) hx hb dX5_setSpeed_39 (by decide) (fun _ => ?_) (fun h9 => absurd h9 (by decide))
  refine lv_aload hx hb dX5_setSpeed_52 (lv_at hl 0 rfl) ?_
  refine lv_iload_n hx hb dX5_setSpeed_54 rfl (lv_at hl 3 rfl) ?_
  refine va_putN (D := D) (ci := 3) (v := .int p1) (ty := .int) (C := RX3) (T := TX3) (N := 13) hx hb hts inlX3 tyX3 tyX3_ok nmX3 hown hG.K hP hD hS 3 rfl rfl 5 (by decide) (va_Nw.use rfl (nF_KeyStage_200 hG)) (fun _ h9 => h9) rfl (by decide +kernel) rfl rfl (Nat.le_of_ble_eq_true rfl) dX5_setSpeed_55 (fun H locs hP hD hS => ?_)
  have hP : va_P D cls [oO xo 5 [.ref lc, .ref lt, .ref bo, .ref yo, .ref no], oO lt 7 [.int m2, .ref et, .int (nI nS)], aO D et 10 (lsF sl nS), oO (sl s0) 3 [.ref co, .int (pt 0), .int (pt 1), .int (pt 3), .int (pt 4), .int p1, .int (pt 6), .int (pt 7), .int (pt 8), .int (pt 9), .int (pt 10), .int (pt 11), .int (pt 12)], oO co 0 [.int len, .ref ta, .ref (q 0), .ref (q 1)]] H := hP
  have hD : va_D A [oO xo 5 [.ref lc, .ref lt, .ref bo, .ref yo, .ref no], oO lt 7 [.int m2, .ref et, .int (nI nS)], aO D et 10 (lsF sl nS), oO (sl s0) 3 [.ref co, .int (pt 0), .int (pt 1), .int (pt 3), .int (pt 4), .int p1, .int (pt 6), .int (pt 7), .int (pt 8), .int (pt 9), .int (pt 10), .int (pt 11), .int (pt 12)], oO co 0 [.int len, .ref ta, .ref (q 0), .ref (q 1)]] := hD
  refine lv_aload hx hb dX5_setSpeed_58 (lv_at hl 0 rfl) ?_
  refine lv_iload_n hx hb dX5_setSpeed_60 rfl (lv_at hl 4 rfl) ?_
  refine va_putN (D := D) (ci := 3) (v := .int q1) (ty := .int) (C := RX3) (T := TX3) (N := 13) hx hb hts inlX3 tyX3 tyX3_ok nmX3 hown hG.K hP hD hS 3 rfl rfl 6 (by decide) (va_Nw.use rfl (nF_KeyStage_203 hG)) (fun _ h9 => h9) rfl (by decide +kernel) rfl rfl (Nat.le_of_ble_eq_true rfl) dX5_setSpeed_61 (fun H locs hP hD hS => ?_)
  have hP : va_P D cls [oO xo 5 [.ref lc, .ref lt, .ref bo, .ref yo, .ref no], oO lt 7 [.int m2, .ref et, .int (nI nS)], aO D et 10 (lsF sl nS), oO (sl s0) 3 [.ref co, .int (pt 0), .int (pt 1), .int (pt 3), .int (pt 4), .int p1, .int q1, .int (pt 7), .int (pt 8), .int (pt 9), .int (pt 10), .int (pt 11), .int (pt 12)], oO co 0 [.int len, .ref ta, .ref (q 0), .ref (q 1)]] H := hP
  have hD : va_D A [oO xo 5 [.ref lc, .ref lt, .ref bo, .ref yo, .ref no], oO lt 7 [.int m2, .ref et, .int (nI nS)], aO D et 10 (lsF sl nS), oO (sl s0) 3 [.ref co, .int (pt 0), .int (pt 1), .int (pt 3), .int (pt 4), .int p1, .int q1, .int (pt 7), .int (pt 8), .int (pt 9), .int (pt 10), .int (pt 11), .int (pt 12)], oO co 0 [.int len, .ref ta, .ref (q 0), .ref (q 1)]] := hD
  have hP : va_P D cls [oO xo 5 [.ref lc, .ref lt, .ref bo, .ref yo, .ref no], oO lt 7 [.int m2, .ref et, .int (nI nS)], aO D et 10 (lsF sl nS), oO (sl s0) 3 [.ref co, .int ((upd (upd pt 5 p1) 6 q1) 0), .int ((upd (upd pt 5 p1) 6 q1) 1), .int ((upd (upd pt 5 p1) 6 q1) 3), .int ((upd (upd pt 5 p1) 6 q1) 4), .int ((upd (upd pt 5 p1) 6 q1) 5), .int ((upd (upd pt 5 p1) 6 q1) 6), .int ((upd (upd pt 5 p1) 6 q1) 7), .int ((upd (upd pt 5 p1) 6 q1) 8), .int ((upd (upd pt 5 p1) 6 q1) 9), .int ((upd (upd pt 5 p1) 6 q1) 10), .int ((upd (upd pt 5 p1) 6 q1) 11), .int ((upd (upd pt 5 p1) 6 q1) 12)], oO co 0 [.int len, .ref ta, .ref (q 0), .ref (q 1)]] H := hP
  have hD : va_D A [oO xo 5 [.ref lc, .ref lt, .ref bo, .ref yo, .ref no], oO lt 7 [.int m2, .ref et, .int (nI nS)], aO D et 10 (lsF sl nS), oO (sl s0) 3 [.ref co, .int ((upd (upd pt 5 p1) 6 q1) 0), .int ((upd (upd pt 5 p1) 6 q1) 1), .int ((upd (upd pt 5 p1) 6 q1) 3), .int ((upd (upd pt 5 p1) 6 q1) 4), .int ((upd (upd pt 5 p1) 6 q1) 5), .int ((upd (upd pt 5 p1) 6 q1) 6), .int ((upd (upd pt 5 p1) 6 q1) 7), .int ((upd (upd pt 5 p1) 6 q1) 8), .int ((upd (upd pt 5 p1) 6 q1) 9), .int ((upd (upd pt 5 p1) 6 q1) 10), .int ((upd (upd pt 5 p1) 6 q1) 11), .int ((upd (upd pt 5 p1) 6 q1) 12)], oO co 0 [.int len, .ref ta, .ref (q 0), .ref (q 1)]] := hD
  refine lv_aload hx hb dX5_setSpeed_64 (lv_at hl 0 rfl) ?_
  have hP9 := hP.sub (ws' := [oO (sl s0) 3 [.ref co, .int ((upd (upd pt 5 p1) 6 q1) 0), .int ((upd (upd pt 5 p1) 6 q1) 1), .int ((upd (upd pt 5 p1) 6 q1) 3), .int ((upd (upd pt 5 p1) 6 q1) 4), .int ((upd (upd pt 5 p1) 6 q1) 5), .int ((upd (upd pt 5 p1) 6 q1) 6), .int ((upd (upd pt 5 p1) 6 q1) 7), .int ((upd (upd pt 5 p1) 6 q1) 8), .int ((upd (upd pt 5 p1) 6 q1) 9), .int ((upd (upd pt 5 p1) 6 q1) 10), .int ((upd (upd pt 5 p1) 6 q1) 11), .int ((upd (upd pt 5 p1) 6 q1) 12)], oO co 0 [.int len, .ref ta, .ref (q 0), .ref (q 1)]]) [3, 4] rfl
  refine vp_callSi (pV (rest := []) (qc := (RX3, TX3, 13)) [] 0 hC (c_endTime l D (pt := upd (upd pt 5 p1) 6 q1) (so := sl s0) (co := co) (len := len) (ta := ta) (pos1 h.1.1)) rfl (hP 3 _ rfl) (gV mM_X5_206 mI_X3_endTime mS_X3_endTime mN_X3 mC_X3_endTime) (by decide +kernel) rfl rfl ⟨Nat.le_of_ble_eq_true rfl, Nat.le_of_ble_eq_true rfl⟩ hG hP9 rfl hl.1 rfl (Nat.le_of_ble_eq_true rfl) dX5_setSpeed_66 ⟨Nat.le_of_ble_eq_true rfl, Nat.le_of_ble_eq_true rfl⟩) (fun r66 h66 => ?_)
  obtain rfl : r66 = (endS len (upd (upd pt 5 p1) 6 q1)) := h66
  refine Wi () hx hb hr hlk ?_ hP hD hS (Nat.le_of_ble_eq_true rfl) (by first | exact Nat.le_of_ble_eq_true rfl | exact Nat.le_of_eq (Nat.zero_add _)) dX5_setSpeed_69
  exact rfl
set_option maxHeartbeats 4000000 in
set_option maxRecDepth 100000 in
theorem c_setBlend (l : Launch) (D : va_G) {xo lc lt bo yo no : Nat} {et nS : Nat} {m2 : Int32} {s0 co : Nat} {sl : Nat → Nat} {pt : Nat → Int32} {p1 q1 ad hd : Int32} (hz0 : Nat) (hnS : nS ≤ 10) (hs0 : s0 < nS) (h : (0 ≤ p1 ∧ p1 ≤ 9) ∧ (0 ≤ q1 ∧ q1 ≤ 100)) (had : ad = 0 ∨ ad = 1) (hhd : hd = 0 ∨ hd = 1) : Met l yX5_setBlend (ws_ yX5_setBlend cX5_setBlend 8 (some .int)) ({ frames := 6, cells := 0, slots := 0, locals := 102 } : Room) (va_Pc [.ref xo, .int (nI s0), .int p1, .int q1, .int ad, .int hd] (SW D [oO xo 5 [.ref lc, .ref lt, .ref bo, .ref yo, .ref no], oO lt 7 [.int m2, .ref et, .int (nI nS)], aO D et 10 (lsF sl nS), oO (sl s0) 3 [.ref co, .int (pt 0), .int (pt 1), .int (pt 3), .int (pt 4), .int (pt 5), .int (pt 6), .int (pt 7), .int (pt 8), .int (pt 9), .int (pt 10), .int (pt 11), .int (pt 12)]] hz0)) (va_Qi (fun v _ => v = pt 7) (AT D (va_A [oO xo 5 [.ref lc, .ref lt, .ref bo, .ref yo, .ref no], oO lt 7 [.int m2, .ref et, .int (nI nS)], aO D et 10 (lsF sl nS), oO (sl s0) 3 [.ref co, .int (pt 0), .int (pt 1), .int (pt 3), .int (pt 4), .int (pt 5), .int (pt 6), .int (pt 7), .int (pt 8), .int (pt 9), .int (pt 10), .int (pt 11), .int (pt 12)]] hz0) (fun _ : Unit => [oO xo 5 [.ref lc, .ref lt, .ref bo, .ref yo, .ref no], oO lt 7 [.int m2, .ref et, .int (nI nS)], aO D et 10 (lsF sl nS), oO (sl s0) 3 [.ref co, .int ((upd (upd (upd (upd pt 7 p1) 8 q1) 9 ad) 10 hd) 0), .int ((upd (upd (upd (upd pt 7 p1) 8 q1) 9 ad) 10 hd) 1), .int ((upd (upd (upd (upd pt 7 p1) 8 q1) 9 ad) 10 hd) 3), .int ((upd (upd (upd (upd pt 7 p1) 8 q1) 9 ad) 10 hd) 4), .int ((upd (upd (upd (upd pt 7 p1) 8 q1) 9 ad) 10 hd) 5), .int ((upd (upd (upd (upd pt 7 p1) 8 q1) 9 ad) 10 hd) 6), .int ((upd (upd (upd (upd pt 7 p1) 8 q1) 9 ad) 10 hd) 7), .int ((upd (upd (upd (upd pt 7 p1) 8 q1) 9 ad) 10 hd) 8), .int ((upd (upd (upd (upd pt 7 p1) 8 q1) 9 ad) 10 hd) 9), .int ((upd (upd (upd (upd pt 7 p1) 8 q1) 9 ad) 10 hd) 10), .int ((upd (upd (upd (upd pt 7 p1) 8 q1) 9 ad) 10 hd) 11), .int ((upd (upd (upd (upd pt 7 p1) 8 q1) 9 ad) 10 hd) 12)]])) (va_A [oO xo 5 [.ref lc, .ref lt, .ref bo, .ref yo, .ref no], oO lt 7 [.int m2, .ref et, .int (nI nS)], aO D et 10 (lsF sl nS), oO (sl s0) 3 [.ref co, .int (pt 0), .int (pt 1), .int (pt 3), .int (pt 4), .int (pt 5), .int (pt 6), .int (pt 7), .int (pt 8), .int (pt 9), .int (pt 10), .int (pt 11), .int (pt 12)]] hz0)) 0 0 (va_A [oO xo 5 [.ref lc, .ref lt, .ref bo, .ref yo, .ref no], oO lt 7 [.int m2, .ref et, .int (nI nS)], aO D et 10 (lsF sl nS), oO (sl s0) 3 [.ref co, .int (pt 0), .int (pt 1), .int (pt 3), .int (pt 4), .int (pt 5), .int (pt 6), .int (pt 7), .int (pt 8), .int (pt 9), .int (pt 10), .int (pt 11), .int (pt 12)]] hz0) := by
  refine Met.ofW (cc := cX5_setBlend) (maxL := 8) (ret := (some .int)) (by decide) rfl ?_
  intro p e s m args below meth c s₁ B hml hv
  obtain ⟨rfl, hsz, hG, hP, hD0⟩ := hv
  have hx := B.exec
  have hb := B.bytes
  have hr := B.returns
  have hts : ∀ w ∈ wsL_law, w.before _ s = true := fun w h => atoms_spec (ws := (ws_ yX5_setBlend cX5_setBlend 8 (some .int))) B.pre w (List.mem_cons_of_mem _ h)
  have hown : s.vm.findClass RX5 = some m.cls := findClass_of_methodNamed B.named
  have hlk := B.notSynchronized
  have hC : CallFix p m c cX5_setBlend 8 s _ wsL_law RX5 := ⟨hx, hb, hml, hown, hts⟩
  subst hsz
  have hD := hD0.self (sz := s.heap.size)
  generalize hAe : va_A [oO xo 5 [.ref lc, .ref lt, .ref bo, .ref yo, .ref no], oO lt 7 [.int m2, .ref et, .int (nI nS)], aO D et 10 (lsF sl nS), oO (sl s0) 3 [.ref co, .int (pt 0), .int (pt 1), .int (pt 3), .int (pt 4), .int (pt 5), .int (pt 6), .int (pt 7), .int (pt 8), .int (pt 9), .int (pt 10), .int (pt 11), .int (pt 12)]] s.heap.size = A at hD ⊢
  have hA : ∀ q : Nat, s.heap.size ≤ q → A q := fun q h => by rw [← hAe]; exact Or.inr h
  have hS : va_S A s.heap s.heap [] := va_S.rf
  obtain ⟨H, hHe⟩ : ∃ H, H = s.heap := ⟨_, rfl⟩
  rw [← hHe] at hP
  have hS : va_S A s.heap H [] := by rw [hHe]; exact hS
  have hl := lv_entry ([.ref xo, .int (nI s0), .int p1, .int q1, .int ad, .int hd]) (n := 8) (Nat.le_of_ble_eq_true rfl)
  rw [lg_entry_eq]
  generalize (lg_sl ([.ref xo, .int (nI s0), .int p1, .int q1, .int ad, .int hd]) ++ List.replicate (8 - (lg_sl ([.ref xo, .int (nI s0), .int p1, .int q1, .int ad, .int hd])).length) Slot.unset).toArray = ls at hl ⊢
  have hl : lv_has ls 8 [(0, .ref xo), (1, .int (nI s0)), (2, .int p1), (3, .int q1), (4, .int ad), (5, .int hd)] := hl
  rw [← hHe]
  refine lv_aload_n hx hb dX5_setBlend_0 rfl (lv_at hl 0 rfl) ?_
  refine lv_iload_n hx hb dX5_setBlend_1 rfl (lv_at hl 1 rfl) ?_
  have hP9 := hP
  refine va_csq (pV (rest := []) (qc := (RX5, TX5, 5)) [.int (nI s0)] 1 hC (c_stripOrNull l D (xo := xo) (s0 := s0) (lc := lc) (lt := lt) (bo := bo) (yo := yo) (no := no) (m2 := m2) (et := et) (nS := nS) (co := co) (by omega) (by omega)) rfl (hP 0 _ rfl) (gV mM_X5_194 mI_X5_stripOrNull mS_X5_stripOrNull mN_X5 mC_X5_stripOrNull) (by decide +kernel) rfl rfl ⟨Nat.le_of_ble_eq_true rfl, Nat.le_of_ble_eq_true rfl⟩ hG hP9 rfl hl.1 rfl (Nat.le_of_ble_eq_true rfl) dX5_setBlend_2 ⟨Nat.le_of_ble_eq_true rfl, Nat.le_of_ble_eq_true rfl⟩) (fun r2 h2 => ?_)
  obtain rfl : r2 = (some (sl s0)) := h2
  refine tpv (y := .ref (sl s0)) rfl ?_
  refine lv_astore (lv' := [(6, .ref (sl s0)), (0, .ref xo), (1, .int (nI s0)), (2, .int p1), (3, .int q1), (4, .int ad), (5, .int hd)]) hx hb dX5_setBlend_5 hl (by decide) rfl (fun ls hl => ?_)
  refine lv_aload hx hb dX5_setBlend_7 (lv_at hl 0 rfl) ?_
  refine lv_ifnonnull (tgt := 22) hx hb dX5_setBlend_9 (by decide) ?_
  refine lv_iload_n hx hb dX5_setBlend_22 rfl (lv_at hl 3 rfl) ?_
  refine lv_iconst (v := 0) hx hb dX5_setBlend_23 (by decide) ?_
  refine lv_bipush (v := 9) hx hb dX5_setBlend_24 (by decide) ?_
  have hP9 : va_P D cls [] H := fun k q h => by simp at h
  refine vp_callSi (pS (rest := []) [.int p1, .int 0, .int 9] 3 hC (c_isIn l D (x := p1) (a := 0) (b := 9) ) (gS mM_X5_41 mT_X5_isIn mN_X5 mC_X5_isIn) (by decide +kernel) rfl rfl ⟨Nat.le_of_ble_eq_true rfl, Nat.le_of_ble_eq_true rfl⟩ hG hP9 rfl hl.1 rfl (Nat.le_of_ble_eq_true rfl) dX5_setBlend_26 ⟨Nat.le_of_ble_eq_true rfl, Nat.le_of_ble_eq_true rfl⟩) (fun r26 h26 => ?_)
  rcases h26 with ⟨rfl, hb26⟩ | ⟨rfl, hb26⟩
  rotate_left
  · exact absurd (h.1) hb26
  refine lv_if_eq (tgt := 42) hx hb dX5_setBlend_29 (by decide) (fun h9 => absurd h9 (by decide)) (fun _ => ?_)
  refine lv_iload_n hx hb dX5_setBlend_32 rfl (lv_at hl 4 rfl) ?_
  refine lv_iconst (v := 0) hx hb dX5_setBlend_33 (by decide) ?_
  refine lv_bipush (v := 100) hx hb dX5_setBlend_34 (by decide) ?_
  have hP9 : va_P D cls [] H := fun k q h => by simp at h
  refine vp_callSi (pS (rest := []) [.int q1, .int 0, .int 100] 3 hC (c_isIn l D (x := q1) (a := 0) (b := 100) ) (gS mM_X5_41 mT_X5_isIn mN_X5 mC_X5_isIn) (by decide +kernel) rfl rfl ⟨Nat.le_of_ble_eq_true rfl, Nat.le_of_ble_eq_true rfl⟩ hG hP9 rfl hl.1 rfl (Nat.le_of_ble_eq_true rfl) dX5_setBlend_36 ⟨Nat.le_of_ble_eq_true rfl, Nat.le_of_ble_eq_true rfl⟩) (fun r36 h36 => ?_)
  rcases h36 with ⟨rfl, hb36⟩ | ⟨rfl, hb36⟩
  rotate_left
  · exact absurd (h.2) hb36
  refine lv_if_ne (tgt := 52) hx hb dX5_setBlend_39 (by decide) (fun _ => ?_) (fun h9 => absurd h9 (by decide))
  refine lv_aload hx hb dX5_setBlend_52 (lv_at hl 0 rfl) ?_
  refine va_getN (D := D) (ci := 3) (v := .int (pt 7)) (C := RX3) (T := TX3) (N := 13) hx hb hts inlX3 hown hG.K hP 3 rfl rfl 7 (by decide) (va_Nw.use rfl (nF_KeyStage_211 hG)) (fun _ h9 => h9) rfl dX5_setBlend_54 ?_
  refine lv_istore (lv' := [(7, .int (pt 7)), (6, .ref (sl s0)), (0, .ref xo), (1, .int (nI s0)), (2, .int p1), (3, .int q1), (4, .int ad), (5, .int hd)]) hx hb dX5_setBlend_57 hl (by decide) rfl (fun ls hl => ?_)
  refine lv_aload hx hb dX5_setBlend_59 (lv_at hl 1 rfl) ?_
  refine lv_iload_n hx hb dX5_setBlend_61 rfl (lv_at hl 4 rfl) ?_
  refine va_putN (D := D) (ci := 3) (v := .int p1) (ty := .int) (C := RX3) (T := TX3) (N := 13) hx hb hts inlX3 tyX3 tyX3_ok nmX3 hown hG.K hP hD hS 3 rfl rfl 7 (by decide) (va_Nw.use rfl (nF_KeyStage_211 hG)) (fun _ h9 => h9) rfl (by decide +kernel) rfl rfl (Nat.le_of_ble_eq_true rfl) dX5_setBlend_62 (fun H locs hP hD hS => ?_)
  have hP : va_P D cls [oO xo 5 [.ref lc, .ref lt, .ref bo, .ref yo, .ref no], oO lt 7 [.int m2, .ref et, .int (nI nS)], aO D et 10 (lsF sl nS), oO (sl s0) 3 [.ref co, .int (pt 0), .int (pt 1), .int (pt 3), .int (pt 4), .int (pt 5), .int (pt 6), .int p1, .int (pt 8), .int (pt 9), .int (pt 10), .int (pt 11), .int (pt 12)]] H := hP
  have hD : va_D A [oO xo 5 [.ref lc, .ref lt, .ref bo, .ref yo, .ref no], oO lt 7 [.int m2, .ref et, .int (nI nS)], aO D et 10 (lsF sl nS), oO (sl s0) 3 [.ref co, .int (pt 0), .int (pt 1), .int (pt 3), .int (pt 4), .int (pt 5), .int (pt 6), .int p1, .int (pt 8), .int (pt 9), .int (pt 10), .int (pt 11), .int (pt 12)]] := hD
  refine lv_aload hx hb dX5_setBlend_65 (lv_at hl 1 rfl) ?_
  refine lv_iload_n hx hb dX5_setBlend_67 rfl (lv_at hl 5 rfl) ?_
  refine va_putN (D := D) (ci := 3) (v := .int q1) (ty := .int) (C := RX3) (T := TX3) (N := 13) hx hb hts inlX3 tyX3 tyX3_ok nmX3 hown hG.K hP hD hS 3 rfl rfl 8 (by decide) (va_Nw.use rfl (nF_KeyStage_214 hG)) (fun _ h9 => h9) rfl (by decide +kernel) rfl rfl (Nat.le_of_ble_eq_true rfl) dX5_setBlend_68 (fun H locs hP hD hS => ?_)
  have hP : va_P D cls [oO xo 5 [.ref lc, .ref lt, .ref bo, .ref yo, .ref no], oO lt 7 [.int m2, .ref et, .int (nI nS)], aO D et 10 (lsF sl nS), oO (sl s0) 3 [.ref co, .int (pt 0), .int (pt 1), .int (pt 3), .int (pt 4), .int (pt 5), .int (pt 6), .int p1, .int q1, .int (pt 9), .int (pt 10), .int (pt 11), .int (pt 12)]] H := hP
  have hD : va_D A [oO xo 5 [.ref lc, .ref lt, .ref bo, .ref yo, .ref no], oO lt 7 [.int m2, .ref et, .int (nI nS)], aO D et 10 (lsF sl nS), oO (sl s0) 3 [.ref co, .int (pt 0), .int (pt 1), .int (pt 3), .int (pt 4), .int (pt 5), .int (pt 6), .int p1, .int q1, .int (pt 9), .int (pt 10), .int (pt 11), .int (pt 12)]] := hD
  refine lv_aload hx hb dX5_setBlend_71 (lv_at hl 1 rfl) ?_
  refine lv_iload hx hb dX5_setBlend_73 (lv_at hl 6 rfl) ?_
  refine va_putN (D := D) (ci := 3) (v := .int ad) (ty := .boolean) (C := RX3) (T := TX3) (N := 13) hx hb hts inlX3 tyX3 tyX3_ok nmX3 hown hG.K hP hD hS 3 rfl rfl 9 (by decide) (va_Nw.use rfl (nF_KeyStage_217 hG)) (fun _ h9 => h9) rfl (by decide +kernel) (by rcases had with rfl | rfl <;> rfl) (by rcases had with rfl | rfl <;> rfl) (Nat.le_of_ble_eq_true rfl) dX5_setBlend_75 (fun H locs hP hD hS => ?_)
  have hP : va_P D cls [oO xo 5 [.ref lc, .ref lt, .ref bo, .ref yo, .ref no], oO lt 7 [.int m2, .ref et, .int (nI nS)], aO D et 10 (lsF sl nS), oO (sl s0) 3 [.ref co, .int (pt 0), .int (pt 1), .int (pt 3), .int (pt 4), .int (pt 5), .int (pt 6), .int p1, .int q1, .int ad, .int (pt 10), .int (pt 11), .int (pt 12)]] H := hP
  have hD : va_D A [oO xo 5 [.ref lc, .ref lt, .ref bo, .ref yo, .ref no], oO lt 7 [.int m2, .ref et, .int (nI nS)], aO D et 10 (lsF sl nS), oO (sl s0) 3 [.ref co, .int (pt 0), .int (pt 1), .int (pt 3), .int (pt 4), .int (pt 5), .int (pt 6), .int p1, .int q1, .int ad, .int (pt 10), .int (pt 11), .int (pt 12)]] := hD
  refine lv_aload hx hb dX5_setBlend_78 (lv_at hl 1 rfl) ?_
  refine lv_iload hx hb dX5_setBlend_80 (lv_at hl 7 rfl) ?_
  refine va_putN (D := D) (ci := 3) (v := .int hd) (ty := .boolean) (C := RX3) (T := TX3) (N := 13) hx hb hts inlX3 tyX3 tyX3_ok nmX3 hown hG.K hP hD hS 3 rfl rfl 10 (by decide) (va_Nw.use rfl (nF_KeyStage_221 hG)) (fun _ h9 => h9) rfl (by decide +kernel) (by rcases hhd with rfl | rfl <;> rfl) (by rcases hhd with rfl | rfl <;> rfl) (Nat.le_of_ble_eq_true rfl) dX5_setBlend_82 (fun H locs hP hD hS => ?_)
  have hP : va_P D cls [oO xo 5 [.ref lc, .ref lt, .ref bo, .ref yo, .ref no], oO lt 7 [.int m2, .ref et, .int (nI nS)], aO D et 10 (lsF sl nS), oO (sl s0) 3 [.ref co, .int (pt 0), .int (pt 1), .int (pt 3), .int (pt 4), .int (pt 5), .int (pt 6), .int p1, .int q1, .int ad, .int hd, .int (pt 11), .int (pt 12)]] H := hP
  have hD : va_D A [oO xo 5 [.ref lc, .ref lt, .ref bo, .ref yo, .ref no], oO lt 7 [.int m2, .ref et, .int (nI nS)], aO D et 10 (lsF sl nS), oO (sl s0) 3 [.ref co, .int (pt 0), .int (pt 1), .int (pt 3), .int (pt 4), .int (pt 5), .int (pt 6), .int p1, .int q1, .int ad, .int hd, .int (pt 11), .int (pt 12)]] := hD
  have hP : va_P D cls [oO xo 5 [.ref lc, .ref lt, .ref bo, .ref yo, .ref no], oO lt 7 [.int m2, .ref et, .int (nI nS)], aO D et 10 (lsF sl nS), oO (sl s0) 3 [.ref co, .int ((upd (upd (upd (upd pt 7 p1) 8 q1) 9 ad) 10 hd) 0), .int ((upd (upd (upd (upd pt 7 p1) 8 q1) 9 ad) 10 hd) 1), .int ((upd (upd (upd (upd pt 7 p1) 8 q1) 9 ad) 10 hd) 3), .int ((upd (upd (upd (upd pt 7 p1) 8 q1) 9 ad) 10 hd) 4), .int ((upd (upd (upd (upd pt 7 p1) 8 q1) 9 ad) 10 hd) 5), .int ((upd (upd (upd (upd pt 7 p1) 8 q1) 9 ad) 10 hd) 6), .int ((upd (upd (upd (upd pt 7 p1) 8 q1) 9 ad) 10 hd) 7), .int ((upd (upd (upd (upd pt 7 p1) 8 q1) 9 ad) 10 hd) 8), .int ((upd (upd (upd (upd pt 7 p1) 8 q1) 9 ad) 10 hd) 9), .int ((upd (upd (upd (upd pt 7 p1) 8 q1) 9 ad) 10 hd) 10), .int ((upd (upd (upd (upd pt 7 p1) 8 q1) 9 ad) 10 hd) 11), .int ((upd (upd (upd (upd pt 7 p1) 8 q1) 9 ad) 10 hd) 12)]] H := hP
  have hD : va_D A [oO xo 5 [.ref lc, .ref lt, .ref bo, .ref yo, .ref no], oO lt 7 [.int m2, .ref et, .int (nI nS)], aO D et 10 (lsF sl nS), oO (sl s0) 3 [.ref co, .int ((upd (upd (upd (upd pt 7 p1) 8 q1) 9 ad) 10 hd) 0), .int ((upd (upd (upd (upd pt 7 p1) 8 q1) 9 ad) 10 hd) 1), .int ((upd (upd (upd (upd pt 7 p1) 8 q1) 9 ad) 10 hd) 3), .int ((upd (upd (upd (upd pt 7 p1) 8 q1) 9 ad) 10 hd) 4), .int ((upd (upd (upd (upd pt 7 p1) 8 q1) 9 ad) 10 hd) 5), .int ((upd (upd (upd (upd pt 7 p1) 8 q1) 9 ad) 10 hd) 6), .int ((upd (upd (upd (upd pt 7 p1) 8 q1) 9 ad) 10 hd) 7), .int ((upd (upd (upd (upd pt 7 p1) 8 q1) 9 ad) 10 hd) 8), .int ((upd (upd (upd (upd pt 7 p1) 8 q1) 9 ad) 10 hd) 9), .int ((upd (upd (upd (upd pt 7 p1) 8 q1) 9 ad) 10 hd) 10), .int ((upd (upd (upd (upd pt 7 p1) 8 q1) 9 ad) 10 hd) 11), .int ((upd (upd (upd (upd pt 7 p1) 8 q1) 9 ad) 10 hd) 12)]] := hD
  refine lv_iload hx hb dX5_setBlend_85 (lv_at hl 0 rfl) ?_
  refine Wi () hx hb hr hlk ?_ hP hD hS (Nat.le_of_ble_eq_true rfl) (by first | exact Nat.le_of_ble_eq_true rfl | exact Nat.le_of_eq (Nat.zero_add _)) dX5_setBlend_87
  exact rfl
set_option maxHeartbeats 4000000 in
set_option maxRecDepth 100000 in
theorem c_setFade (l : Launch) (D : va_G) {xo lc lt bo yo no : Nat} {et nS : Nat} {m2 : Int32} {s0 co : Nat} {sl : Nat → Nat} {pt : Nat → Int32} {p1 q1 : Int32} (hz0 : Nat) (hnS : nS ≤ 10) (hs0 : s0 < nS) (h : (0 ≤ p1 ∧ p1 ≤ 2000) ∧ (0 ≤ q1 ∧ q1 ≤ 2000)) : Met l yX5_setFade (ws_ yX5_setFade cX5_setFade 6 (some .int)) ({ frames := 6, cells := 0, slots := 0, locals := 102 } : Room) (va_Pc [.ref xo, .int (nI s0), .int p1, .int q1] (SW D [oO xo 5 [.ref lc, .ref lt, .ref bo, .ref yo, .ref no], oO lt 7 [.int m2, .ref et, .int (nI nS)], aO D et 10 (lsF sl nS), oO (sl s0) 3 [.ref co, .int (pt 0), .int (pt 1), .int (pt 3), .int (pt 4), .int (pt 5), .int (pt 6), .int (pt 7), .int (pt 8), .int (pt 9), .int (pt 10), .int (pt 11), .int (pt 12)]] hz0)) (va_Qi (fun v _ => v = pt 11) (AT D (va_A [oO xo 5 [.ref lc, .ref lt, .ref bo, .ref yo, .ref no], oO lt 7 [.int m2, .ref et, .int (nI nS)], aO D et 10 (lsF sl nS), oO (sl s0) 3 [.ref co, .int (pt 0), .int (pt 1), .int (pt 3), .int (pt 4), .int (pt 5), .int (pt 6), .int (pt 7), .int (pt 8), .int (pt 9), .int (pt 10), .int (pt 11), .int (pt 12)]] hz0) (fun _ : Unit => [oO xo 5 [.ref lc, .ref lt, .ref bo, .ref yo, .ref no], oO lt 7 [.int m2, .ref et, .int (nI nS)], aO D et 10 (lsF sl nS), oO (sl s0) 3 [.ref co, .int ((upd (upd pt 11 p1) 12 q1) 0), .int ((upd (upd pt 11 p1) 12 q1) 1), .int ((upd (upd pt 11 p1) 12 q1) 3), .int ((upd (upd pt 11 p1) 12 q1) 4), .int ((upd (upd pt 11 p1) 12 q1) 5), .int ((upd (upd pt 11 p1) 12 q1) 6), .int ((upd (upd pt 11 p1) 12 q1) 7), .int ((upd (upd pt 11 p1) 12 q1) 8), .int ((upd (upd pt 11 p1) 12 q1) 9), .int ((upd (upd pt 11 p1) 12 q1) 10), .int ((upd (upd pt 11 p1) 12 q1) 11), .int ((upd (upd pt 11 p1) 12 q1) 12)]])) (va_A [oO xo 5 [.ref lc, .ref lt, .ref bo, .ref yo, .ref no], oO lt 7 [.int m2, .ref et, .int (nI nS)], aO D et 10 (lsF sl nS), oO (sl s0) 3 [.ref co, .int (pt 0), .int (pt 1), .int (pt 3), .int (pt 4), .int (pt 5), .int (pt 6), .int (pt 7), .int (pt 8), .int (pt 9), .int (pt 10), .int (pt 11), .int (pt 12)]] hz0)) 0 0 (va_A [oO xo 5 [.ref lc, .ref lt, .ref bo, .ref yo, .ref no], oO lt 7 [.int m2, .ref et, .int (nI nS)], aO D et 10 (lsF sl nS), oO (sl s0) 3 [.ref co, .int (pt 0), .int (pt 1), .int (pt 3), .int (pt 4), .int (pt 5), .int (pt 6), .int (pt 7), .int (pt 8), .int (pt 9), .int (pt 10), .int (pt 11), .int (pt 12)]] hz0) := by
  refine Met.ofW (cc := cX5_setFade) (maxL := 6) (ret := (some .int)) (by decide) rfl ?_
  intro p e s m args below meth c s₁ B hml hv
  obtain ⟨rfl, hsz, hG, hP, hD0⟩ := hv
  have hx := B.exec
  have hb := B.bytes
  have hr := B.returns
  have hts : ∀ w ∈ wsL_law, w.before _ s = true := fun w h => atoms_spec (ws := (ws_ yX5_setFade cX5_setFade 6 (some .int))) B.pre w (List.mem_cons_of_mem _ h)
  have hown : s.vm.findClass RX5 = some m.cls := findClass_of_methodNamed B.named
  have hlk := B.notSynchronized
  have hC : CallFix p m c cX5_setFade 6 s _ wsL_law RX5 := ⟨hx, hb, hml, hown, hts⟩
  subst hsz
  have hD := hD0.self (sz := s.heap.size)
  generalize hAe : va_A [oO xo 5 [.ref lc, .ref lt, .ref bo, .ref yo, .ref no], oO lt 7 [.int m2, .ref et, .int (nI nS)], aO D et 10 (lsF sl nS), oO (sl s0) 3 [.ref co, .int (pt 0), .int (pt 1), .int (pt 3), .int (pt 4), .int (pt 5), .int (pt 6), .int (pt 7), .int (pt 8), .int (pt 9), .int (pt 10), .int (pt 11), .int (pt 12)]] s.heap.size = A at hD ⊢
  have hA : ∀ q : Nat, s.heap.size ≤ q → A q := fun q h => by rw [← hAe]; exact Or.inr h
  have hS : va_S A s.heap s.heap [] := va_S.rf
  obtain ⟨H, hHe⟩ : ∃ H, H = s.heap := ⟨_, rfl⟩
  rw [← hHe] at hP
  have hS : va_S A s.heap H [] := by rw [hHe]; exact hS
  have hl := lv_entry ([.ref xo, .int (nI s0), .int p1, .int q1]) (n := 6) (Nat.le_of_ble_eq_true rfl)
  rw [lg_entry_eq]
  generalize (lg_sl ([.ref xo, .int (nI s0), .int p1, .int q1]) ++ List.replicate (6 - (lg_sl ([.ref xo, .int (nI s0), .int p1, .int q1])).length) Slot.unset).toArray = ls at hl ⊢
  have hl : lv_has ls 6 [(0, .ref xo), (1, .int (nI s0)), (2, .int p1), (3, .int q1)] := hl
  rw [← hHe]
  refine lv_aload_n hx hb dX5_setFade_0 rfl (lv_at hl 0 rfl) ?_
  refine lv_iload_n hx hb dX5_setFade_1 rfl (lv_at hl 1 rfl) ?_
  have hP9 := hP
  refine va_csq (pV (rest := []) (qc := (RX5, TX5, 5)) [.int (nI s0)] 1 hC (c_stripOrNull l D (xo := xo) (s0 := s0) (lc := lc) (lt := lt) (bo := bo) (yo := yo) (no := no) (m2 := m2) (et := et) (nS := nS) (co := co) (by omega) (by omega)) rfl (hP 0 _ rfl) (gV mM_X5_194 mI_X5_stripOrNull mS_X5_stripOrNull mN_X5 mC_X5_stripOrNull) (by decide +kernel) rfl rfl ⟨Nat.le_of_ble_eq_true rfl, Nat.le_of_ble_eq_true rfl⟩ hG hP9 rfl hl.1 rfl (Nat.le_of_ble_eq_true rfl) dX5_setFade_2 ⟨Nat.le_of_ble_eq_true rfl, Nat.le_of_ble_eq_true rfl⟩) (fun r2 h2 => ?_)
  obtain rfl : r2 = (some (sl s0)) := h2
  refine tpv (y := .ref (sl s0)) rfl ?_
  refine lv_astore (lv' := [(4, .ref (sl s0)), (0, .ref xo), (1, .int (nI s0)), (2, .int p1), (3, .int q1)]) hx hb dX5_setFade_5 hl (by decide) rfl (fun ls hl => ?_)
  refine lv_aload hx hb dX5_setFade_7 (lv_at hl 0 rfl) ?_
  refine lv_ifnonnull (tgt := 22) hx hb dX5_setFade_9 (by decide) ?_
  refine lv_iload_n hx hb dX5_setFade_22 rfl (lv_at hl 3 rfl) ?_
  refine lv_iconst (v := 0) hx hb dX5_setFade_23 (by decide) ?_
  refine lv_sipush (v := 2000) hx hb dX5_setFade_24 (by decide) ?_
  have hP9 : va_P D cls [] H := fun k q h => by simp at h
  refine vp_callSi (pS (rest := []) [.int p1, .int 0, .int 2000] 3 hC (c_isIn l D (x := p1) (a := 0) (b := 2000) ) (gS mM_X5_41 mT_X5_isIn mN_X5 mC_X5_isIn) (by decide +kernel) rfl rfl ⟨Nat.le_of_ble_eq_true rfl, Nat.le_of_ble_eq_true rfl⟩ hG hP9 rfl hl.1 rfl (Nat.le_of_ble_eq_true rfl) dX5_setFade_27 ⟨Nat.le_of_ble_eq_true rfl, Nat.le_of_ble_eq_true rfl⟩) (fun r27 h27 => ?_)
  rcases h27 with ⟨rfl, hb27⟩ | ⟨rfl, hb27⟩
  rotate_left
  · exact absurd (h.1) hb27
  refine lv_if_eq (tgt := 44) hx hb dX5_setFade_30 (by decide) (fun h9 => absurd h9 (by decide)) (fun _ => ?_)
  refine lv_iload_n hx hb dX5_setFade_33 rfl (lv_at hl 4 rfl) ?_
  refine lv_iconst (v := 0) hx hb dX5_setFade_34 (by decide) ?_
  refine lv_sipush (v := 2000) hx hb dX5_setFade_35 (by decide) ?_
  have hP9 : va_P D cls [] H := fun k q h => by simp at h
  refine vp_callSi (pS (rest := []) [.int q1, .int 0, .int 2000] 3 hC (c_isIn l D (x := q1) (a := 0) (b := 2000) ) (gS mM_X5_41 mT_X5_isIn mN_X5 mC_X5_isIn) (by decide +kernel) rfl rfl ⟨Nat.le_of_ble_eq_true rfl, Nat.le_of_ble_eq_true rfl⟩ hG hP9 rfl hl.1 rfl (Nat.le_of_ble_eq_true rfl) dX5_setFade_38 ⟨Nat.le_of_ble_eq_true rfl, Nat.le_of_ble_eq_true rfl⟩) (fun r38 h38 => ?_)
  rcases h38 with ⟨rfl, hb38⟩ | ⟨rfl, hb38⟩
  rotate_left
  · exact absurd (h.2) hb38
  refine lv_if_ne (tgt := 54) hx hb dX5_setFade_41 (by decide) (fun _ => ?_) (fun h9 => absurd h9 (by decide))
  refine lv_aload hx hb dX5_setFade_54 (lv_at hl 0 rfl) ?_
  refine va_getN (D := D) (ci := 3) (v := .int (pt 11)) (C := RX3) (T := TX3) (N := 13) hx hb hts inlX3 hown hG.K hP 3 rfl rfl 11 (by decide) (va_Nw.use rfl (nF_KeyStage_226 hG)) (fun _ h9 => h9) rfl dX5_setFade_56 ?_
  refine lv_istore (lv' := [(5, .int (pt 11)), (4, .ref (sl s0)), (0, .ref xo), (1, .int (nI s0)), (2, .int p1), (3, .int q1)]) hx hb dX5_setFade_59 hl (by decide) rfl (fun ls hl => ?_)
  refine lv_aload hx hb dX5_setFade_61 (lv_at hl 1 rfl) ?_
  refine lv_iload_n hx hb dX5_setFade_63 rfl (lv_at hl 4 rfl) ?_
  refine va_putN (D := D) (ci := 3) (v := .int p1) (ty := .int) (C := RX3) (T := TX3) (N := 13) hx hb hts inlX3 tyX3 tyX3_ok nmX3 hown hG.K hP hD hS 3 rfl rfl 11 (by decide) (va_Nw.use rfl (nF_KeyStage_226 hG)) (fun _ h9 => h9) rfl (by decide +kernel) rfl rfl (Nat.le_of_ble_eq_true rfl) dX5_setFade_64 (fun H locs hP hD hS => ?_)
  have hP : va_P D cls [oO xo 5 [.ref lc, .ref lt, .ref bo, .ref yo, .ref no], oO lt 7 [.int m2, .ref et, .int (nI nS)], aO D et 10 (lsF sl nS), oO (sl s0) 3 [.ref co, .int (pt 0), .int (pt 1), .int (pt 3), .int (pt 4), .int (pt 5), .int (pt 6), .int (pt 7), .int (pt 8), .int (pt 9), .int (pt 10), .int p1, .int (pt 12)]] H := hP
  have hD : va_D A [oO xo 5 [.ref lc, .ref lt, .ref bo, .ref yo, .ref no], oO lt 7 [.int m2, .ref et, .int (nI nS)], aO D et 10 (lsF sl nS), oO (sl s0) 3 [.ref co, .int (pt 0), .int (pt 1), .int (pt 3), .int (pt 4), .int (pt 5), .int (pt 6), .int (pt 7), .int (pt 8), .int (pt 9), .int (pt 10), .int p1, .int (pt 12)]] := hD
  refine lv_aload hx hb dX5_setFade_67 (lv_at hl 1 rfl) ?_
  refine lv_iload_n hx hb dX5_setFade_69 rfl (lv_at hl 5 rfl) ?_
  refine va_putN (D := D) (ci := 3) (v := .int q1) (ty := .int) (C := RX3) (T := TX3) (N := 13) hx hb hts inlX3 tyX3 tyX3_ok nmX3 hown hG.K hP hD hS 3 rfl rfl 12 (by decide) (va_Nw.use rfl (nF_KeyStage_229 hG)) (fun _ h9 => h9) rfl (by decide +kernel) rfl rfl (Nat.le_of_ble_eq_true rfl) dX5_setFade_70 (fun H locs hP hD hS => ?_)
  have hP : va_P D cls [oO xo 5 [.ref lc, .ref lt, .ref bo, .ref yo, .ref no], oO lt 7 [.int m2, .ref et, .int (nI nS)], aO D et 10 (lsF sl nS), oO (sl s0) 3 [.ref co, .int (pt 0), .int (pt 1), .int (pt 3), .int (pt 4), .int (pt 5), .int (pt 6), .int (pt 7), .int (pt 8), .int (pt 9), .int (pt 10), .int p1, .int q1]] H := hP
  have hD : va_D A [oO xo 5 [.ref lc, .ref lt, .ref bo, .ref yo, .ref no], oO lt 7 [.int m2, .ref et, .int (nI nS)], aO D et 10 (lsF sl nS), oO (sl s0) 3 [.ref co, .int (pt 0), .int (pt 1), .int (pt 3), .int (pt 4), .int (pt 5), .int (pt 6), .int (pt 7), .int (pt 8), .int (pt 9), .int (pt 10), .int p1, .int q1]] := hD
  have hP : va_P D cls [oO xo 5 [.ref lc, .ref lt, .ref bo, .ref yo, .ref no], oO lt 7 [.int m2, .ref et, .int (nI nS)], aO D et 10 (lsF sl nS), oO (sl s0) 3 [.ref co, .int ((upd (upd pt 11 p1) 12 q1) 0), .int ((upd (upd pt 11 p1) 12 q1) 1), .int ((upd (upd pt 11 p1) 12 q1) 3), .int ((upd (upd pt 11 p1) 12 q1) 4), .int ((upd (upd pt 11 p1) 12 q1) 5), .int ((upd (upd pt 11 p1) 12 q1) 6), .int ((upd (upd pt 11 p1) 12 q1) 7), .int ((upd (upd pt 11 p1) 12 q1) 8), .int ((upd (upd pt 11 p1) 12 q1) 9), .int ((upd (upd pt 11 p1) 12 q1) 10), .int ((upd (upd pt 11 p1) 12 q1) 11), .int ((upd (upd pt 11 p1) 12 q1) 12)]] H := hP
  have hD : va_D A [oO xo 5 [.ref lc, .ref lt, .ref bo, .ref yo, .ref no], oO lt 7 [.int m2, .ref et, .int (nI nS)], aO D et 10 (lsF sl nS), oO (sl s0) 3 [.ref co, .int ((upd (upd pt 11 p1) 12 q1) 0), .int ((upd (upd pt 11 p1) 12 q1) 1), .int ((upd (upd pt 11 p1) 12 q1) 3), .int ((upd (upd pt 11 p1) 12 q1) 4), .int ((upd (upd pt 11 p1) 12 q1) 5), .int ((upd (upd pt 11 p1) 12 q1) 6), .int ((upd (upd pt 11 p1) 12 q1) 7), .int ((upd (upd pt 11 p1) 12 q1) 8), .int ((upd (upd pt 11 p1) 12 q1) 9), .int ((upd (upd pt 11 p1) 12 q1) 10), .int ((upd (upd pt 11 p1) 12 q1) 11), .int ((upd (upd pt 11 p1) 12 q1) 12)]] := hD
  refine lv_iload hx hb dX5_setFade_73 (lv_at hl 0 rfl) ?_
  refine Wi () hx hb hr hlk ?_ hP hD hS (Nat.le_of_ble_eq_true rfl) (by first | exact Nat.le_of_ble_eq_true rfl | exact Nat.le_of_eq (Nat.zero_add _)) dX5_setFade_75
  exact rfl
set_option maxHeartbeats 4000000 in
set_option maxRecDepth 100000 in
theorem c_met (l : Launch) (D : va_G) {xo lc lt bo yo no : Nat} {k : Nat} {g h : Nat → Nat} {f : Nat → Nat → Int32} {cnt : Int32} {i w : Nat} (hk : k ≤ 100) (hi : i < k) (hw : w < 4) : Met l yX5_met (ws_ yX5_met cX5_met 3 (some .int)) ({ frames := 6, cells := 0, slots := 0, locals := 95 } : Room) (va_Pc [.ref xo, .int (nI i), .int (nI w)] (PW D [oO xo 5 [.ref lc, .ref lt, .ref bo, .ref yo, .ref no], oO no 1 [.ref (g 0), .ref (g 1), .ref (g 2), .ref (g 3), .int cnt], oO (g 0) 2 [.ref (h 0), .int (nI k)], oO (g 1) 2 [.ref (h 1), .int (nI k)], oO (g 2) 2 [.ref (h 2), .int (nI k)], oO (g 3) 2 [.ref (h 3), .int (nI k)], aI D (h 0) 100 (f 0), aI D (h 1) 100 (f 1), aI D (h 2) 100 (f 2), aI D (h 3) 100 (f 3)])) (vp_Si (fun v => v = f w i)) 0 0 (fun _ => False) := by
  refine Met.ofW (cc := cX5_met) (maxL := 3) (ret := (some .int)) (by decide) rfl ?_
  intro p e s m args below meth c s₁ B hml hv
  obtain ⟨rfl, hG, hP⟩ := hv
  have hx := B.exec
  have hb := B.bytes
  have hr := B.returns
  have hts : ∀ w ∈ wsL_law, w.before _ s = true := fun w h => atoms_spec (ws := (ws_ yX5_met cX5_met 3 (some .int))) B.pre w (List.mem_cons_of_mem _ h)
  have hown : s.vm.findClass RX5 = some m.cls := findClass_of_methodNamed B.named
  have hlk := B.notSynchronized
  have hC : CallFix p m c cX5_met 3 s _ wsL_law RX5 := ⟨hx, hb, hml, hown, hts⟩
  have hl := lv_entry ([.ref xo, .int (nI i), .int (nI w)]) (n := 3) (Nat.le_of_ble_eq_true rfl)
  rw [lg_entry_eq]
  generalize (lg_sl ([.ref xo, .int (nI i), .int (nI w)]) ++ List.replicate (3 - (lg_sl ([.ref xo, .int (nI i), .int (nI w)])).length) Slot.unset).toArray = ls at hl ⊢
  have hl : lv_has ls 3 [(0, .ref xo), (1, .int (nI i)), (2, .int (nI w))] := hl
  refine lv_iload_n hx hb dX5_met_0 rfl (lv_at hl 1 rfl) ?_
  refine lv_iconst (v := 0) hx hb dX5_met_1 (by decide) ?_
  refine lv_aload_n hx hb dX5_met_2 rfl (lv_at hl 0 rfl) ?_
  refine va_get (D := D) (ci := 5) (v := .ref no) (C := RX5) (T := TX5) (N := 5) hx hb hts inlX5 hown hG.K hP 0 rfl rfl 4 (by decide) (hts _ mF_X5_37) (fun _ h9 => h9) rfl dX5_met_3 ?_
  have hP9 := hP.sub (ws' := [oO no 1 [.ref (g 0), .ref (g 1), .ref (g 2), .ref (g 3), .int cnt], oO (g 0) 2 [.ref (h 0), .int (nI k)], oO (g 1) 2 [.ref (h 1), .int (nI k)], oO (g 2) 2 [.ref (h 2), .int (nI k)], oO (g 3) 2 [.ref (h 3), .int (nI k)], aI D (h 0) 100 (f 0), aI D (h 1) 100 (f 1), aI D (h 2) 100 (f 2), aI D (h 3) 100 (f 3)]) [1, 2, 3, 4, 5, 6, 7, 8, 9] rfl
  refine vp_callSi (pV (rest := [.int 0, .int (nI i)]) (qc := (RX1, TX1, 5)) [] 0 hC (c_keptCount l D (no := no) (cnt := cnt) (k := k) ) rfl (hP 1 _ rfl) (gV mM_X5_276 mI_X1_keptCount mS_X1_keptCount mN_X1 mC_X1_keptCount) (by decide +kernel) rfl rfl ⟨Nat.le_of_ble_eq_true rfl, Nat.le_of_ble_eq_true rfl⟩ hG hP9 rfl hl.1 rfl (Nat.le_of_ble_eq_true rfl) dX5_met_6 ⟨Nat.le_of_ble_eq_true rfl, Nat.le_of_ble_eq_true rfl⟩) (fun r6 h6 => ?_)
  obtain rfl : r6 = (nI k) := h6
  refine lv_iconst (v := 1) hx hb dX5_met_9 (by decide) ?_
  refine lv_isub hx hb dX5_met_10 ?_
  refine tpi (y := nI (k - 1)) (pk_sub (a := k) (b := 1) (by omega)) ?_
  have hP9 : va_P D cls [] s.heap := fun k q h => by simp at h
  refine vp_callSi (pS (rest := []) [.int (nI i), .int 0, .int (nI (k - 1))] 3 hC (c_isIn l D (x := nI i) (a := 0) (b := nI (k - 1)) ) (gS mM_X5_41 mT_X5_isIn mN_X5 mC_X5_isIn) (by decide +kernel) rfl rfl ⟨Nat.le_of_ble_eq_true rfl, Nat.le_of_ble_eq_true rfl⟩ hG hP9 rfl hl.1 rfl (Nat.le_of_ble_eq_true rfl) dX5_met_11 ⟨Nat.le_of_ble_eq_true rfl, Nat.le_of_ble_eq_true rfl⟩) (fun r11 h11 => ?_)
  rcases h11 with ⟨rfl, hb11⟩ | ⟨rfl, hb11⟩
  rotate_left
  · exact absurd (⟨nI_pos' (by omega), nI_le (by omega) (by omega)⟩) hb11
  refine lv_if_eq (tgt := 26) hx hb dX5_met_14 (by decide) (fun h9 => absurd h9 (by decide)) (fun _ => ?_)
  refine lv_iload_n hx hb dX5_met_17 rfl (lv_at hl 2 rfl) ?_
  refine lv_iconst (v := 0) hx hb dX5_met_18 (by decide) ?_
  refine lv_iconst (v := 3) hx hb dX5_met_19 (by decide) ?_
  have hP9 : va_P D cls [] s.heap := fun k q h => by simp at h
  refine vp_callSi (pS (rest := []) [.int (nI w), .int 0, .int 3] 3 hC (c_isIn l D (x := nI w) (a := 0) (b := 3) ) (gS mM_X5_41 mT_X5_isIn mN_X5 mC_X5_isIn) (by decide +kernel) rfl rfl ⟨Nat.le_of_ble_eq_true rfl, Nat.le_of_ble_eq_true rfl⟩ hG hP9 rfl hl.1 rfl (Nat.le_of_ble_eq_true rfl) dX5_met_20 ⟨Nat.le_of_ble_eq_true rfl, Nat.le_of_ble_eq_true rfl⟩) (fun r20 h20 => ?_)
  rcases h20 with ⟨rfl, hb20⟩ | ⟨rfl, hb20⟩
  rotate_left
  · exact absurd (⟨nI_pos' (by omega), (nI_leI (a := w) (b := 3) (by omega) (by omega)).mpr (by omega)⟩) hb20
  refine lv_if_ne (tgt := 37) hx hb dX5_met_23 (by decide) (fun _ => ?_) (fun h9 => absurd h9 (by decide))
  refine lv_aload_n hx hb dX5_met_37 rfl (lv_at hl 0 rfl) ?_
  refine va_get (D := D) (ci := 5) (v := .ref no) (C := RX5) (T := TX5) (N := 5) hx hb hts inlX5 hown hG.K hP 0 rfl rfl 4 (by decide) (hts _ mF_X5_37) (fun _ h9 => h9) rfl dX5_met_38 ?_
  refine lv_iload_n hx hb dX5_met_41 rfl (lv_at hl 1 rfl) ?_
  refine lv_iload_n hx hb dX5_met_42 rfl (lv_at hl 2 rfl) ?_
  have hP9 := hP.sub (ws' := [oO no 1 [.ref (g 0), .ref (g 1), .ref (g 2), .ref (g 3), .int cnt], oO (g 0) 2 [.ref (h 0), .int (nI k)], oO (g 1) 2 [.ref (h 1), .int (nI k)], oO (g 2) 2 [.ref (h 2), .int (nI k)], oO (g 3) 2 [.ref (h 3), .int (nI k)], aI D (h 0) 100 (f 0), aI D (h 1) 100 (f 1), aI D (h 2) 100 (f 2), aI D (h 3) 100 (f 3)]) [1, 2, 3, 4, 5, 6, 7, 8, 9] rfl
  refine vp_callSi (pV (rest := []) (qc := (RX1, TX1, 5)) [.int (nI i), .int (nI w)] 2 hC (c_note_fact l D (no := no) (i := i) (w := w) (cnt := cnt) (k := k) (by omega) (by omega) (by omega)) rfl (hP 1 _ rfl) (gV mM_X5_281 mI_X1_fact mS_X1_fact mN_X1 mC_X1_fact) (by decide +kernel) rfl rfl ⟨Nat.le_of_ble_eq_true rfl, Nat.le_of_ble_eq_true rfl⟩ hG hP9 rfl hl.1 rfl (Nat.le_of_ble_eq_true rfl) dX5_met_43 ⟨Nat.le_of_ble_eq_true rfl, Nat.le_of_ble_eq_true rfl⟩) (fun r43 h43 => ?_)
  obtain rfl : r43 = (f w i) := h43
  refine Ri hx hb hr hlk ?_ dX5_met_46
  exact rfl
