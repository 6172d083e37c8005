set_option maxHeartbeats 4000000 in
set_option maxRecDepth 100000 in
theorem c_clipOrNull (l : Launch) (D : va_G) {xo lc lt bo yo no : Nat} {ec nC c0 : Nat} {m1 : Int32} {cl : Nat → Nat} {ta : Nat} {len : Int32} {q : Nat → Nat} (hnC : nC ≤ 6) (hc : c0 < nC) : Met l yX5_clipOrNull (ws_ yX5_clipOrNull cX5_clipOrNull 2 (some (.object "KeyStage$Clip"))) ({ frames := 3, cells := 0, slots := 0, locals := 81 } : Room) (va_Pc [.ref xo, .int (nI c0)] (PW D [oO xo 5 [.ref lc, .ref lt, .ref bo, .ref yo, .ref no], oO lc 7 [.int m1, .ref ec, .int (nI nC)], aO D ec 10 (lsF cl nC), oO (cl c0) 0 [.int len, .ref ta, .ref (q 0), .ref (q 1)]])) (va_Sq (fun v => v = some (cl c0))) 0 0 (fun _ => False) := by
  refine Met.ofW (cc := cX5_clipOrNull) (maxL := 2) (ret := (some (.object "KeyStage$Clip"))) (by decide) rfl ?_
  intro p e s m args below meth c s₁ B hml hv
  obtain ⟨rfl, hG, hP⟩ := hv
  have hx := B.exec
  have hb := B.bytes
  have hr := B.returns
  have hts : ∀ w ∈ wsL_law, w.before _ s = true := fun w h => atoms_spec (ws := (ws_ yX5_clipOrNull cX5_clipOrNull 2 (some (.object "KeyStage$Clip")))) B.pre w (List.mem_cons_of_mem _ h)
  have hown : s.vm.findClass RX5 = some m.cls := findClass_of_methodNamed B.named
  have hlk := B.notSynchronized
  have hC : CallFix p m c cX5_clipOrNull 2 s _ wsL_law RX5 := ⟨hx, hb, hml, hown, hts⟩
  have hl := lv_entry ([.ref xo, .int (nI c0)]) (n := 2) (Nat.le_of_ble_eq_true rfl)
  rw [lg_entry_eq]
  generalize (lg_sl ([.ref xo, .int (nI c0)]) ++ List.replicate (2 - (lg_sl ([.ref xo, .int (nI c0)])).length) Slot.unset).toArray = ls at hl ⊢
  have hl : lv_has ls 2 [(0, .ref xo), (1, .int (nI c0))] := hl
  refine lv_iload_n hx hb dX5_clipOrNull_0 rfl (lv_at hl 1 rfl) ?_
  refine lv_if_lt (tgt := 29) hx hb dX5_clipOrNull_1 (by decide) (fun h9 => absurd ((nI_ltI (a := c0) (b := 0) (by omega) (by omega)).mp h9) (by omega)) (fun _ => ?_)
  refine lv_iload_n hx hb dX5_clipOrNull_4 rfl (lv_at hl 1 rfl) ?_
  refine lv_aload_n hx hb dX5_clipOrNull_5 rfl (lv_at hl 0 rfl) ?_
  refine va_get (D := D) (ci := 5) (v := .ref lc) (C := RX5) (T := TX5) (N := 5) hx hb hts inlX5 hown hG.K hP 0 rfl rfl 0 (by decide) (hts _ mF_X5_10) (fun _ h9 => h9) rfl dX5_clipOrNull_6 ?_
  have hP9 := hP.sub (ws' := [oO lc 7 [.int m1, .ref ec, .int (nI nC)]]) [1] rfl
  refine vp_callSi (pV (rest := [.int (nI c0)]) (qc := (RJx4a65c, TJx4a65c, 3)) [] 0 hC (c_list_size l D (lo := lc) (mc := m1) (ea := ec) (n := nC) ) rfl (hP 1 _ rfl) (gV mM_X5_52 mI_Jx4a65c_size_8abf5 mS_Jx4a65c_size_8abf5 mN_Jx4a65c mC_Jx4a65c_size_8abf5) (by decide +kernel) rfl rfl ⟨Nat.le_of_ble_eq_true rfl, Nat.le_of_ble_eq_true rfl⟩ hG hP9 rfl hl.1 rfl (Nat.le_of_ble_eq_true rfl) dX5_clipOrNull_9 ⟨Nat.le_of_ble_eq_true rfl, Nat.le_of_ble_eq_true rfl⟩) (fun r9 h9 => ?_)
  obtain rfl : r9 = (nI nC) := h9
  refine lv_icmp_ge (tgt := 29) hx hb dX5_clipOrNull_12 (by decide) (fun h9 => absurd ((nI_leI (a := nC) (b := c0) (by omega) (by omega)).mp h9) (by omega)) (fun _ => ?_)
  refine lv_aload_n hx hb dX5_clipOrNull_15 rfl (lv_at hl 0 rfl) ?_
  refine va_get (D := D) (ci := 5) (v := .ref lc) (C := RX5) (T := TX5) (N := 5) hx hb hts inlX5 hown hG.K hP 0 rfl rfl 0 (by decide) (hts _ mF_X5_10) (fun _ h9 => h9) rfl dX5_clipOrNull_16 ?_
  refine lv_iload_n hx hb dX5_clipOrNull_19 rfl (lv_at hl 1 rfl) ?_
  have hP9 := hP.sub (ws' := [oO lc 7 [.int m1, .ref ec, .int (nI nC)], aO D ec 10 (lsF cl nC)]) [1, 2] rfl
  refine va_csq (pV (rest := []) (qc := (RJx4a65c, TJx4a65c, 3)) [.int (nI c0)] 1 hC (c_list_get l D (lo := lc) (i := c0) (mc := m1) (ea := ec) (n := nC) (k := 10) (f := lsF cl nC) (by omega) (by omega) (by omega)) rfl (hP 1 _ rfl) (gV mM_X5_250 mI_Jx4a65c_get_915e3 mS_Jx4a65c_get_915e3 mN_Jx4a65c mC_Jx4a65c_get_915e3) (by decide +kernel) rfl rfl ⟨Nat.le_of_ble_eq_true rfl, Nat.le_of_ble_eq_true rfl⟩ hG hP9 rfl hl.1 rfl (Nat.le_of_ble_eq_true rfl) dX5_clipOrNull_20 ⟨Nat.le_of_ble_eq_true rfl, Nat.le_of_ble_eq_true rfl⟩) (fun r20 h20 => ?_)
  obtain rfl : r20 = ((lsF cl nC) c0) := h20
  refine tpv (y := .ref (cl c0)) (lsF_ref (by omega)) ?_
  refine va_castS (nm := RX0) hx hb hown (hts _ mK_X5_61) (hG.K.1 0 _ rfl).2 (rcv hG (hP 3 _ rfl) (ci := 0) rfl) dX5_clipOrNull_23 ?_
  refine lv_goto (tgt := 30) hx hb dX5_clipOrNull_26 (by decide) ?_
  refine Rq (v := some (cl c0)) hx hb hr hlk ?_ dX5_clipOrNull_30
  exact rfl
set_option maxHeartbeats 4000000 in
set_option maxRecDepth 100000 in
theorem c_clipOrNull_no (l : Launch) (D : va_G) {xo lc lt bo yo no : Nat} {ec nC : Nat} {m1 : Int32} {x : Int32} (hnC : nC ≤ 6) (hxx : x < 0 ∨ nI nC ≤ x) : Met l yX5_clipOrNull (ws_ yX5_clipOrNull cX5_clipOrNull 2 (some (.object "KeyStage$Clip"))) ({ frames := 3, cells := 0, slots := 0, locals := 81 } : Room) (va_Pc [.ref xo, .int x] (PW D [oO xo 5 [.ref lc, .ref lt, .ref bo, .ref yo, .ref no], oO lc 7 [.int m1, .ref ec, .int (nI nC)]])) (va_Sq (fun v => v = none)) 0 0 (fun _ => False) := by
  refine Met.ofW (cc := cX5_clipOrNull) (maxL := 2) (ret := (some (.object "KeyStage$Clip"))) (by decide) rfl ?_
  intro p e s m args below meth c s₁ B hml hv
  obtain ⟨rfl, hG, hP⟩ := hv
  have hx := B.exec
  have hb := B.bytes
  have hr := B.returns
  have hts : ∀ w ∈ wsL_law, w.before _ s = true := fun w h => atoms_spec (ws := (ws_ yX5_clipOrNull cX5_clipOrNull 2 (some (.object "KeyStage$Clip")))) B.pre w (List.mem_cons_of_mem _ h)
  have hown : s.vm.findClass RX5 = some m.cls := findClass_of_methodNamed B.named
  have hlk := B.notSynchronized
  have hC : CallFix p m c cX5_clipOrNull 2 s _ wsL_law RX5 := ⟨hx, hb, hml, hown, hts⟩
  have hl := lv_entry ([.ref xo, .int x]) (n := 2) (Nat.le_of_ble_eq_true rfl)
  rw [lg_entry_eq]
  generalize (lg_sl ([.ref xo, .int x]) ++ List.replicate (2 - (lg_sl ([.ref xo, .int x])).length) Slot.unset).toArray = ls at hl ⊢
  have hl : lv_has ls 2 [(0, .ref xo), (1, .int x)] := hl
  refine lv_iload_n hx hb dX5_clipOrNull_0 rfl (lv_at hl 1 rfl) ?_
  refine lv_if_lt (tgt := 29) hx hb dX5_clipOrNull_1 (by decide) (fun c1 => ?_) (fun c1 => ?_)
  · skip
    refine lv_null hx hb dX5_clipOrNull_29 ?_
    refine Rq (v := none) hx hb hr hlk ?_ dX5_clipOrNull_30
    exact rfl
  · skip
    refine lv_iload_n hx hb dX5_clipOrNull_4 rfl (lv_at hl 1 rfl) ?_
    refine lv_aload_n hx hb dX5_clipOrNull_5 rfl (lv_at hl 0 rfl) ?_
    refine va_get (D := D) (ci := 5) (v := .ref lc) (C := RX5) (T := TX5) (N := 5) hx hb hts inlX5 hown hG.K hP 0 rfl rfl 0 (by decide) (hts _ mF_X5_10) (fun _ h9 => h9) rfl dX5_clipOrNull_6 ?_
    have hP9 := hP.sub (ws' := [oO lc 7 [.int m1, .ref ec, .int (nI nC)]]) [1] rfl
    refine vp_callSi (pV (rest := [.int x]) (qc := (RJx4a65c, TJx4a65c, 3)) [] 0 hC (c_list_size l D (lo := lc) (mc := m1) (ea := ec) (n := nC) ) rfl (hP 1 _ rfl) (gV mM_X5_52 mI_Jx4a65c_size_8abf5 mS_Jx4a65c_size_8abf5 mN_Jx4a65c mC_Jx4a65c_size_8abf5) (by decide +kernel) rfl rfl ⟨Nat.le_of_ble_eq_true rfl, Nat.le_of_ble_eq_true rfl⟩ hG hP9 rfl hl.1 rfl (Nat.le_of_ble_eq_true rfl) dX5_clipOrNull_9 ⟨Nat.le_of_ble_eq_true rfl, Nat.le_of_ble_eq_true rfl⟩) (fun r9 h9 => ?_)
    obtain rfl : r9 = (nI nC) := h9
    refine lv_icmp_ge (tgt := 29) hx hb dX5_clipOrNull_12 (by decide) (fun c12 => ?_) (fun c12 => absurd (hxx.resolve_left c1) c12)
    refine lv_null hx hb dX5_clipOrNull_29 ?_
    refine Rq (v := none) hx hb hr hlk ?_ dX5_clipOrNull_30
    exact rfl
set_option maxHeartbeats 4000000 in
set_option maxRecDepth 100000 in
theorem c_trk (l : Launch) (D : va_G) {co ta j : Nat} {len : Int32} {q t : Nat → Nat} (hj : j < 4) : Met l yX5_trackOrNull (ws_ yX5_trackOrNull cX5_trackOrNull 2 (some (.object "KeyStage$Track"))) ({ frames := 1, cells := 0, slots := 0, locals := 21 } : Room) (va_Pc [.ref co, .int (nI j)] (PW D [oO co 0 [.int len, .ref ta, .ref (q 0), .ref (q 1)], aT D ta 4 (tkF t)])) (va_Sq (fun v => v = some (t j))) 0 0 (fun _ => False) := by
  refine Met.ofW (cc := cX5_trackOrNull) (maxL := 2) (ret := (some (.object "KeyStage$Track"))) (by decide) rfl ?_
  intro p e s m args below meth c s₁ B hml hv
  obtain ⟨rfl, hG, hP⟩ := hv
  have hx := B.exec
  have hb := B.bytes
  have hr := B.returns
  have hts : ∀ w ∈ wsL_law, w.before _ s = true := fun w h => atoms_spec (ws := (ws_ yX5_trackOrNull cX5_trackOrNull 2 (some (.object "KeyStage$Track")))) B.pre w (List.mem_cons_of_mem _ h)
  have hown : s.vm.findClass RX5 = some m.cls := findClass_of_methodNamed B.named
  have hlk := B.notSynchronized
  have hC : CallFix p m c cX5_trackOrNull 2 s _ wsL_law RX5 := ⟨hx, hb, hml, hown, hts⟩
  have hl := lv_entry ([.ref co, .int (nI j)]) (n := 2) (Nat.le_of_ble_eq_true rfl)
  rw [lg_entry_eq]
  generalize (lg_sl ([.ref co, .int (nI j)]) ++ List.replicate (2 - (lg_sl ([.ref co, .int (nI j)])).length) Slot.unset).toArray = ls at hl ⊢
  have hl : lv_has ls 2 [(0, .ref co), (1, .int (nI j))] := hl
  refine lv_aload_n hx hb dX5_trackOrNull_0 rfl (lv_at hl 0 rfl) ?_
  refine lv_ifnonnull (tgt := 8) hx hb dX5_trackOrNull_1 (by decide) ?_
  refine lv_aload_n hx hb dX5_trackOrNull_8 rfl (lv_at hl 0 rfl) ?_
  refine lv_iload_n hx hb dX5_trackOrNull_9 rfl (lv_at hl 1 rfl) ?_
  have hP9 := hP
  refine va_csq (pV (rest := []) (qc := (RX0, TX0, 4)) [.int (nI j)] 1 hC (c_trackOrNull l D (co := co) (j := j) (len := len) (ta := ta) (by omega)) rfl (hP 0 _ rfl) (gV mM_X5_293 mI_X0_trackOrNull mS_X0_trackOrNull mN_X0 mC_X0_trackOrNull) (by decide +kernel) rfl rfl ⟨Nat.le_of_ble_eq_true rfl, Nat.le_of_ble_eq_true rfl⟩ hG hP9 rfl hl.1 rfl (Nat.le_of_ble_eq_true rfl) dX5_trackOrNull_10 ⟨Nat.le_of_ble_eq_true rfl, Nat.le_of_ble_eq_true rfl⟩) (fun r10 h10 => ?_)
  obtain rfl : r10 = (some (t j)) := h10
  refine tpv (y := .ref (t j)) rfl ?_
  refine Rq (v := some (t j)) hx hb hr hlk ?_ dX5_trackOrNull_13
  exact rfl
set_option maxHeartbeats 4000000 in
set_option maxRecDepth 100000 in
theorem c_trk0 (l : Launch) (D : va_G) {co ta : Nat} {len p1 : Int32} {q t : Nat → Nat} (hp : p1 < 0 ∨ 4 ≤ p1) : Met l yX0_trackOrNull (ws_ yX0_trackOrNull cX0_trackOrNull 2 (some (.object "KeyStage$Track"))) ({ frames := 0, cells := 0, slots := 0, locals := 0 } : Room) (va_Pc [.ref co, .int p1] (PW D [oO co 0 [.int len, .ref ta, .ref (q 0), .ref (q 1)], aT D ta 4 (tkF t)])) (va_Sq (fun v => v = none)) 0 0 (fun _ => False) := by
  refine Met.ofW (cc := cX0_trackOrNull) (maxL := 2) (ret := (some (.object "KeyStage$Track"))) (by decide) rfl ?_
  intro p e s m args below meth c s₁ B hml hv
  obtain ⟨rfl, hG, hP⟩ := hv
  have hx := B.exec
  have hb := B.bytes
  have hr := B.returns
  have hts : ∀ w ∈ wsL_law, w.before _ s = true := fun w h => atoms_spec (ws := (ws_ yX0_trackOrNull cX0_trackOrNull 2 (some (.object "KeyStage$Track")))) B.pre w (List.mem_cons_of_mem _ h)
  have hown : s.vm.findClass RX0 = some m.cls := findClass_of_methodNamed B.named
  have hlk := B.notSynchronized
  have hC : CallFix p m c cX0_trackOrNull 2 s _ wsL_law RX0 := ⟨hx, hb, hml, hown, hts⟩
  have hl := lv_entry ([.ref co, .int p1]) (n := 2) (Nat.le_of_ble_eq_true rfl)
  rw [lg_entry_eq]
  generalize (lg_sl ([.ref co, .int p1]) ++ List.replicate (2 - (lg_sl ([.ref co, .int p1])).length) Slot.unset).toArray = ls at hl ⊢
  have hl : lv_has ls 2 [(0, .ref co), (1, .int p1)] := hl
  refine lv_iload_n hx hb dX0_trackOrNull_0 rfl (lv_at hl 1 rfl) ?_
  refine lv_if_lt (tgt := 22) hx hb dX0_trackOrNull_1 (by decide) (fun c1 => ?_) (fun c1 => ?_)
  · skip
    refine lv_null hx hb dX0_trackOrNull_22 ?_
    refine Rq (v := none) hx hb hr hlk ?_ dX0_trackOrNull_23
    exact rfl
  · skip
    refine lv_iload_n hx hb dX0_trackOrNull_4 rfl (lv_at hl 1 rfl) ?_
    refine lv_aload_n hx hb dX0_trackOrNull_5 rfl (lv_at hl 0 rfl) ?_
    refine va_get (D := D) (ci := 0) (v := .ref ta) (C := RX0) (T := TX0) (N := 4) hx hb hts inlX0 hown hG.K hP 0 rfl rfl 1 (by decide) (hts _ mF_X0_29) (fun _ h9 => h9) rfl dX0_trackOrNull_6 ?_
    refine va_alen (v := nI 4) hx hb hG.K hP 1 3 rfl rfl rfl dX0_trackOrNull_9 ?_
    refine lv_icmp_ge (tgt := 22) hx hb dX0_trackOrNull_10 (by decide) (fun c10 => ?_) (fun c10 => absurd (hp.resolve_left c1) c10)
    refine lv_null hx hb dX0_trackOrNull_22 ?_
    refine Rq (v := none) hx hb hr hlk ?_ dX0_trackOrNull_23
    exact rfl
set_option maxHeartbeats 4000000 in
set_option maxRecDepth 100000 in
theorem c_trk_no (l : Launch) (D : va_G) {co ta : Nat} {len p1 : Int32} {q t : Nat → Nat} (hp : p1 < 0 ∨ 4 ≤ p1) : Met l yX5_trackOrNull (ws_ yX5_trackOrNull cX5_trackOrNull 2 (some (.object "KeyStage$Track"))) ({ frames := 1, cells := 0, slots := 0, locals := 21 } : Room) (va_Pc [.ref co, .int p1] (PW D [oO co 0 [.int len, .ref ta, .ref (q 0), .ref (q 1)], aT D ta 4 (tkF t)])) (va_Sq (fun v => v = none)) 0 0 (fun _ => False) := by
  refine Met.ofW (cc := cX5_trackOrNull) (maxL := 2) (ret := (some (.object "KeyStage$Track"))) (by decide) rfl ?_
  intro p e s m args below meth c s₁ B hml hv
  obtain ⟨rfl, hG, hP⟩ := hv
  have hx := B.exec
  have hb := B.bytes
  have hr := B.returns
  have hts : ∀ w ∈ wsL_law, w.before _ s = true := fun w h => atoms_spec (ws := (ws_ yX5_trackOrNull cX5_trackOrNull 2 (some (.object "KeyStage$Track")))) B.pre w (List.mem_cons_of_mem _ h)
  have hown : s.vm.findClass RX5 = some m.cls := findClass_of_methodNamed B.named
  have hlk := B.notSynchronized
  have hC : CallFix p m c cX5_trackOrNull 2 s _ wsL_law RX5 := ⟨hx, hb, hml, hown, hts⟩
  have hl := lv_entry ([.ref co, .int p1]) (n := 2) (Nat.le_of_ble_eq_true rfl)
  rw [lg_entry_eq]
  generalize (lg_sl ([.ref co, .int p1]) ++ List.replicate (2 - (lg_sl ([.ref co, .int p1])).length) Slot.unset).toArray = ls at hl ⊢
  have hl : lv_has ls 2 [(0, .ref co), (1, .int p1)] := hl
  refine lv_aload_n hx hb dX5_trackOrNull_0 rfl (lv_at hl 0 rfl) ?_
  refine lv_ifnonnull (tgt := 8) hx hb dX5_trackOrNull_1 (by decide) ?_
  refine lv_aload_n hx hb dX5_trackOrNull_8 rfl (lv_at hl 0 rfl) ?_
  refine lv_iload_n hx hb dX5_trackOrNull_9 rfl (lv_at hl 1 rfl) ?_
  have hP9 := hP
  refine va_csq (pV (rest := []) (qc := (RX0, TX0, 4)) [.int p1] 1 hC (c_trk0 l D (co := co) (p1 := p1) (len := len) (ta := ta) (hp)) rfl (hP 0 _ rfl) (gV mM_X5_293 mI_X0_trackOrNull mS_X0_trackOrNull mN_X0 mC_X0_trackOrNull) (by decide +kernel) rfl rfl ⟨Nat.le_of_ble_eq_true rfl, Nat.le_of_ble_eq_true rfl⟩ hG hP9 rfl hl.1 rfl (Nat.le_of_ble_eq_true rfl) dX5_trackOrNull_10 ⟨Nat.le_of_ble_eq_true rfl, Nat.le_of_ble_eq_true rfl⟩) (fun r10 h10 => ?_)
  obtain rfl : none = r10 := Eq.symm h10
  refine tpv (y := .null) rfl ?_
  refine Rq (v := none) hx hb hr hlk ?_ dX5_trackOrNull_13
  exact rfl
set_option maxHeartbeats 4000000 in
set_option maxRecDepth 100000 in
theorem c_trk_null (l : Launch) (D : va_G) {p1 : Int32}  : Met l yX5_trackOrNull (ws_ yX5_trackOrNull cX5_trackOrNull 2 (some (.object "KeyStage$Track"))) ({ frames := 1, cells := 0, slots := 0, locals := 21 } : Room) (va_Pc [.null, .int p1] (PW D [])) (va_Sq (fun v => v = none)) 0 0 (fun _ => False) := by
  refine Met.ofW (cc := cX5_trackOrNull) (maxL := 2) (ret := (some (.object "KeyStage$Track"))) (by decide) rfl ?_
  intro p e s m args below meth c s₁ B hml hv
  obtain ⟨rfl, hG, hP⟩ := hv
  have hx := B.exec
  have hb := B.bytes
  have hr := B.returns
  have hts : ∀ w ∈ wsL_law, w.before _ s = true := fun w h => atoms_spec (ws := (ws_ yX5_trackOrNull cX5_trackOrNull 2 (some (.object "KeyStage$Track")))) B.pre w (List.mem_cons_of_mem _ h)
  have hown : s.vm.findClass RX5 = some m.cls := findClass_of_methodNamed B.named
  have hlk := B.notSynchronized
  have hC : CallFix p m c cX5_trackOrNull 2 s _ wsL_law RX5 := ⟨hx, hb, hml, hown, hts⟩
  have hl := lv_entry ([.null, .int p1]) (n := 2) (Nat.le_of_ble_eq_true rfl)
  rw [lg_entry_eq]
  generalize (lg_sl ([.null, .int p1]) ++ List.replicate (2 - (lg_sl ([.null, .int p1])).length) Slot.unset).toArray = ls at hl ⊢
  have hl : lv_has ls 2 [(0, .null), (1, .int p1)] := hl
  refine lv_aload_nN hx hb dX5_trackOrNull_0 rfl (lv_at hl 0 rfl) ?_
  refine lv_ifnonnullN hx hb dX5_trackOrNull_1 ?_
  refine lv_null hx hb dX5_trackOrNull_4 ?_
  refine lv_goto (tgt := 13) hx hb dX5_trackOrNull_5 (by decide) ?_
  refine Rq (v := none) hx hb hr hlk ?_ dX5_trackOrNull_13
  exact rfl
set_option maxHeartbeats 4000000 in
set_option maxRecDepth 100000 in
theorem c_addClip (l : Launch) (D : va_G) {xo lc lt bo yo no : Nat} {ec nC : Nat} {m1 : Int32} {cl : Nat → Nat} {x : Int32} (hz0 : Nat) (h : 1 ≤ x ∧ x ≤ 2000) (hnC : nC < 6) : Met l yX5_addClip (ws_ yX5_addClip cX5_addClip 2 (some .int)) ({ frames := 6, cells := 34, slots := 256, locals := 166 } : Room) (va_Pc [.ref xo, .int x] (SW D [oO xo 5 [.ref lc, .ref lt, .ref bo, .ref yo, .ref no], oO lc 7 [.int m1, .ref ec, .int (nI nC)], aO D ec 10 (lsF cl nC)] hz0)) (va_Qi (fun v _ => v = nI nC) (AT D (va_A [oO xo 5 [.ref lc, .ref lt, .ref bo, .ref yo, .ref no], oO lc 7 [.int m1, .ref ec, .int (nI nC)], aO D ec 10 (lsF cl nC)] hz0) (fun ((co, ta, q, b, t, r, a) : Nat × Nat × (Nat → Nat) × (Nat → Nat) × (Nat → Nat) × (Nat → Nat) × (Nat → Nat)) => [oO xo 5 [.ref lc, .ref lt, .ref bo, .ref yo, .ref no], oO lc 7 [.int (m1 + 1), .ref ec, .int (nI (nC + 1))], aO D ec 10 (lsF (fun k => if k = nC then co else cl k) (nC + 1)), oO co 0 [.int x, .ref ta, .ref (q 0), .ref (q 1)], aT D ta 4 (tkF t), oO (q 0) 2 [.ref (b 0), .int (nI 0)], oO (q 1) 2 [.ref (b 1), .int (nI 0)], aI D (b 0) 8 (fun _ => 0), aI D (b 1) 8 (fun _ => 0), oO (t 0) 4 [.ref (r 0), .ref (r 1), .ref (r 2)], oO (r 0) 2 [.ref (a 0), .int (nI 0)], oO (r 1) 2 [.ref (a 1), .int (nI 0)], oO (r 2) 2 [.ref (a 2), .int (nI 0)], aI D (a 0) 16 (fun _ => 0), aI D (a 1) 16 (fun _ => 0), aI D (a 2) 16 (fun _ => 0), oO (t 1) 4 [.ref (r 3), .ref (r 4), .ref (r 5)], oO (r 3) 2 [.ref (a 3), .int (nI 0)], oO (r 4) 2 [.ref (a 4), .int (nI 0)], oO (r 5) 2 [.ref (a 5), .int (nI 0)], aI D (a 3) 16 (fun _ => 0), aI D (a 4) 16 (fun _ => 0), aI D (a 5) 16 (fun _ => 0), oO (t 2) 4 [.ref (r 6), .ref (r 7), .ref (r 8)], oO (r 6) 2 [.ref (a 6), .int (nI 0)], oO (r 7) 2 [.ref (a 7), .int (nI 0)], oO (r 8) 2 [.ref (a 8), .int (nI 0)], aI D (a 6) 16 (fun _ => 0), aI D (a 7) 16 (fun _ => 0), aI D (a 8) 16 (fun _ => 0), oO (t 3) 4 [.ref (r 9), .ref (r 10), .ref (r 11)], oO (r 9) 2 [.ref (a 9), .int (nI 0)], oO (r 10) 2 [.ref (a 10), .int (nI 0)], oO (r 11) 2 [.ref (a 11), .int (nI 0)], aI D (a 9) 16 (fun _ => 0), aI D (a 10) 16 (fun _ => 0), aI D (a 11) 16 (fun _ => 0)])) (va_A [oO xo 5 [.ref lc, .ref lt, .ref bo, .ref yo, .ref no], oO lc 7 [.int m1, .ref ec, .int (nI nC)], aO D ec 10 (lsF cl nC)] hz0)) 34 256 (va_A [oO xo 5 [.ref lc, .ref lt, .ref bo, .ref yo, .ref no], oO lc 7 [.int m1, .ref ec, .int (nI nC)], aO D ec 10 (lsF cl nC)] hz0) := by
  refine Met.ofW (cc := cX5_addClip) (maxL := 2) (ret := (some .int)) (by decide) rfl ?_
  intro p e s m args below meth c s₁ B hml hv
  obtain ⟨rfl, hsz, hG, hP, hD0⟩ := hv
  have hx := B.exec
  have hb := B.bytes
  have hr := B.returns
  have hts : ∀ w ∈ wsL_law, w.before _ s = true := fun w h => atoms_spec (ws := (ws_ yX5_addClip cX5_addClip 2 (some .int))) B.pre w (List.mem_cons_of_mem _ h)
  have hown : s.vm.findClass RX5 = some m.cls := findClass_of_methodNamed B.named
  have hlk := B.notSynchronized
  have hC : CallFix p m c cX5_addClip 2 s _ wsL_law RX5 := ⟨hx, hb, hml, hown, hts⟩
  subst hsz
  have hD := hD0.self (sz := s.heap.size)
  generalize hAe : va_A [oO xo 5 [.ref lc, .ref lt, .ref bo, .ref yo, .ref no], oO lc 7 [.int m1, .ref ec, .int (nI nC)], aO D ec 10 (lsF cl nC)] s.heap.size = A at hD ⊢
  have hA : ∀ q : Nat, s.heap.size ≤ q → A q := fun q h => by rw [← hAe]; exact Or.inr h
  have hS : va_S A s.heap s.heap [] := va_S.rf
  obtain ⟨H, hHe⟩ : ∃ H, H = s.heap := ⟨_, rfl⟩
  rw [← hHe] at hP
  have hS : va_S A s.heap H [] := by rw [hHe]; exact hS
  have hl := lv_entry ([.ref xo, .int x]) (n := 2) (Nat.le_of_ble_eq_true rfl)
  rw [lg_entry_eq]
  generalize (lg_sl ([.ref xo, .int x]) ++ List.replicate (2 - (lg_sl ([.ref xo, .int x])).length) Slot.unset).toArray = ls at hl ⊢
  have hl : lv_has ls 2 [(0, .ref xo), (1, .int x)] := hl
  rw [← hHe]
  refine lv_iload_n hx hb dX5_addClip_0 rfl (lv_at hl 1 rfl) ?_
  refine lv_iconst (v := 1) hx hb dX5_addClip_1 (by decide) ?_
  refine lv_sipush (v := 2000) hx hb dX5_addClip_2 (by decide) ?_
  have hP9 : va_P D cls [] H := fun k q h => by simp at h
  refine vp_callSi (pS (rest := []) [.int x, .int 1, .int 2000] 3 hC (c_isIn l D (x := x) (a := 1) (b := 2000) ) (gS mM_X5_41 mT_X5_isIn mN_X5 mC_X5_isIn) (by decide +kernel) rfl rfl ⟨Nat.le_of_ble_eq_true rfl, Nat.le_of_ble_eq_true rfl⟩ hG hP9 rfl hl.1 rfl (Nat.le_of_ble_eq_true rfl) dX5_addClip_5 ⟨Nat.le_of_ble_eq_true rfl, Nat.le_of_ble_eq_true rfl⟩) (fun r5 h5 => ?_)
  rcases h5 with ⟨rfl, hb5⟩ | ⟨rfl, hb5⟩
  rotate_left
  · exact absurd (h) hb5
  refine lv_if_ne (tgt := 21) hx hb dX5_addClip_8 (by decide) (fun _ => ?_) (fun h9 => absurd h9 (by decide))
  refine lv_aload_n hx hb dX5_addClip_21 rfl (lv_at hl 0 rfl) ?_
  refine va_get (D := D) (ci := 5) (v := .ref lc) (C := RX5) (T := TX5) (N := 5) hx hb hts inlX5 hown hG.K hP 0 rfl rfl 0 (by decide) (hts _ mF_X5_10) (fun _ h9 => h9) rfl dX5_addClip_22 ?_
  have hP9 := hP.sub (ws' := [oO lc 7 [.int m1, .ref ec, .int (nI nC)]]) [1] rfl
  refine vp_callSi (pV (rest := []) (qc := (RJx4a65c, TJx4a65c, 3)) [] 0 hC (c_list_size l D (lo := lc) (mc := m1) (ea := ec) (n := nC) ) rfl (hP 1 _ rfl) (gV mM_X5_52 mI_Jx4a65c_size_8abf5 mS_Jx4a65c_size_8abf5 mN_Jx4a65c mC_Jx4a65c_size_8abf5) (by decide +kernel) rfl rfl ⟨Nat.le_of_ble_eq_true rfl, Nat.le_of_ble_eq_true rfl⟩ hG hP9 rfl hl.1 rfl (Nat.le_of_ble_eq_true rfl) dX5_addClip_25 ⟨Nat.le_of_ble_eq_true rfl, Nat.le_of_ble_eq_true rfl⟩) (fun r25 h25 => ?_)
  obtain rfl : r25 = (nI nC) := h25
  refine lv_bipush (v := 6) hx hb dX5_addClip_28 (by decide) ?_
  refine lv_icmp_lt (tgt := 43) hx hb dX5_addClip_30 (by decide) (fun _ => ?_) (fun h9 => absurd ((nI_ltI (a := nC) (b := 6) (by omega) (by omega)).mpr (by omega)) h9)
  refine lv_aload_n hx hb dX5_addClip_43 rfl (lv_at hl 0 rfl) ?_
  refine va_get (D := D) (ci := 5) (v := .ref lc) (C := RX5) (T := TX5) (N := 5) hx hb hts inlX5 hown hG.K hP 0 rfl rfl 0 (by decide) (hts _ mF_X5_10) (fun _ h9 => h9) rfl dX5_addClip_44 ?_
  refine va_new (ci := 0) (fs := [.int 0, .null, .null, .null]) (C := RX0) (T := TX0) (N := 4) hx hb hts inlX0 tyX0 tyX0_ok hown (hts _ mK_X5_61) (hts _ mB_X0) (hts _ mN_X0) hG.K hP hD hS hA rfl (fun j hj => by rcases (show j = 0 ∨ j = 1 ∨ j = 2 ∨ j = 3 by omega) with rfl | rfl | rfl | rfl <;> rfl) (Nat.le_of_ble_eq_true rfl) (Nat.le_of_ble_eq_true rfl) dX5_addClip_47 (fun co H hP hD hS => ?_)
  have hP : va_P D cls [oO xo 5 [.ref lc, .ref lt, .ref bo, .ref yo, .ref no], oO lc 7 [.int m1, .ref ec, .int (nI nC)], aO D ec 10 (lsF cl nC), oO co 0 [.int 0, .null, .null, .null]] H := hP
  have hD : va_D A [oO xo 5 [.ref lc, .ref lt, .ref bo, .ref yo, .ref no], oO lc 7 [.int m1, .ref ec, .int (nI nC)], aO D ec 10 (lsF cl nC), oO co 0 [.int 0, .null, .null, .null]] := hD
  refine lv_dup hx hb dX5_addClip_50 rfl ?_
  refine lv_iload_n hx hb dX5_addClip_51 rfl (lv_at hl 1 rfl) ?_
  have hP9 := hP.sub (ws' := [oO co 0 [.int 0, .null, .null, .null]]) [3] rfl
  have hD9 := (hD.sub (ws' := [oO co 0 [.int 0, .null, .null, .null]]) [3] (by decide) rfl).weaken (B := fun _ => True) (fun _ _ _ _ => trivial)
  refine kv (wr := [oO xo 5 [.ref lc, .ref lt, .ref bo, .ref yo, .ref no], oO lc 7 [.int m1, .ref ec, .int (nI nC)], aO D ec 10 (lsF cl nC)]) (rI (rest := [.ref co, .ref lc]) [.int x] 1 33 252 hC (c_Clip_init l D (co := co) (len := x) (hz0 := H.size) ) mM_X5_63 mI_X0_init mN_X0 mC_X0_init rfl (by decide +kernel) rfl rfl ⟨Nat.le_of_ble_eq_true rfl, Nat.le_of_ble_eq_true rfl⟩ hG hP9 hD9 rfl hl.1 rfl (Nat.le_of_ble_eq_true rfl) dX5_addClip_52 ⟨Nat.le_of_ble_eq_true rfl, Nat.le_of_ble_eq_true rfl⟩) hP hD hS hA [3] [0, 1, 2] rfl rfl (by decide) (by decide) (fun u52 H locs h52 hP hD hS hz hfr => ?_)
  obtain ⟨ta, q, b, t, r, a⟩ := u52
  have hP : va_P D cls [oO xo 5 [.ref lc, .ref lt, .ref bo, .ref yo, .ref no], oO lc 7 [.int m1, .ref ec, .int (nI nC)], aO D ec 10 (lsF cl nC), oO co 0 [.int x, .ref ta, .ref (q 0), .ref (q 1)], aT D ta 4 (tkF t), oO (q 0) 2 [.ref (b 0), .int (nI 0)], oO (q 1) 2 [.ref (b 1), .int (nI 0)], aI D (b 0) 8 (fun _ => 0), aI D (b 1) 8 (fun _ => 0), oO (t 0) 4 [.ref (r 0), .ref (r 1), .ref (r 2)], oO (r 0) 2 [.ref (a 0), .int (nI 0)], oO (r 1) 2 [.ref (a 1), .int (nI 0)], oO (r 2) 2 [.ref (a 2), .int (nI 0)], aI D (a 0) 16 (fun _ => 0), aI D (a 1) 16 (fun _ => 0), aI D (a 2) 16 (fun _ => 0), oO (t 1) 4 [.ref (r 3), .ref (r 4), .ref (r 5)], oO (r 3) 2 [.ref (a 3), .int (nI 0)], oO (r 4) 2 [.ref (a 4), .int (nI 0)], oO (r 5) 2 [.ref (a 5), .int (nI 0)], aI D (a 3) 16 (fun _ => 0), aI D (a 4) 16 (fun _ => 0), aI D (a 5) 16 (fun _ => 0), oO (t 2) 4 [.ref (r 6), .ref (r 7), .ref (r 8)], oO (r 6) 2 [.ref (a 6), .int (nI 0)], oO (r 7) 2 [.ref (a 7), .int (nI 0)], oO (r 8) 2 [.ref (a 8), .int (nI 0)], aI D (a 6) 16 (fun _ => 0), aI D (a 7) 16 (fun _ => 0), aI D (a 8) 16 (fun _ => 0), oO (t 3) 4 [.ref (r 9), .ref (r 10), .ref (r 11)], oO (r 9) 2 [.ref (a 9), .int (nI 0)], oO (r 10) 2 [.ref (a 10), .int (nI 0)], oO (r 11) 2 [.ref (a 11), .int (nI 0)], aI D (a 9) 16 (fun _ => 0), aI D (a 10) 16 (fun _ => 0), aI D (a 11) 16 (fun _ => 0)] H := hP
  have hD : va_D A [oO xo 5 [.ref lc, .ref lt, .ref bo, .ref yo, .ref no], oO lc 7 [.int m1, .ref ec, .int (nI nC)], aO D ec 10 (lsF cl nC), oO co 0 [.int x, .ref ta, .ref (q 0), .ref (q 1)], aT D ta 4 (tkF t), oO (q 0) 2 [.ref (b 0), .int (nI 0)], oO (q 1) 2 [.ref (b 1), .int (nI 0)], aI D (b 0) 8 (fun _ => 0), aI D (b 1) 8 (fun _ => 0), oO (t 0) 4 [.ref (r 0), .ref (r 1), .ref (r 2)], oO (r 0) 2 [.ref (a 0), .int (nI 0)], oO (r 1) 2 [.ref (a 1), .int (nI 0)], oO (r 2) 2 [.ref (a 2), .int (nI 0)], aI D (a 0) 16 (fun _ => 0), aI D (a 1) 16 (fun _ => 0), aI D (a 2) 16 (fun _ => 0), oO (t 1) 4 [.ref (r 3), .ref (r 4), .ref (r 5)], oO (r 3) 2 [.ref (a 3), .int (nI 0)], oO (r 4) 2 [.ref (a 4), .int (nI 0)], oO (r 5) 2 [.ref (a 5), .int (nI 0)], aI D (a 3) 16 (fun _ => 0), aI D (a 4) 16 (fun _ => 0), aI D (a 5) 16 (fun _ => 0), oO (t 2) 4 [.ref (r 6), .ref (r 7), .ref (r 8)], oO (r 6) 2 [.ref (a 6), .int (nI 0)], oO (r 7) 2 [.ref (a 7), .int (nI 0)], oO (r 8) 2 [.ref (a 8), .int (nI 0)], aI D (a 6) 16 (fun _ => 0), aI D (a 7) 16 (fun _ => 0), aI D (a 8) 16 (fun _ => 0), oO (t 3) 4 [.ref (r 9), .ref (r 10), .ref (r 11)], oO (r 9) 2 [.ref (a 9), .int (nI 0)], oO (r 10) 2 [.ref (a 10), .int (nI 0)], oO (r 11) 2 [.ref (a 11), .int (nI 0)], aI D (a 9) 16 (fun _ => 0), aI D (a 10) 16 (fun _ => 0), aI D (a 11) 16 (fun _ => 0)] := hD
  have hP9 := hP.sub (ws' := [oO lc 7 [.int m1, .ref ec, .int (nI nC)], aO D ec 10 (lsF cl nC), oO co 0 [.int x, .ref ta, .ref (q 0), .ref (q 1)]]) [1, 2, 3] rfl
  have hD9 := (hD.sub (ws' := [oO lc 7 [.int m1, .ref ec, .int (nI nC)], aO D ec 10 (lsF cl nC), oO co 0 [.int x, .ref ta, .ref (q 0), .ref (q 1)]]) [1, 2, 3] (by decide) rfl).weaken (B := fun _ => True) (fun _ _ _ _ => trivial)
  refine ki (wr := [oO xo 5 [.ref lc, .ref lt, .ref bo, .ref yo, .ref no], aT D ta 4 (tkF t), oO (q 0) 2 [.ref (b 0), .int (nI 0)], oO (q 1) 2 [.ref (b 1), .int (nI 0)], aI D (b 0) 8 (fun _ => 0), aI D (b 1) 8 (fun _ => 0), oO (t 0) 4 [.ref (r 0), .ref (r 1), .ref (r 2)], oO (r 0) 2 [.ref (a 0), .int (nI 0)], oO (r 1) 2 [.ref (a 1), .int (nI 0)], oO (r 2) 2 [.ref (a 2), .int (nI 0)], aI D (a 0) 16 (fun _ => 0), aI D (a 1) 16 (fun _ => 0), aI D (a 2) 16 (fun _ => 0), oO (t 1) 4 [.ref (r 3), .ref (r 4), .ref (r 5)], oO (r 3) 2 [.ref (a 3), .int (nI 0)], oO (r 4) 2 [.ref (a 4), .int (nI 0)], oO (r 5) 2 [.ref (a 5), .int (nI 0)], aI D (a 3) 16 (fun _ => 0), aI D (a 4) 16 (fun _ => 0), aI D (a 5) 16 (fun _ => 0), oO (t 2) 4 [.ref (r 6), .ref (r 7), .ref (r 8)], oO (r 6) 2 [.ref (a 6), .int (nI 0)], oO (r 7) 2 [.ref (a 7), .int (nI 0)], oO (r 8) 2 [.ref (a 8), .int (nI 0)], aI D (a 6) 16 (fun _ => 0), aI D (a 7) 16 (fun _ => 0), aI D (a 8) 16 (fun _ => 0), oO (t 3) 4 [.ref (r 9), .ref (r 10), .ref (r 11)], oO (r 9) 2 [.ref (a 9), .int (nI 0)], oO (r 10) 2 [.ref (a 10), .int (nI 0)], oO (r 11) 2 [.ref (a 11), .int (nI 0)], aI D (a 9) 16 (fun _ => 0), aI D (a 10) 16 (fun _ => 0), aI D (a 11) 16 (fun _ => 0)]) (rV (rest := []) (qc := (RJx4a65c, TJx4a65c, 3)) [.ref co] 1 0 0 hC (c_add_Clip l D (lo := lc) (vo := co) (mc := m1) (ea := ec) (n := nC) (k := 10) (f := lsF cl nC) (v0 := .int x) (v1 := .ref ta) (v2 := .ref (q 0)) (v3 := .ref (q 1)) (hz0 := H.size) (by omega) (by omega)) rfl (hP 1 _ rfl) (gV mM_X5_64 mI_Jx4a65c_add_9ea2d mS_Jx4a65c_add_9ea2d mN_Jx4a65c mC_Jx4a65c_add_9ea2d) (by decide +kernel) rfl rfl ⟨Nat.le_of_ble_eq_true rfl, Nat.le_of_ble_eq_true rfl⟩ hG hP9 hD9 rfl hl.1 rfl (Nat.le_of_ble_eq_true rfl) dX5_addClip_55 ⟨Nat.le_of_ble_eq_true rfl, Nat.le_of_ble_eq_true rfl⟩) hP hD hS hA [1, 2, 3] [0, 4, 5, 6, 7, 8, 9, 10, 11, 12, 13, 14, 15, 16, 17, 18, 19, 20, 21, 22, 23, 24, 25, 26, 27, 28, 29, 30, 31, 32, 33, 34, 35, 36] rfl rfl (by decide) (by decide) (fun r55 u55 H locs h55 hP hD hS hz hfr => ?_)
  have hP : va_P D cls [oO xo 5 [.ref lc, .ref lt, .ref bo, .ref yo, .ref no], aT D ta 4 (tkF t), oO (q 0) 2 [.ref (b 0), .int (nI 0)], oO (q 1) 2 [.ref (b 1), .int (nI 0)], aI D (b 0) 8 (fun _ => 0), aI D (b 1) 8 (fun _ => 0), oO (t 0) 4 [.ref (r 0), .ref (r 1), .ref (r 2)], oO (r 0) 2 [.ref (a 0), .int (nI 0)], oO (r 1) 2 [.ref (a 1), .int (nI 0)], oO (r 2) 2 [.ref (a 2), .int (nI 0)], aI D (a 0) 16 (fun _ => 0), aI D (a 1) 16 (fun _ => 0), aI D (a 2) 16 (fun _ => 0), oO (t 1) 4 [.ref (r 3), .ref (r 4), .ref (r 5)], oO (r 3) 2 [.ref (a 3), .int (nI 0)], oO (r 4) 2 [.ref (a 4), .int (nI 0)], oO (r 5) 2 [.ref (a 5), .int (nI 0)], aI D (a 3) 16 (fun _ => 0), aI D (a 4) 16 (fun _ => 0), aI D (a 5) 16 (fun _ => 0), oO (t 2) 4 [.ref (r 6), .ref (r 7), .ref (r 8)], oO (r 6) 2 [.ref (a 6), .int (nI 0)], oO (r 7) 2 [.ref (a 7), .int (nI 0)], oO (r 8) 2 [.ref (a 8), .int (nI 0)], aI D (a 6) 16 (fun _ => 0), aI D (a 7) 16 (fun _ => 0), aI D (a 8) 16 (fun _ => 0), oO (t 3) 4 [.ref (r 9), .ref (r 10), .ref (r 11)], oO (r 9) 2 [.ref (a 9), .int (nI 0)], oO (r 10) 2 [.ref (a 10), .int (nI 0)], oO (r 11) 2 [.ref (a 11), .int (nI 0)], aI D (a 9) 16 (fun _ => 0), aI D (a 10) 16 (fun _ => 0), aI D (a 11) 16 (fun _ => 0), oO lc 7 [.int (m1 + 1), .ref ec, .int (nI (nC + 1))], aO D ec 10 (va_up (lsF cl nC) nC (some co)), oO co 0 [(.int x), (.ref ta), (.ref (q 0)), (.ref (q 1))]] H := hP
  have hD : va_D A [oO xo 5 [.ref lc, .ref lt, .ref bo, .ref yo, .ref no], aT D ta 4 (tkF t), oO (q 0) 2 [.ref (b 0), .int (nI 0)], oO (q 1) 2 [.ref (b 1), .int (nI 0)], aI D (b 0) 8 (fun _ => 0), aI D (b 1) 8 (fun _ => 0), oO (t 0) 4 [.ref (r 0), .ref (r 1), .ref (r 2)], oO (r 0) 2 [.ref (a 0), .int (nI 0)], oO (r 1) 2 [.ref (a 1), .int (nI 0)], oO (r 2) 2 [.ref (a 2), .int (nI 0)], aI D (a 0) 16 (fun _ => 0), aI D (a 1) 16 (fun _ => 0), aI D (a 2) 16 (fun _ => 0), oO (t 1) 4 [.ref (r 3), .ref (r 4), .ref (r 5)], oO (r 3) 2 [.ref (a 3), .int (nI 0)], oO (r 4) 2 [.ref (a 4), .int (nI 0)], oO (r 5) 2 [.ref (a 5), .int (nI 0)], aI D (a 3) 16 (fun _ => 0), aI D (a 4) 16 (fun _ => 0), aI D (a 5) 16 (fun _ => 0), oO (t 2) 4 [.ref (r 6), .ref (r 7), .ref (r 8)], oO (r 6) 2 [.ref (a 6), .int (nI 0)], oO (r 7) 2 [.ref (a 7), .int (nI 0)], oO (r 8) 2 [.ref (a 8), .int (nI 0)], aI D (a 6) 16 (fun _ => 0), aI D (a 7) 16 (fun _ => 0), aI D (a 8) 16 (fun _ => 0), oO (t 3) 4 [.ref (r 9), .ref (r 10), .ref (r 11)], oO (r 9) 2 [.ref (a 9), .int (nI 0)], oO (r 10) 2 [.ref (a 10), .int (nI 0)], oO (r 11) 2 [.ref (a 11), .int (nI 0)], aI D (a 9) 16 (fun _ => 0), aI D (a 10) 16 (fun _ => 0), aI D (a 11) 16 (fun _ => 0), oO lc 7 [.int (m1 + 1), .ref ec, .int (nI (nC + 1))], aO D ec 10 (va_up (lsF cl nC) nC (some co)), oO co 0 [(.int x), (.ref ta), (.ref (q 0)), (.ref (q 1))]] := hD
  subst h55
  refine lv_pop hx hb dX5_addClip_58 rfl ?_
  have hcv1 : (lsF (fun k => if k = nC then co else cl k) (nC + 1)) = (va_up (lsF cl nC) nC (some co)) := (lsF_add cl nC co).symm
  have hP := Eq.mpr (congrArg (fun z9 => va_P D cls [oO xo 5 [.ref lc, .ref lt, .ref bo, .ref yo, .ref no], aT D ta 4 (tkF t), oO (q 0) 2 [.ref (b 0), .int (nI 0)], oO (q 1) 2 [.ref (b 1), .int (nI 0)], aI D (b 0) 8 (fun _ => 0), aI D (b 1) 8 (fun _ => 0), oO (t 0) 4 [.ref (r 0), .ref (r 1), .ref (r 2)], oO (r 0) 2 [.ref (a 0), .int (nI 0)], oO (r 1) 2 [.ref (a 1), .int (nI 0)], oO (r 2) 2 [.ref (a 2), .int (nI 0)], aI D (a 0) 16 (fun _ => 0), aI D (a 1) 16 (fun _ => 0), aI D (a 2) 16 (fun _ => 0), oO (t 1) 4 [.ref (r 3), .ref (r 4), .ref (r 5)], oO (r 3) 2 [.ref (a 3), .int (nI 0)], oO (r 4) 2 [.ref (a 4), .int (nI 0)], oO (r 5) 2 [.ref (a 5), .int (nI 0)], aI D (a 3) 16 (fun _ => 0), aI D (a 4) 16 (fun _ => 0), aI D (a 5) 16 (fun _ => 0), oO (t 2) 4 [.ref (r 6), .ref (r 7), .ref (r 8)], oO (r 6) 2 [.ref (a 6), .int (nI 0)], oO (r 7) 2 [.ref (a 7), .int (nI 0)], oO (r 8) 2 [.ref (a 8), .int (nI 0)], aI D (a 6) 16 (fun _ => 0), aI D (a 7) 16 (fun _ => 0), aI D (a 8) 16 (fun _ => 0), oO (t 3) 4 [.ref (r 9), .ref (r 10), .ref (r 11)], oO (r 9) 2 [.ref (a 9), .int (nI 0)], oO (r 10) 2 [.ref (a 10), .int (nI 0)], oO (r 11) 2 [.ref (a 11), .int (nI 0)], aI D (a 9) 16 (fun _ => 0), aI D (a 10) 16 (fun _ => 0), aI D (a 11) 16 (fun _ => 0), oO lc 7 [.int (m1 + 1), .ref ec, .int (nI (nC + 1))], aO D ec 10 z9, oO co 0 [(.int x), (.ref ta), (.ref (q 0)), (.ref (q 1))]] H) hcv1) hP
  have hD := Eq.mpr (congrArg (fun z9 => va_D A [oO xo 5 [.ref lc, .ref lt, .ref bo, .ref yo, .ref no], aT D ta 4 (tkF t), oO (q 0) 2 [.ref (b 0), .int (nI 0)], oO (q 1) 2 [.ref (b 1), .int (nI 0)], aI D (b 0) 8 (fun _ => 0), aI D (b 1) 8 (fun _ => 0), oO (t 0) 4 [.ref (r 0), .ref (r 1), .ref (r 2)], oO (r 0) 2 [.ref (a 0), .int (nI 0)], oO (r 1) 2 [.ref (a 1), .int (nI 0)], oO (r 2) 2 [.ref (a 2), .int (nI 0)], aI D (a 0) 16 (fun _ => 0), aI D (a 1) 16 (fun _ => 0), aI D (a 2) 16 (fun _ => 0), oO (t 1) 4 [.ref (r 3), .ref (r 4), .ref (r 5)], oO (r 3) 2 [.ref (a 3), .int (nI 0)], oO (r 4) 2 [.ref (a 4), .int (nI 0)], oO (r 5) 2 [.ref (a 5), .int (nI 0)], aI D (a 3) 16 (fun _ => 0), aI D (a 4) 16 (fun _ => 0), aI D (a 5) 16 (fun _ => 0), oO (t 2) 4 [.ref (r 6), .ref (r 7), .ref (r 8)], oO (r 6) 2 [.ref (a 6), .int (nI 0)], oO (r 7) 2 [.ref (a 7), .int (nI 0)], oO (r 8) 2 [.ref (a 8), .int (nI 0)], aI D (a 6) 16 (fun _ => 0), aI D (a 7) 16 (fun _ => 0), aI D (a 8) 16 (fun _ => 0), oO (t 3) 4 [.ref (r 9), .ref (r 10), .ref (r 11)], oO (r 9) 2 [.ref (a 9), .int (nI 0)], oO (r 10) 2 [.ref (a 10), .int (nI 0)], oO (r 11) 2 [.ref (a 11), .int (nI 0)], aI D (a 9) 16 (fun _ => 0), aI D (a 10) 16 (fun _ => 0), aI D (a 11) 16 (fun _ => 0), oO lc 7 [.int (m1 + 1), .ref ec, .int (nI (nC + 1))], aO D ec 10 z9, oO co 0 [(.int x), (.ref ta), (.ref (q 0)), (.ref (q 1))]]) hcv1) hD
  have hP : va_P D cls [oO xo 5 [.ref lc, .ref lt, .ref bo, .ref yo, .ref no], aT D ta 4 (tkF t), oO (q 0) 2 [.ref (b 0), .int (nI 0)], oO (q 1) 2 [.ref (b 1), .int (nI 0)], aI D (b 0) 8 (fun _ => 0), aI D (b 1) 8 (fun _ => 0), oO (t 0) 4 [.ref (r 0), .ref (r 1), .ref (r 2)], oO (r 0) 2 [.ref (a 0), .int (nI 0)], oO (r 1) 2 [.ref (a 1), .int (nI 0)], oO (r 2) 2 [.ref (a 2), .int (nI 0)], aI D (a 0) 16 (fun _ => 0), aI D (a 1) 16 (fun _ => 0), aI D (a 2) 16 (fun _ => 0), oO (t 1) 4 [.ref (r 3), .ref (r 4), .ref (r 5)], oO (r 3) 2 [.ref (a 3), .int (nI 0)], oO (r 4) 2 [.ref (a 4), .int (nI 0)], oO (r 5) 2 [.ref (a 5), .int (nI 0)], aI D (a 3) 16 (fun _ => 0), aI D (a 4) 16 (fun _ => 0), aI D (a 5) 16 (fun _ => 0), oO (t 2) 4 [.ref (r 6), .ref (r 7), .ref (r 8)], oO (r 6) 2 [.ref (a 6), .int (nI 0)], oO (r 7) 2 [.ref (a 7), .int (nI 0)], oO (r 8) 2 [.ref (a 8), .int (nI 0)], aI D (a 6) 16 (fun _ => 0), aI D (a 7) 16 (fun _ => 0), aI D (a 8) 16 (fun _ => 0), oO (t 3) 4 [.ref (r 9), .ref (r 10), .ref (r 11)], oO (r 9) 2 [.ref (a 9), .int (nI 0)], oO (r 10) 2 [.ref (a 10), .int (nI 0)], oO (r 11) 2 [.ref (a 11), .int (nI 0)], aI D (a 9) 16 (fun _ => 0), aI D (a 10) 16 (fun _ => 0), aI D (a 11) 16 (fun _ => 0), oO lc 7 [.int (m1 + 1), .ref ec, .int (nI (nC + 1))], aO D ec 10 (lsF (fun k => if k = nC then co else cl k) (nC + 1)), oO co 0 [(.int x), (.ref ta), (.ref (q 0)), (.ref (q 1))]] H := hP
  have hD : va_D A [oO xo 5 [.ref lc, .ref lt, .ref bo, .ref yo, .ref no], aT D ta 4 (tkF t), oO (q 0) 2 [.ref (b 0), .int (nI 0)], oO (q 1) 2 [.ref (b 1), .int (nI 0)], aI D (b 0) 8 (fun _ => 0), aI D (b 1) 8 (fun _ => 0), oO (t 0) 4 [.ref (r 0), .ref (r 1), .ref (r 2)], oO (r 0) 2 [.ref (a 0), .int (nI 0)], oO (r 1) 2 [.ref (a 1), .int (nI 0)], oO (r 2) 2 [.ref (a 2), .int (nI 0)], aI D (a 0) 16 (fun _ => 0), aI D (a 1) 16 (fun _ => 0), aI D (a 2) 16 (fun _ => 0), oO (t 1) 4 [.ref (r 3), .ref (r 4), .ref (r 5)], oO (r 3) 2 [.ref (a 3), .int (nI 0)], oO (r 4) 2 [.ref (a 4), .int (nI 0)], oO (r 5) 2 [.ref (a 5), .int (nI 0)], aI D (a 3) 16 (fun _ => 0), aI D (a 4) 16 (fun _ => 0), aI D (a 5) 16 (fun _ => 0), oO (t 2) 4 [.ref (r 6), .ref (r 7), .ref (r 8)], oO (r 6) 2 [.ref (a 6), .int (nI 0)], oO (r 7) 2 [.ref (a 7), .int (nI 0)], oO (r 8) 2 [.ref (a 8), .int (nI 0)], aI D (a 6) 16 (fun _ => 0), aI D (a 7) 16 (fun _ => 0), aI D (a 8) 16 (fun _ => 0), oO (t 3) 4 [.ref (r 9), .ref (r 10), .ref (r 11)], oO (r 9) 2 [.ref (a 9), .int (nI 0)], oO (r 10) 2 [.ref (a 10), .int (nI 0)], oO (r 11) 2 [.ref (a 11), .int (nI 0)], aI D (a 9) 16 (fun _ => 0), aI D (a 10) 16 (fun _ => 0), aI D (a 11) 16 (fun _ => 0), oO lc 7 [.int (m1 + 1), .ref ec, .int (nI (nC + 1))], aO D ec 10 (lsF (fun k => if k = nC then co else cl k) (nC + 1)), oO co 0 [(.int x), (.ref ta), (.ref (q 0)), (.ref (q 1))]] := hD
  refine lv_aload_n hx hb dX5_addClip_59 rfl (lv_at hl 0 rfl) ?_
  refine va_get (D := D) (ci := 5) (v := .ref lc) (C := RX5) (T := TX5) (N := 5) hx hb hts inlX5 hown hG.K hP 0 rfl rfl 0 (by decide) (hts _ mF_X5_10) (fun _ h9 => h9) rfl dX5_addClip_60 ?_
  have hP9 := hP.sub (ws' := [oO lc 7 [.int (m1 + 1), .ref ec, .int (nI (nC + 1))]]) [34] rfl
  refine vp_callSi (pV (rest := []) (qc := (RJx4a65c, TJx4a65c, 3)) [] 0 hC (c_list_size l D (lo := lc) (mc := m1 + 1) (ea := ec) (n := nC + 1) ) rfl (hP 34 _ rfl) (gV mM_X5_52 mI_Jx4a65c_size_8abf5 mS_Jx4a65c_size_8abf5 mN_Jx4a65c mC_Jx4a65c_size_8abf5) (by decide +kernel) rfl rfl ⟨Nat.le_of_ble_eq_true rfl, Nat.le_of_ble_eq_true rfl⟩ hG hP9 rfl hl.1 rfl (Nat.le_of_ble_eq_true rfl) dX5_addClip_63 ⟨Nat.le_of_ble_eq_true rfl, Nat.le_of_ble_eq_true rfl⟩) (fun r63 h63 => ?_)
  obtain rfl : r63 = (nI (nC + 1)) := h63
  refine lv_iconst (v := 1) hx hb dX5_addClip_66 (by decide) ?_
  refine lv_isub hx hb dX5_addClip_67 ?_
  refine tpi (y := nI nC) (pk_sub (a := nC + 1) (b := 1) (by omega)) ?_
  refine Wi (co, ta, q, b, t, r, a) hx hb hr hlk ?_ (hP.sub [0, 34, 35, 36, 1, 2, 3, 4, 5, 6, 7, 8, 9, 10, 11, 12, 13, 14, 15, 16, 17, 18, 19, 20, 21, 22, 23, 24, 25, 26, 27, 28, 29, 30, 31, 32, 33] rfl) (hD.sub [0, 34, 35, 36, 1, 2, 3, 4, 5, 6, 7, 8, 9, 10, 11, 12, 13, 14, 15, 16, 17, 18, 19, 20, 21, 22, 23, 24, 25, 26, 27, 28, 29, 30, 31, 32, 33] (by decide) rfl) hS (Nat.le_of_ble_eq_true rfl) (by first | exact Nat.le_of_ble_eq_true rfl | exact Nat.le_of_eq (Nat.zero_add _)) dX5_addClip_68
  exact rfl
set_option maxHeartbeats 4000000 in
set_option maxRecDepth 100000 in
theorem c_addClip_first (l : Launch) (D : va_G) {xo lc lt bo yo no : Nat} {z : Nat} {m1 x : Int32} (hz0 : Nat) (h : 1 ≤ x ∧ x ≤ 2000) : Met l yX5_addClip (ws_ yX5_addClip cX5_addClip 2 (some .int)) ({ frames := 6, cells := 35, slots := 266, locals := 166 } : Room) (va_Pc [.ref xo, .int x] (SX D [oO xo 5 [.ref lc, .ref lt, .ref bo, .ref yo, .ref no], oO lc 7 [.int m1, .ref z, .int (nI 0)]] hz0 (ZL z (va_A [oO xo 5 [.ref lc, .ref lt, .ref bo, .ref yo, .ref no], oO lc 7 [.int m1, .ref z, .int (nI 0)]] hz0)))) (va_Qi (fun v _ => v = nI 0) (AT D (va_A [oO xo 5 [.ref lc, .ref lt, .ref bo, .ref yo, .ref no], oO lc 7 [.int m1, .ref z, .int (nI 0)]] hz0) (fun ((ec, co, ta, q, b, t, r, a) : Nat × Nat × Nat × (Nat → Nat) × (Nat → Nat) × (Nat → Nat) × (Nat → Nat) × (Nat → Nat)) => [oO xo 5 [.ref lc, .ref lt, .ref bo, .ref yo, .ref no], oO lc 7 [.int (m1 + 1), .ref ec, .int (nI 1)], aO D ec 10 (lsF (fun _ => co) 1), oO co 0 [.int x, .ref ta, .ref (q 0), .ref (q 1)], aT D ta 4 (tkF t), oO (q 0) 2 [.ref (b 0), .int (nI 0)], oO (q 1) 2 [.ref (b 1), .int (nI 0)], aI D (b 0) 8 (fun _ => 0), aI D (b 1) 8 (fun _ => 0), oO (t 0) 4 [.ref (r 0), .ref (r 1), .ref (r 2)], oO (r 0) 2 [.ref (a 0), .int (nI 0)], oO (r 1) 2 [.ref (a 1), .int (nI 0)], oO (r 2) 2 [.ref (a 2), .int (nI 0)], aI D (a 0) 16 (fun _ => 0), aI D (a 1) 16 (fun _ => 0), aI D (a 2) 16 (fun _ => 0), oO (t 1) 4 [.ref (r 3), .ref (r 4), .ref (r 5)], oO (r 3) 2 [.ref (a 3), .int (nI 0)], oO (r 4) 2 [.ref (a 4), .int (nI 0)], oO (r 5) 2 [.ref (a 5), .int (nI 0)], aI D (a 3) 16 (fun _ => 0), aI D (a 4) 16 (fun _ => 0), aI D (a 5) 16 (fun _ => 0), oO (t 2) 4 [.ref (r 6), .ref (r 7), .ref (r 8)], oO (r 6) 2 [.ref (a 6), .int (nI 0)], oO (r 7) 2 [.ref (a 7), .int (nI 0)], oO (r 8) 2 [.ref (a 8), .int (nI 0)], aI D (a 6) 16 (fun _ => 0), aI D (a 7) 16 (fun _ => 0), aI D (a 8) 16 (fun _ => 0), oO (t 3) 4 [.ref (r 9), .ref (r 10), .ref (r 11)], oO (r 9) 2 [.ref (a 9), .int (nI 0)], oO (r 10) 2 [.ref (a 10), .int (nI 0)], oO (r 11) 2 [.ref (a 11), .int (nI 0)], aI D (a 9) 16 (fun _ => 0), aI D (a 10) 16 (fun _ => 0), aI D (a 11) 16 (fun _ => 0)])) (va_A [oO xo 5 [.ref lc, .ref lt, .ref bo, .ref yo, .ref no], oO lc 7 [.int m1, .ref z, .int (nI 0)]] hz0)) 35 266 (va_A [oO xo 5 [.ref lc, .ref lt, .ref bo, .ref yo, .ref no], oO lc 7 [.int m1, .ref z, .int (nI 0)]] hz0) := by
  refine Met.ofW (cc := cX5_addClip) (maxL := 2) (ret := (some .int)) (by decide) rfl ?_
  intro p e s m args below meth c s₁ B hml hv
  obtain ⟨rfl, ⟨hsz, hG, hP, hD0⟩, hX⟩ := hv
  have hx := B.exec
  have hb := B.bytes
  have hr := B.returns
  have hts : ∀ w ∈ wsL_law, w.before _ s = true := fun w h => atoms_spec (ws := (ws_ yX5_addClip cX5_addClip 2 (some .int))) B.pre w (List.mem_cons_of_mem _ h)
  have hown : s.vm.findClass RX5 = some m.cls := findClass_of_methodNamed B.named
  have hlk := B.notSynchronized
  have hC : CallFix p m c cX5_addClip 2 s _ wsL_law RX5 := ⟨hx, hb, hml, hown, hts⟩
  subst hsz
  have hD := hD0.self (sz := s.heap.size)
  generalize hAe : va_A [oO xo 5 [.ref lc, .ref lt, .ref bo, .ref yo, .ref no], oO lc 7 [.int m1, .ref z, .int (nI 0)]] s.heap.size = A at hD hX ⊢
  have hA : ∀ q : Nat, s.heap.size ≤ q → A q := fun q h => by rw [← hAe]; exact Or.inr h
  have hS : va_S A s.heap s.heap [] := va_S.rf
  obtain ⟨H, hHe⟩ : ∃ H, H = s.heap := ⟨_, rfl⟩
  rw [← hHe] at hP
  have hS : va_S A s.heap H [] := by rw [hHe]; exact hS
  have hl := lv_entry ([.ref xo, .int x]) (n := 2) (Nat.le_of_ble_eq_true rfl)
  rw [lg_entry_eq]
  generalize (lg_sl ([.ref xo, .int x]) ++ List.replicate (2 - (lg_sl ([.ref xo, .int x])).length) Slot.unset).toArray = ls at hl ⊢
  have hl : lv_has ls 2 [(0, .ref xo), (1, .int x)] := hl
  rw [← hHe]
  refine lv_iload_n hx hb dX5_addClip_0 rfl (lv_at hl 1 rfl) ?_
  refine lv_iconst (v := 1) hx hb dX5_addClip_1 (by decide) ?_
  refine lv_sipush (v := 2000) hx hb dX5_addClip_2 (by decide) ?_
  have hP9 : va_P D cls [] H := fun k q h => by simp at h
  refine vp_callSi (pS (rest := []) [.int x, .int 1, .int 2000] 3 hC (c_isIn l D (x := x) (a := 1) (b := 2000) ) (gS mM_X5_41 mT_X5_isIn mN_X5 mC_X5_isIn) (by decide +kernel) rfl rfl ⟨Nat.le_of_ble_eq_true rfl, Nat.le_of_ble_eq_true rfl⟩ hG hP9 rfl hl.1 rfl (Nat.le_of_ble_eq_true rfl) dX5_addClip_5 ⟨Nat.le_of_ble_eq_true rfl, Nat.le_of_ble_eq_true rfl⟩) (fun r5 h5 => ?_)
  rcases h5 with ⟨rfl, hb5⟩ | ⟨rfl, hb5⟩
  rotate_left
  · exact absurd (h) hb5
  refine lv_if_ne (tgt := 21) hx hb dX5_addClip_8 (by decide) (fun _ => ?_) (fun h9 => absurd h9 (by decide))
  refine lv_aload_n hx hb dX5_addClip_21 rfl (lv_at hl 0 rfl) ?_
  refine va_get (D := D) (ci := 5) (v := .ref lc) (C := RX5) (T := TX5) (N := 5) hx hb hts inlX5 hown hG.K hP 0 rfl rfl 0 (by decide) (hts _ mF_X5_10) (fun _ h9 => h9) rfl dX5_addClip_22 ?_
  have hP9 := hP.sub (ws' := [oO lc 7 [.int m1, .ref z, .int (nI 0)]]) [1] rfl
  refine vp_callSi (pV (rest := []) (qc := (RJx4a65c, TJx4a65c, 3)) [] 0 hC (c_list_size l D (lo := lc) (mc := m1) (ea := z) (n := 0) ) rfl (hP 1 _ rfl) (gV mM_X5_52 mI_Jx4a65c_size_8abf5 mS_Jx4a65c_size_8abf5 mN_Jx4a65c mC_Jx4a65c_size_8abf5) (by decide +kernel) rfl rfl ⟨Nat.le_of_ble_eq_true rfl, Nat.le_of_ble_eq_true rfl⟩ hG hP9 rfl hl.1 rfl (Nat.le_of_ble_eq_true rfl) dX5_addClip_25 ⟨Nat.le_of_ble_eq_true rfl, Nat.le_of_ble_eq_true rfl⟩) (fun r25 h25 => ?_)
  obtain rfl : r25 = (nI 0) := h25
  refine lv_bipush (v := 6) hx hb dX5_addClip_28 (by decide) ?_
  refine lv_icmp_lt (tgt := 43) hx hb dX5_addClip_30 (by decide) (fun _ => ?_) (fun h9 => absurd ((nI_ltI (a := 0) (b := 6) (by omega) (by omega)).mpr (by omega)) h9)
  refine lv_aload_n hx hb dX5_addClip_43 rfl (lv_at hl 0 rfl) ?_
  refine va_get (D := D) (ci := 5) (v := .ref lc) (C := RX5) (T := TX5) (N := 5) hx hb hts inlX5 hown hG.K hP 0 rfl rfl 0 (by decide) (hts _ mF_X5_10) (fun _ h9 => h9) rfl dX5_addClip_44 ?_
  refine va_new (ci := 0) (fs := [.int 0, .null, .null, .null]) (C := RX0) (T := TX0) (N := 4) hx hb hts inlX0 tyX0 tyX0_ok hown (hts _ mK_X5_61) (hts _ mB_X0) (hts _ mN_X0) hG.K hP hD hS hA rfl (fun j hj => by rcases (show j = 0 ∨ j = 1 ∨ j = 2 ∨ j = 3 by omega) with rfl | rfl | rfl | rfl <;> rfl) (Nat.le_of_ble_eq_true rfl) (Nat.le_of_ble_eq_true rfl) dX5_addClip_47 (fun co H hP hD hS => ?_)
  have hP : va_P D cls [oO xo 5 [.ref lc, .ref lt, .ref bo, .ref yo, .ref no], oO lc 7 [.int m1, .ref z, .int (nI 0)], oO co 0 [.int 0, .null, .null, .null]] H := hP
  have hD : va_D A [oO xo 5 [.ref lc, .ref lt, .ref bo, .ref yo, .ref no], oO lc 7 [.int m1, .ref z, .int (nI 0)], oO co 0 [.int 0, .null, .null, .null]] := hD
  refine lv_dup hx hb dX5_addClip_50 rfl ?_
  refine lv_iload_n hx hb dX5_addClip_51 rfl (lv_at hl 1 rfl) ?_
  have hP9 := hP.sub (ws' := [oO co 0 [.int 0, .null, .null, .null]]) [2] rfl
  have hD9 := (hD.sub (ws' := [oO co 0 [.int 0, .null, .null, .null]]) [2] (by decide) rfl).weaken (B := fun _ => True) (fun _ _ _ _ => trivial)
  refine kv (wr := [oO xo 5 [.ref lc, .ref lt, .ref bo, .ref yo, .ref no], oO lc 7 [.int m1, .ref z, .int (nI 0)]]) (rI (rest := [.ref co, .ref lc]) [.int x] 1 33 252 hC (c_Clip_init l D (co := co) (len := x) (hz0 := H.size) ) mM_X5_63 mI_X0_init mN_X0 mC_X0_init rfl (by decide +kernel) rfl rfl ⟨Nat.le_of_ble_eq_true rfl, Nat.le_of_ble_eq_true rfl⟩ hG hP9 hD9 rfl hl.1 rfl (Nat.le_of_ble_eq_true rfl) dX5_addClip_52 ⟨Nat.le_of_ble_eq_true rfl, Nat.le_of_ble_eq_true rfl⟩) hP hD hS hA [2] [0, 1] rfl rfl (by decide) (by decide) (fun u52 H locs h52 hP hD hS hz hfr => ?_)
  obtain ⟨ta, q, b, t, r, a⟩ := u52
  have hP : va_P D cls [oO xo 5 [.ref lc, .ref lt, .ref bo, .ref yo, .ref no], oO lc 7 [.int m1, .ref z, .int (nI 0)], oO co 0 [.int x, .ref ta, .ref (q 0), .ref (q 1)], aT D ta 4 (tkF t), oO (q 0) 2 [.ref (b 0), .int (nI 0)], oO (q 1) 2 [.ref (b 1), .int (nI 0)], aI D (b 0) 8 (fun _ => 0), aI D (b 1) 8 (fun _ => 0), oO (t 0) 4 [.ref (r 0), .ref (r 1), .ref (r 2)], oO (r 0) 2 [.ref (a 0), .int (nI 0)], oO (r 1) 2 [.ref (a 1), .int (nI 0)], oO (r 2) 2 [.ref (a 2), .int (nI 0)], aI D (a 0) 16 (fun _ => 0), aI D (a 1) 16 (fun _ => 0), aI D (a 2) 16 (fun _ => 0), oO (t 1) 4 [.ref (r 3), .ref (r 4), .ref (r 5)], oO (r 3) 2 [.ref (a 3), .int (nI 0)], oO (r 4) 2 [.ref (a 4), .int (nI 0)], oO (r 5) 2 [.ref (a 5), .int (nI 0)], aI D (a 3) 16 (fun _ => 0), aI D (a 4) 16 (fun _ => 0), aI D (a 5) 16 (fun _ => 0), oO (t 2) 4 [.ref (r 6), .ref (r 7), .ref (r 8)], oO (r 6) 2 [.ref (a 6), .int (nI 0)], oO (r 7) 2 [.ref (a 7), .int (nI 0)], oO (r 8) 2 [.ref (a 8), .int (nI 0)], aI D (a 6) 16 (fun _ => 0), aI D (a 7) 16 (fun _ => 0), aI D (a 8) 16 (fun _ => 0), oO (t 3) 4 [.ref (r 9), .ref (r 10), .ref (r 11)], oO (r 9) 2 [.ref (a 9), .int (nI 0)], oO (r 10) 2 [.ref (a 10), .int (nI 0)], oO (r 11) 2 [.ref (a 11), .int (nI 0)], aI D (a 9) 16 (fun _ => 0), aI D (a 10) 16 (fun _ => 0), aI D (a 11) 16 (fun _ => 0)] H := hP
  have hD : va_D A [oO xo 5 [.ref lc, .ref lt, .ref bo, .ref yo, .ref no], oO lc 7 [.int m1, .ref z, .int (nI 0)], oO co 0 [.int x, .ref ta, .ref (q 0), .ref (q 1)], aT D ta 4 (tkF t), oO (q 0) 2 [.ref (b 0), .int (nI 0)], oO (q 1) 2 [.ref (b 1), .int (nI 0)], aI D (b 0) 8 (fun _ => 0), aI D (b 1) 8 (fun _ => 0), oO (t 0) 4 [.ref (r 0), .ref (r 1), .ref (r 2)], oO (r 0) 2 [.ref (a 0), .int (nI 0)], oO (r 1) 2 [.ref (a 1), .int (nI 0)], oO (r 2) 2 [.ref (a 2), .int (nI 0)], aI D (a 0) 16 (fun _ => 0), aI D (a 1) 16 (fun _ => 0), aI D (a 2) 16 (fun _ => 0), oO (t 1) 4 [.ref (r 3), .ref (r 4), .ref (r 5)], oO (r 3) 2 [.ref (a 3), .int (nI 0)], oO (r 4) 2 [.ref (a 4), .int (nI 0)], oO (r 5) 2 [.ref (a 5), .int (nI 0)], aI D (a 3) 16 (fun _ => 0), aI D (a 4) 16 (fun _ => 0), aI D (a 5) 16 (fun _ => 0), oO (t 2) 4 [.ref (r 6), .ref (r 7), .ref (r 8)], oO (r 6) 2 [.ref (a 6), .int (nI 0)], oO (r 7) 2 [.ref (a 7), .int (nI 0)], oO (r 8) 2 [.ref (a 8), .int (nI 0)], aI D (a 6) 16 (fun _ => 0), aI D (a 7) 16 (fun _ => 0), aI D (a 8) 16 (fun _ => 0), oO (t 3) 4 [.ref (r 9), .ref (r 10), .ref (r 11)], oO (r 9) 2 [.ref (a 9), .int (nI 0)], oO (r 10) 2 [.ref (a 10), .int (nI 0)], oO (r 11) 2 [.ref (a 11), .int (nI 0)], aI D (a 9) 16 (fun _ => 0), aI D (a 10) 16 (fun _ => 0), aI D (a 11) 16 (fun _ => 0)] := hD
  have hP9 := hP.sub (ws' := [oO lc 7 [.int m1, .ref z, .int (nI 0)], oO co 0 [.int x, .ref ta, .ref (q 0), .ref (q 1)]]) [1, 2] rfl
  have hD9 := (hD.sub (ws' := [oO lc 7 [.int m1, .ref z, .int (nI 0)], oO co 0 [.int x, .ref ta, .ref (q 0), .ref (q 1)]]) [1, 2] (by decide) rfl).weaken (B := fun _ => True) (fun _ _ _ _ => trivial)
  refine ki (wr := [oO xo 5 [.ref lc, .ref lt, .ref bo, .ref yo, .ref no], aT D ta 4 (tkF t), oO (q 0) 2 [.ref (b 0), .int (nI 0)], oO (q 1) 2 [.ref (b 1), .int (nI 0)], aI D (b 0) 8 (fun _ => 0), aI D (b 1) 8 (fun _ => 0), oO (t 0) 4 [.ref (r 0), .ref (r 1), .ref (r 2)], oO (r 0) 2 [.ref (a 0), .int (nI 0)], oO (r 1) 2 [.ref (a 1), .int (nI 0)], oO (r 2) 2 [.ref (a 2), .int (nI 0)], aI D (a 0) 16 (fun _ => 0), aI D (a 1) 16 (fun _ => 0), aI D (a 2) 16 (fun _ => 0), oO (t 1) 4 [.ref (r 3), .ref (r 4), .ref (r 5)], oO (r 3) 2 [.ref (a 3), .int (nI 0)], oO (r 4) 2 [.ref (a 4), .int (nI 0)], oO (r 5) 2 [.ref (a 5), .int (nI 0)], aI D (a 3) 16 (fun _ => 0), aI D (a 4) 16 (fun _ => 0), aI D (a 5) 16 (fun _ => 0), oO (t 2) 4 [.ref (r 6), .ref (r 7), .ref (r 8)], oO (r 6) 2 [.ref (a 6), .int (nI 0)], oO (r 7) 2 [.ref (a 7), .int (nI 0)], oO (r 8) 2 [.ref (a 8), .int (nI 0)], aI D (a 6) 16 (fun _ => 0), aI D (a 7) 16 (fun _ => 0), aI D (a 8) 16 (fun _ => 0), oO (t 3) 4 [.ref (r 9), .ref (r 10), .ref (r 11)], oO (r 9) 2 [.ref (a 9), .int (nI 0)], oO (r 10) 2 [.ref (a 10), .int (nI 0)], oO (r 11) 2 [.ref (a 11), .int (nI 0)], aI D (a 9) 16 (fun _ => 0), aI D (a 10) 16 (fun _ => 0), aI D (a 11) 16 (fun _ => 0)]) (rVX (ZL.blind) (ZL.pre hX hS (va_free' hD hS hA [1, 2] rfl).2) (rest := []) (qc := (RJx4a65c, TJx4a65c, 3)) [.ref co] 1 1 10 hC (c_add_first_Clip l D (lo := lc) (vo := co) (mc := m1) (z := z) (v0 := .int x) (v1 := .ref ta) (v2 := .ref (q 0)) (v3 := .ref (q 1)) (hz0 := H.size) ) rfl (hP 1 _ rfl) (gV mM_X5_64 mI_Jx4a65c_add_9ea2d mS_Jx4a65c_add_9ea2d mN_Jx4a65c mC_Jx4a65c_add_9ea2d) (by decide +kernel) rfl rfl ⟨Nat.le_of_ble_eq_true rfl, Nat.le_of_ble_eq_true rfl⟩ hG hP9 hD9 rfl hl.1 rfl (Nat.le_of_ble_eq_true rfl) dX5_addClip_55 ⟨Nat.le_of_ble_eq_true rfl, Nat.le_of_ble_eq_true rfl⟩) hP hD hS hA [1, 2] [0, 3, 4, 5, 6, 7, 8, 9, 10, 11, 12, 13, 14, 15, 16, 17, 18, 19, 20, 21, 22, 23, 24, 25, 26, 27, 28, 29, 30, 31, 32, 33, 34, 35] rfl rfl (by decide) (by decide) (fun r55 u55 H locs h55 hP hD hS hz hfr => ?_)
  obtain ⟨ec, rfl⟩ : ∃ z, z = u55 := ⟨_, rfl⟩
  have hP : va_P D cls [oO xo 5 [.ref lc, .ref lt, .ref bo, .ref yo, .ref no], aT D ta 4 (tkF t), oO (q 0) 2 [.ref (b 0), .int (nI 0)], oO (q 1) 2 [.ref (b 1), .int (nI 0)], aI D (b 0) 8 (fun _ => 0), aI D (b 1) 8 (fun _ => 0), oO (t 0) 4 [.ref (r 0), .ref (r 1), .ref (r 2)], oO (r 0) 2 [.ref (a 0), .int (nI 0)], oO (r 1) 2 [.ref (a 1), .int (nI 0)], oO (r 2) 2 [.ref (a 2), .int (nI 0)], aI D (a 0) 16 (fun _ => 0), aI D (a 1) 16 (fun _ => 0), aI D (a 2) 16 (fun _ => 0), oO (t 1) 4 [.ref (r 3), .ref (r 4), .ref (r 5)], oO (r 3) 2 [.ref (a 3), .int (nI 0)], oO (r 4) 2 [.ref (a 4), .int (nI 0)], oO (r 5) 2 [.ref (a 5), .int (nI 0)], aI D (a 3) 16 (fun _ => 0), aI D (a 4) 16 (fun _ => 0), aI D (a 5) 16 (fun _ => 0), oO (t 2) 4 [.ref (r 6), .ref (r 7), .ref (r 8)], oO (r 6) 2 [.ref (a 6), .int (nI 0)], oO (r 7) 2 [.ref (a 7), .int (nI 0)], oO (r 8) 2 [.ref (a 8), .int (nI 0)], aI D (a 6) 16 (fun _ => 0), aI D (a 7) 16 (fun _ => 0), aI D (a 8) 16 (fun _ => 0), oO (t 3) 4 [.ref (r 9), .ref (r 10), .ref (r 11)], oO (r 9) 2 [.ref (a 9), .int (nI 0)], oO (r 10) 2 [.ref (a 10), .int (nI 0)], oO (r 11) 2 [.ref (a 11), .int (nI 0)], aI D (a 9) 16 (fun _ => 0), aI D (a 10) 16 (fun _ => 0), aI D (a 11) 16 (fun _ => 0), oO lc 7 [.int (m1 + 1), .ref ec, .int (nI 1)], aO D ec 10 (va_up (fun _ => none) 0 (some co)), oO co 0 [(.int x), (.ref ta), (.ref (q 0)), (.ref (q 1))]] H := hP
  have hD : va_D A [oO xo 5 [.ref lc, .ref lt, .ref bo, .ref yo, .ref no], aT D ta 4 (tkF t), oO (q 0) 2 [.ref (b 0), .int (nI 0)], oO (q 1) 2 [.ref (b 1), .int (nI 0)], aI D (b 0) 8 (fun _ => 0), aI D (b 1) 8 (fun _ => 0), oO (t 0) 4 [.ref (r 0), .ref (r 1), .ref (r 2)], oO (r 0) 2 [.ref (a 0), .int (nI 0)], oO (r 1) 2 [.ref (a 1), .int (nI 0)], oO (r 2) 2 [.ref (a 2), .int (nI 0)], aI D (a 0) 16 (fun _ => 0), aI D (a 1) 16 (fun _ => 0), aI D (a 2) 16 (fun _ => 0), oO (t 1) 4 [.ref (r 3), .ref (r 4), .ref (r 5)], oO (r 3) 2 [.ref (a 3), .int (nI 0)], oO (r 4) 2 [.ref (a 4), .int (nI 0)], oO (r 5) 2 [.ref (a 5), .int (nI 0)], aI D (a 3) 16 (fun _ => 0), aI D (a 4) 16 (fun _ => 0), aI D (a 5) 16 (fun _ => 0), oO (t 2) 4 [.ref (r 6), .ref (r 7), .ref (r 8)], oO (r 6) 2 [.ref (a 6), .int (nI 0)], oO (r 7) 2 [.ref (a 7), .int (nI 0)], oO (r 8) 2 [.ref (a 8), .int (nI 0)], aI D (a 6) 16 (fun _ => 0), aI D (a 7) 16 (fun _ => 0), aI D (a 8) 16 (fun _ => 0), oO (t 3) 4 [.ref (r 9), .ref (r 10), .ref (r 11)], oO (r 9) 2 [.ref (a 9), .int (nI 0)], oO (r 10) 2 [.ref (a 10), .int (nI 0)], oO (r 11) 2 [.ref (a 11), .int (nI 0)], aI D (a 9) 16 (fun _ => 0), aI D (a 10) 16 (fun _ => 0), aI D (a 11) 16 (fun _ => 0), oO lc 7 [.int (m1 + 1), .ref ec, .int (nI 1)], aO D ec 10 (va_up (fun _ => none) 0 (some co)), oO co 0 [(.int x), (.ref ta), (.ref (q 0)), (.ref (q 1))]] := hD
  subst h55
  refine lv_pop hx hb dX5_addClip_58 rfl ?_
  have hcv1 : (lsF (fun _ => co) 1) = (va_up (fun _ => none) 0 (some co)) := (lsF_1 co).symm
  have hP := Eq.mpr (congrArg (fun z9 => va_P D cls [oO xo 5 [.ref lc, .ref lt, .ref bo, .ref yo, .ref no], aT D ta 4 (tkF t), oO (q 0) 2 [.ref (b 0), .int (nI 0)], oO (q 1) 2 [.ref (b 1), .int (nI 0)], aI D (b 0) 8 (fun _ => 0), aI D (b 1) 8 (fun _ => 0), oO (t 0) 4 [.ref (r 0), .ref (r 1), .ref (r 2)], oO (r 0) 2 [.ref (a 0), .int (nI 0)], oO (r 1) 2 [.ref (a 1), .int (nI 0)], oO (r 2) 2 [.ref (a 2), .int (nI 0)], aI D (a 0) 16 (fun _ => 0), aI D (a 1) 16 (fun _ => 0), aI D (a 2) 16 (fun _ => 0), oO (t 1) 4 [.ref (r 3), .ref (r 4), .ref (r 5)], oO (r 3) 2 [.ref (a 3), .int (nI 0)], oO (r 4) 2 [.ref (a 4), .int (nI 0)], oO (r 5) 2 [.ref (a 5), .int (nI 0)], aI D (a 3) 16 (fun _ => 0), aI D (a 4) 16 (fun _ => 0), aI D (a 5) 16 (fun _ => 0), oO (t 2) 4 [.ref (r 6), .ref (r 7), .ref (r 8)], oO (r 6) 2 [.ref (a 6), .int (nI 0)], oO (r 7) 2 [.ref (a 7), .int (nI 0)], oO (r 8) 2 [.ref (a 8), .int (nI 0)], aI D (a 6) 16 (fun _ => 0), aI D (a 7) 16 (fun _ => 0), aI D (a 8) 16 (fun _ => 0), oO (t 3) 4 [.ref (r 9), .ref (r 10), .ref (r 11)], oO (r 9) 2 [.ref (a 9), .int (nI 0)], oO (r 10) 2 [.ref (a 10), .int (nI 0)], oO (r 11) 2 [.ref (a 11), .int (nI 0)], aI D (a 9) 16 (fun _ => 0), aI D (a 10) 16 (fun _ => 0), aI D (a 11) 16 (fun _ => 0), oO lc 7 [.int (m1 + 1), .ref ec, .int (nI 1)], aO D ec 10 z9, oO co 0 [(.int x), (.ref ta), (.ref (q 0)), (.ref (q 1))]] H) hcv1) hP
  have hD := Eq.mpr (congrArg (fun z9 => va_D A [oO xo 5 [.ref lc, .ref lt, .ref bo, .ref yo, .ref no], aT D ta 4 (tkF t), oO (q 0) 2 [.ref (b 0), .int (nI 0)], oO (q 1) 2 [.ref (b 1), .int (nI 0)], aI D (b 0) 8 (fun _ => 0), aI D (b 1) 8 (fun _ => 0), oO (t 0) 4 [.ref (r 0), .ref (r 1), .ref (r 2)], oO (r 0) 2 [.ref (a 0), .int (nI 0)], oO (r 1) 2 [.ref (a 1), .int (nI 0)], oO (r 2) 2 [.ref (a 2), .int (nI 0)], aI D (a 0) 16 (fun _ => 0), aI D (a 1) 16 (fun _ => 0), aI D (a 2) 16 (fun _ => 0), oO (t 1) 4 [.ref (r 3), .ref (r 4), .ref (r 5)], oO (r 3) 2 [.ref (a 3), .int (nI 0)], oO (r 4) 2 [.ref (a 4), .int (nI 0)], oO (r 5) 2 [.ref (a 5), .int (nI 0)], aI D (a 3) 16 (fun _ => 0), aI D (a 4) 16 (fun _ => 0), aI D (a 5) 16 (fun _ => 0), oO (t 2) 4 [.ref (r 6), .ref (r 7), .ref (r 8)], oO (r 6) 2 [.ref (a 6), .int (nI 0)], oO (r 7) 2 [.ref (a 7), .int (nI 0)], oO (r 8) 2 [.ref (a 8), .int (nI 0)], aI D (a 6) 16 (fun _ => 0), aI D (a 7) 16 (fun _ => 0), aI D (a 8) 16 (fun _ => 0), oO (t 3) 4 [.ref (r 9), .ref (r 10), .ref (r 11)], oO (r 9) 2 [.ref (a 9), .int (nI 0)], oO (r 10) 2 [.ref (a 10), .int (nI 0)], oO (r 11) 2 [.ref (a 11), .int (nI 0)], aI D (a 9) 16 (fun _ => 0), aI D (a 10) 16 (fun _ => 0), aI D (a 11) 16 (fun _ => 0), oO lc 7 [.int (m1 + 1), .ref ec, .int (nI 1)], aO D ec 10 z9, oO co 0 [(.int x), (.ref ta), (.ref (q 0)), (.ref (q 1))]]) hcv1) hD
  have hP : va_P D cls [oO xo 5 [.ref lc, .ref lt, .ref bo, .ref yo, .ref no], aT D ta 4 (tkF t), oO (q 0) 2 [.ref (b 0), .int (nI 0)], oO (q 1) 2 [.ref (b 1), .int (nI 0)], aI D (b 0) 8 (fun _ => 0), aI D (b 1) 8 (fun _ => 0), oO (t 0) 4 [.ref (r 0), .ref (r 1), .ref (r 2)], oO (r 0) 2 [.ref (a 0), .int (nI 0)], oO (r 1) 2 [.ref (a 1), .int (nI 0)], oO (r 2) 2 [.ref (a 2), .int (nI 0)], aI D (a 0) 16 (fun _ => 0), aI D (a 1) 16 (fun _ => 0), aI D (a 2) 16 (fun _ => 0), oO (t 1) 4 [.ref (r 3), .ref (r 4), .ref (r 5)], oO (r 3) 2 [.ref (a 3), .int (nI 0)], oO (r 4) 2 [.ref (a 4), .int (nI 0)], oO (r 5) 2 [.ref (a 5), .int (nI 0)], aI D (a 3) 16 (fun _ => 0), aI D (a 4) 16 (fun _ => 0), aI D (a 5) 16 (fun _ => 0), oO (t 2) 4 [.ref (r 6), .ref (r 7), .ref (r 8)], oO (r 6) 2 [.ref (a 6), .int (nI 0)], oO (r 7) 2 [.ref (a 7), .int (nI 0)], oO (r 8) 2 [.ref (a 8), .int (nI 0)], aI D (a 6) 16 (fun _ => 0), aI D (a 7) 16 (fun _ => 0), aI D (a 8) 16 (fun _ => 0), oO (t 3) 4 [.ref (r 9), .ref (r 10), .ref (r 11)], oO (r 9) 2 [.ref (a 9), .int (nI 0)], oO (r 10) 2 [.ref (a 10), .int (nI 0)], oO (r 11) 2 [.ref (a 11), .int (nI 0)], aI D (a 9) 16 (fun _ => 0), aI D (a 10) 16 (fun _ => 0), aI D (a 11) 16 (fun _ => 0), oO lc 7 [.int (m1 + 1), .ref ec, .int (nI 1)], aO D ec 10 (lsF (fun _ => co) 1), oO co 0 [(.int x), (.ref ta), (.ref (q 0)), (.ref (q 1))]] H := hP
  have hD : va_D A [oO xo 5 [.ref lc, .ref lt, .ref bo, .ref yo, .ref no], aT D ta 4 (tkF t), oO (q 0) 2 [.ref (b 0), .int (nI 0)], oO (q 1) 2 [.ref (b 1), .int (nI 0)], aI D (b 0) 8 (fun _ => 0), aI D (b 1) 8 (fun _ => 0), oO (t 0) 4 [.ref (r 0), .ref (r 1), .ref (r 2)], oO (r 0) 2 [.ref (a 0), .int (nI 0)], oO (r 1) 2 [.ref (a 1), .int (nI 0)], oO (r 2) 2 [.ref (a 2), .int (nI 0)], aI D (a 0) 16 (fun _ => 0), aI D (a 1) 16 (fun _ => 0), aI D (a 2) 16 (fun _ => 0), oO (t 1) 4 [.ref (r 3), .ref (r 4), .ref (r 5)], oO (r 3) 2 [.ref (a 3), .int (nI 0)], oO (r 4) 2 [.ref (a 4), .int (nI 0)], oO (r 5) 2 [.ref (a 5), .int (nI 0)], aI D (a 3) 16 (fun _ => 0), aI D (a 4) 16 (fun _ => 0), aI D (a 5) 16 (fun _ => 0), oO (t 2) 4 [.ref (r 6), .ref (r 7), .ref (r 8)], oO (r 6) 2 [.ref (a 6), .int (nI 0)], oO (r 7) 2 [.ref (a 7), .int (nI 0)], oO (r 8) 2 [.ref (a 8), .int (nI 0)], aI D (a 6) 16 (fun _ => 0), aI D (a 7) 16 (fun _ => 0), aI D (a 8) 16 (fun _ => 0), oO (t 3) 4 [.ref (r 9), .ref (r 10), .ref (r 11)], oO (r 9) 2 [.ref (a 9), .int (nI 0)], oO (r 10) 2 [.ref (a 10), .int (nI 0)], oO (r 11) 2 [.ref (a 11), .int (nI 0)], aI D (a 9) 16 (fun _ => 0), aI D (a 10) 16 (fun _ => 0), aI D (a 11) 16 (fun _ => 0), oO lc 7 [.int (m1 + 1), .ref ec, .int (nI 1)], aO D ec 10 (lsF (fun _ => co) 1), oO co 0 [(.int x), (.ref ta), (.ref (q 0)), (.ref (q 1))]] := hD
  refine lv_aload_n hx hb dX5_addClip_59 rfl (lv_at hl 0 rfl) ?_
  refine va_get (D := D) (ci := 5) (v := .ref lc) (C := RX5) (T := TX5) (N := 5) hx hb hts inlX5 hown hG.K hP 0 rfl rfl 0 (by decide) (hts _ mF_X5_10) (fun _ h9 => h9) rfl dX5_addClip_60 ?_
  have hP9 := hP.sub (ws' := [oO lc 7 [.int (m1 + 1), .ref ec, .int (nI 1)]]) [34] rfl
  refine vp_callSi (pV (rest := []) (qc := (RJx4a65c, TJx4a65c, 3)) [] 0 hC (c_list_size l D (lo := lc) (mc := m1 + 1) (ea := ec) (n := 1) ) rfl (hP 34 _ rfl) (gV mM_X5_52 mI_Jx4a65c_size_8abf5 mS_Jx4a65c_size_8abf5 mN_Jx4a65c mC_Jx4a65c_size_8abf5) (by decide +kernel) rfl rfl ⟨Nat.le_of_ble_eq_true rfl, Nat.le_of_ble_eq_true rfl⟩ hG hP9 rfl hl.1 rfl (Nat.le_of_ble_eq_true rfl) dX5_addClip_63 ⟨Nat.le_of_ble_eq_true rfl, Nat.le_of_ble_eq_true rfl⟩) (fun r63 h63 => ?_)
  obtain rfl : r63 = (nI 1) := h63
  refine lv_iconst (v := 1) hx hb dX5_addClip_66 (by decide) ?_
  refine lv_isub hx hb dX5_addClip_67 ?_
  refine tpi (y := nI 0) (by decide) ?_
  refine Wi (ec, co, ta, q, b, t, r, a) hx hb hr hlk ?_ (hP.sub [0, 34, 35, 36, 1, 2, 3, 4, 5, 6, 7, 8, 9, 10, 11, 12, 13, 14, 15, 16, 17, 18, 19, 20, 21, 22, 23, 24, 25, 26, 27, 28, 29, 30, 31, 32, 33] rfl) (hD.sub [0, 34, 35, 36, 1, 2, 3, 4, 5, 6, 7, 8, 9, 10, 11, 12, 13, 14, 15, 16, 17, 18, 19, 20, 21, 22, 23, 24, 25, 26, 27, 28, 29, 30, 31, 32, 33] (by decide) rfl) hS (Nat.le_of_ble_eq_true rfl) (by first | exact Nat.le_of_ble_eq_true rfl | exact Nat.le_of_eq (Nat.zero_add _)) dX5_addClip_68
  exact rfl
set_option maxHeartbeats 4000000 in
set_option maxRecDepth 100000 in
theorem c_key_set (l : Launch) (D : va_G) {xo lc lt bo yo no : Nat} {ec nC c0 : Nat} {m1 : Int32} {cl : Nat → Nat} {ta : Nat} {len : Int32} {q t : Nat → Nat} {j r1 r2 r3 a1 a2 a3 sz : Nat} {ft fv fe : Nat → Int32} {tm vl es : Int32} (hz0 : Nat) (hnC : nC ≤ 6) (hc : c0 < nC) (hj : j < 4) (h : (0 ≤ tm ∧ tm ≤ len) ∧ (-10000 ≤ vl ∧ vl ≤ 10000) ∧ (0 ≤ es ∧ es ≤ 4)) (hs : sz ≤ 16) (hp : 0 < cntLe ft tm sz ∧ ft (cntLe ft tm sz - 1) = tm) : Met l yX5_key (ws_ yX5_key cX5_key 8 (some .int)) ({ frames := 6, cells := 0, slots := 0, locals := 110 } : Room) (va_Pc [.ref xo, .int (nI c0), .int (nI j), .int tm, .int vl, .int es] (SW D [oO xo 5 [.ref lc, .ref lt, .ref bo, .ref yo, .ref no], oO lc 7 [.int m1, .ref ec, .int (nI nC)], aO D ec 10 (lsF cl nC), oO (cl c0) 0 [.int len, .ref ta, .ref (q 0), .ref (q 1)], aT D ta 4 (tkF t), oO (t j) 4 [.ref r1, .ref r2, .ref r3], oO r1 2 [.ref a1, .int (nI sz)], oO r2 2 [.ref a2, .int (nI sz)], oO r3 2 [.ref a3, .int (nI sz)], aI D a1 16 ft, aI D a2 16 fv, aI D a3 16 fe] hz0)) (va_Qi (fun v _ => v = nI sz) (AT D (va_A [oO xo 5 [.ref lc, .ref lt, .ref bo, .ref yo, .ref no], oO lc 7 [.int m1, .ref ec, .int (nI nC)], aO D ec 10 (lsF cl nC), oO (cl c0) 0 [.int len, .ref ta, .ref (q 0), .ref (q 1)], aT D ta 4 (tkF t), oO (t j) 4 [.ref r1, .ref r2, .ref r3], oO r1 2 [.ref a1, .int (nI sz)], oO r2 2 [.ref a2, .int (nI sz)], oO r3 2 [.ref a3, .int (nI sz)], aI D a1 16 ft, aI D a2 16 fv, aI D a3 16 fe] hz0) (fun _ : Unit => [oO xo 5 [.ref lc, .ref lt, .ref bo, .ref yo, .ref no], oO lc 7 [.int m1, .ref ec, .int (nI nC)], aO D ec 10 (lsF cl nC), oO (cl c0) 0 [.int len, .ref ta, .ref (q 0), .ref (q 1)], aT D ta 4 (tkF t), oO (t j) 4 [.ref r1, .ref r2, .ref r3], oO r1 2 [.ref a1, .int (nI sz)], oO r2 2 [.ref a2, .int (nI sz)], oO r3 2 [.ref a3, .int (nI sz)], aI D a1 16 ft, aI D a2 16 (upd fv (cntLe ft tm sz - 1) vl), aI D a3 16 (upd fe (cntLe ft tm sz - 1) es)])) (va_A [oO xo 5 [.ref lc, .ref lt, .ref bo, .ref yo, .ref no], oO lc 7 [.int m1, .ref ec, .int (nI nC)], aO D ec 10 (lsF cl nC), oO (cl c0) 0 [.int len, .ref ta, .ref (q 0), .ref (q 1)], aT D ta 4 (tkF t), oO (t j) 4 [.ref r1, .ref r2, .ref r3], oO r1 2 [.ref a1, .int (nI sz)], oO r2 2 [.ref a2, .int (nI sz)], oO r3 2 [.ref a3, .int (nI sz)], aI D a1 16 ft, aI D a2 16 fv, aI D a3 16 fe] hz0)) 0 0 (va_A [oO xo 5 [.ref lc, .ref lt, .ref bo, .ref yo, .ref no], oO lc 7 [.int m1, .ref ec, .int (nI nC)], aO D ec 10 (lsF cl nC), oO (cl c0) 0 [.int len, .ref ta, .ref (q 0), .ref (q 1)], aT D ta 4 (tkF t), oO (t j) 4 [.ref r1, .ref r2, .ref r3], oO r1 2 [.ref a1, .int (nI sz)], oO r2 2 [.ref a2, .int (nI sz)], oO r3 2 [.ref a3, .int (nI sz)], aI D a1 16 ft, aI D a2 16 fv, aI D a3 16 fe] hz0) := by
  refine Met.ofW (cc := cX5_key) (maxL := 8) (ret := (some .int)) (by decide) rfl ?_
  intro p e s m args below meth c s₁ B hml hv
  obtain ⟨rfl, hsz, hG, hP, hD0⟩ := hv
  have hx := B.exec
  have hb := B.bytes
  have hr := B.returns
  have hts : ∀ w ∈ wsL_law, w.before _ s = true := fun w h => atoms_spec (ws := (ws_ yX5_key cX5_key 8 (some .int))) B.pre w (List.mem_cons_of_mem _ h)
  have hown : s.vm.findClass RX5 = some m.cls := findClass_of_methodNamed B.named
  have hlk := B.notSynchronized
  have hC : CallFix p m c cX5_key 8 s _ wsL_law RX5 := ⟨hx, hb, hml, hown, hts⟩
  subst hsz
  have hD := hD0.self (sz := s.heap.size)
  generalize hAe : va_A [oO xo 5 [.ref lc, .ref lt, .ref bo, .ref yo, .ref no], oO lc 7 [.int m1, .ref ec, .int (nI nC)], aO D ec 10 (lsF cl nC), oO (cl c0) 0 [.int len, .ref ta, .ref (q 0), .ref (q 1)], aT D ta 4 (tkF t), oO (t j) 4 [.ref r1, .ref r2, .ref r3], oO r1 2 [.ref a1, .int (nI sz)], oO r2 2 [.ref a2, .int (nI sz)], oO r3 2 [.ref a3, .int (nI sz)], aI D a1 16 ft, aI D a2 16 fv, aI D a3 16 fe] s.heap.size = A at hD ⊢
  have hA : ∀ q : Nat, s.heap.size ≤ q → A q := fun q h => by rw [← hAe]; exact Or.inr h
  have hS : va_S A s.heap s.heap [] := va_S.rf
  obtain ⟨H, hHe⟩ : ∃ H, H = s.heap := ⟨_, rfl⟩
  rw [← hHe] at hP
  have hS : va_S A s.heap H [] := by rw [hHe]; exact hS
  have hl := lv_entry ([.ref xo, .int (nI c0), .int (nI j), .int tm, .int vl, .int es]) (n := 8) (Nat.le_of_ble_eq_true rfl)
  rw [lg_entry_eq]
  generalize (lg_sl ([.ref xo, .int (nI c0), .int (nI j), .int tm, .int vl, .int es]) ++ List.replicate (8 - (lg_sl ([.ref xo, .int (nI c0), .int (nI j), .int tm, .int vl, .int es])).length) Slot.unset).toArray = ls at hl ⊢
  have hl : lv_has ls 8 [(0, .ref xo), (1, .int (nI c0)), (2, .int (nI j)), (3, .int tm), (4, .int vl), (5, .int es)] := hl
  rw [← hHe]
  refine lv_aload_n hx hb dX5_key_0 rfl (lv_at hl 0 rfl) ?_
  refine lv_iload_n hx hb dX5_key_1 rfl (lv_at hl 1 rfl) ?_
  have hP9 := hP.sub (ws' := [oO xo 5 [.ref lc, .ref lt, .ref bo, .ref yo, .ref no], oO lc 7 [.int m1, .ref ec, .int (nI nC)], aO D ec 10 (lsF cl nC), oO (cl c0) 0 [.int len, .ref ta, .ref (q 0), .ref (q 1)]]) [0, 1, 2, 3] rfl
  refine va_csq (pV (rest := []) (qc := (RX5, TX5, 5)) [.int (nI c0)] 1 hC (c_clipOrNull l D (xo := xo) (c0 := c0) (lc := lc) (lt := lt) (bo := bo) (yo := yo) (no := no) (m1 := m1) (ec := ec) (nC := nC) (len := len) (ta := ta) (by omega) (by omega)) rfl (hP 0 _ rfl) (gV mM_X5_68 mI_X5_clipOrNull mS_X5_clipOrNull mN_X5 mC_X5_clipOrNull) (by decide +kernel) rfl rfl ⟨Nat.le_of_ble_eq_true rfl, Nat.le_of_ble_eq_true rfl⟩ hG hP9 rfl hl.1 rfl (Nat.le_of_ble_eq_true rfl) dX5_key_2 ⟨Nat.le_of_ble_eq_true rfl, Nat.le_of_ble_eq_true rfl⟩) (fun r2 h2 => ?_)
  obtain rfl : r2 = (some (cl c0)) := h2
  refine tpv (y := .ref (cl c0)) rfl ?_
  refine lv_astore (lv' := [(6, .ref (cl c0)), (0, .ref xo), (1, .int (nI c0)), (2, .int (nI j)), (3, .int tm), (4, .int vl), (5, .int es)]) hx hb dX5_key_5 hl (by decide) rfl (fun ls hl => ?_)
  refine lv_aload hx hb dX5_key_7 (lv_at hl 0 rfl) ?_
  refine lv_iload_n hx hb dX5_key_9 rfl (lv_at hl 3 rfl) ?_
  have hP9 := hP.sub (ws' := [oO (cl c0) 0 [.int len, .ref ta, .ref (q 0), .ref (q 1)], aT D ta 4 (tkF t)]) [3, 4] rfl
  refine va_csq (pS (rest := []) [.ref (cl c0), .int (nI j)] 2 hC (c_trk l D (co := cl c0) (j := j) (len := len) (ta := ta) (by omega)) (gS mM_X5_87 mT_X5_trackOrNull mN_X5 mC_X5_trackOrNull) (by decide +kernel) rfl rfl ⟨Nat.le_of_ble_eq_true rfl, Nat.le_of_ble_eq_true rfl⟩ hG hP9 rfl hl.1 rfl (Nat.le_of_ble_eq_true rfl) dX5_key_10 ⟨Nat.le_of_ble_eq_true rfl, Nat.le_of_ble_eq_true rfl⟩) (fun r10 h10 => ?_)
  obtain rfl : r10 = (some (t j)) := h10
  refine tpv (y := .ref (t j)) rfl ?_
  refine lv_astore (lv' := [(7, .ref (t j)), (6, .ref (cl c0)), (0, .ref xo), (1, .int (nI c0)), (2, .int (nI j)), (3, .int tm), (4, .int vl), (5, .int es)]) hx hb dX5_key_13 hl (by decide) rfl (fun ls hl => ?_)
  refine lv_aload hx hb dX5_key_15 (lv_at hl 1 rfl) ?_
  refine lv_ifnull hx hb dX5_key_17 ?_
  refine lv_aload hx hb dX5_key_20 (lv_at hl 0 rfl) ?_
  refine lv_ifnonnull (tgt := 35) hx hb dX5_key_22 (by decide) ?_
  refine lv_iload_n hx hb dX5_key_35 rfl (lv_at hl 5 rfl) ?_
  refine lv_iconst (v := 0) hx hb dX5_key_36 (by decide) ?_
  refine lv_aload hx hb dX5_key_37 (lv_at hl 1 rfl) ?_
  refine va_getN (D := D) (ci := 0) (v := .int len) (C := RX0) (T := TX0) (N := 4) hx hb hts inlX0 hown hG.K hP 3 rfl rfl 0 (by decide) (va_Nw.use rfl (nF_KeyStage_77 hG)) (fun _ h9 => h9) rfl dX5_key_39 ?_
  have hP9 : va_P D cls [] H := fun k q h => by simp at h
  refine vp_callSi (pS (rest := []) [.int tm, .int 0, .int len] 3 hC (c_isIn l D (x := tm) (a := 0) (b := len) ) (gS mM_X5_41 mT_X5_isIn mN_X5 mC_X5_isIn) (by decide +kernel) rfl rfl ⟨Nat.le_of_ble_eq_true rfl, Nat.le_of_ble_eq_true rfl⟩ hG hP9 rfl hl.1 rfl (Nat.le_of_ble_eq_true rfl) dX5_key_42 ⟨Nat.le_of_ble_eq_true rfl, Nat.le_of_ble_eq_true rfl⟩) (fun r42 h42 => ?_)
  rcases h42 with ⟨rfl, hb42⟩ | ⟨rfl, hb42⟩
  rotate_left
  · exact absurd (h.1) hb42
  refine lv_if_eq (tgt := 66) hx hb dX5_key_45 (by decide) (fun h9 => absurd h9 (by decide)) (fun _ => ?_)
  refine lv_iload hx hb dX5_key_48 (lv_at hl 6 rfl) ?_
  have hP9 : va_P D cls [] H := fun k q h => by simp at h
  refine vp_callSi (pS (rest := []) [.int vl] 1 hC (c_isValue l D (x := vl) ) (gS mM_X5_93 mT_X5_isValue mN_X5 mC_X5_isValue) (by decide +kernel) rfl rfl ⟨Nat.le_of_ble_eq_true rfl, Nat.le_of_ble_eq_true rfl⟩ hG hP9 rfl hl.1 rfl (Nat.le_of_ble_eq_true rfl) dX5_key_50 ⟨Nat.le_of_ble_eq_true rfl, Nat.le_of_ble_eq_true rfl⟩) (fun r50 h50 => ?_)
  rcases h50 with ⟨rfl, hb50⟩ | ⟨rfl, hb50⟩
  rotate_left
  · exact absurd (h.2.1) hb50
  refine lv_if_eq (tgt := 66) hx hb dX5_key_53 (by decide) (fun h9 => absurd h9 (by decide)) (fun _ => ?_)
  refine lv_iload hx hb dX5_key_56 (lv_at hl 7 rfl) ?_
  refine lv_iconst (v := 0) hx hb dX5_key_58 (by decide) ?_
  refine lv_iconst (v := 4) hx hb dX5_key_59 (by decide) ?_
  have hP9 : va_P D cls [] H := fun k q h => by simp at h
  refine vp_callSi (pS (rest := []) [.int es, .int 0, .int 4] 3 hC (c_isIn l D (x := es) (a := 0) (b := 4) ) (gS mM_X5_41 mT_X5_isIn mN_X5 mC_X5_isIn) (by decide +kernel) rfl rfl ⟨Nat.le_of_ble_eq_true rfl, Nat.le_of_ble_eq_true rfl⟩ hG hP9 rfl hl.1 rfl (Nat.le_of_ble_eq_true rfl) dX5_key_60 ⟨Nat.le_of_ble_eq_true rfl, Nat.le_of_ble_eq_true rfl⟩) (fun r60 h60 => ?_)
  rcases h60 with ⟨rfl, hb60⟩ | ⟨rfl, hb60⟩
  rotate_left
  · exact absurd (h.2.2) hb60
  refine lv_if_ne (tgt := 76) hx hb dX5_key_63 (by decide) (fun _ => ?_) (fun h9 => absurd h9 (by decide))
  refine lv_aload hx hb dX5_key_76 (lv_at hl 0 rfl) ?_
  have hP9 := hP.sub (ws' := [oO (t j) 4 [.ref r1, .ref r2, .ref r3], oO r1 2 [.ref a1, .int (nI sz)], oO r2 2 [.ref a2, .int (nI sz)], oO r3 2 [.ref a3, .int (nI sz)], aI D a1 16 ft, aI D a2 16 fv, aI D a3 16 fe]) [5, 6, 7, 8, 9, 10, 11] rfl
  refine vp_callSi (pV (rest := []) (qc := (RX4, TX4, 3)) [] 0 hC (c_count l D (t := t j) (r1 := r1) (r2 := r2) (r3 := r3) (a1 := a1) (sz := sz) (a2 := a2) (a3 := a3) (ft := ft) (fv := fv) (fe := fe) ) rfl (hP 5 _ rfl) (gV mM_X5_99 mI_X4_count mS_X4_count mN_X4 mC_X4_count) (by decide +kernel) rfl rfl ⟨Nat.le_of_ble_eq_true rfl, Nat.le_of_ble_eq_true rfl⟩ hG hP9 rfl hl.1 rfl (Nat.le_of_ble_eq_true rfl) dX5_key_78 ⟨Nat.le_of_ble_eq_true rfl, Nat.le_of_ble_eq_true rfl⟩) (fun r78 h78 => ?_)
  obtain rfl : r78 = (nI sz) := h78
  refine lv_bipush (v := 16) hx hb dX5_key_81 (by decide) ?_
  refine lv_icmp_lt (tgt := 105) hx hb dX5_key_83 (by decide) (fun c83 => ?_) (fun c83 => ?_)
  · skip
    have n83 := (nI_ltI (a := sz) (b := 16) (by omega) (by omega)).mp c83
    refine lv_aload hx hb dX5_key_105 (lv_at hl 0 rfl) ?_
    refine lv_iload_n hx hb dX5_key_107 rfl (lv_at hl 5 rfl) ?_
    refine lv_iload hx hb dX5_key_108 (lv_at hl 6 rfl) ?_
    refine lv_iload hx hb dX5_key_110 (lv_at hl 7 rfl) ?_
    have hP9 := hP.sub (ws' := [oO (t j) 4 [.ref r1, .ref r2, .ref r3], oO r1 2 [.ref a1, .int (nI sz)], oO r2 2 [.ref a2, .int (nI sz)], oO r3 2 [.ref a3, .int (nI sz)], aI D a1 16 ft, aI D a2 16 fv, aI D a3 16 fe]) [5, 6, 7, 8, 9, 10, 11] rfl
    have hD9 := (hD.sub (ws' := [oO (t j) 4 [.ref r1, .ref r2, .ref r3], oO r1 2 [.ref a1, .int (nI sz)], oO r2 2 [.ref a2, .int (nI sz)], oO r3 2 [.ref a3, .int (nI sz)], aI D a1 16 ft, aI D a2 16 fv, aI D a3 16 fe]) [5, 6, 7, 8, 9, 10, 11] (by decide) rfl).weaken (B := fun _ => True) (fun _ _ _ _ => trivial)
    refine kv (wr := [oO xo 5 [.ref lc, .ref lt, .ref bo, .ref yo, .ref no], oO lc 7 [.int m1, .ref ec, .int (nI nC)], aO D ec 10 (lsF cl nC), oO (cl c0) 0 [.int len, .ref ta, .ref (q 0), .ref (q 1)], aT D ta 4 (tkF t)]) (rV (rest := []) (qc := (RX4, TX4, 3)) [.int tm, .int vl, .int es] 3 0 0 hC (c_lay_set l D (t := t j) (x := tm) (y := vl) (z := es) (r1 := r1) (r2 := r2) (r3 := r3) (a1 := a1) (sz := sz) (a2 := a2) (a3 := a3) (ft := ft) (fv := fv) (fe := fe) (hz0 := H.size) (by omega) (hp)) rfl (hP 5 _ rfl) (gV mM_X5_109 mI_X4_lay mS_X4_lay mN_X4 mC_X4_lay) (by decide +kernel) rfl rfl ⟨Nat.le_of_ble_eq_true rfl, Nat.le_of_ble_eq_true rfl⟩ hG hP9 hD9 rfl hl.1 rfl (Nat.le_of_ble_eq_true rfl) dX5_key_112 ⟨Nat.le_of_ble_eq_true rfl, Nat.le_of_ble_eq_true rfl⟩) hP hD hS hA [5, 6, 7, 8, 9, 10, 11] [0, 1, 2, 3, 4] rfl rfl (by decide) (by decide) (fun u112 H locs h112 hP hD hS hz hfr => ?_)
    have hP : va_P D cls [oO xo 5 [.ref lc, .ref lt, .ref bo, .ref yo, .ref no], oO lc 7 [.int m1, .ref ec, .int (nI nC)], aO D ec 10 (lsF cl nC), oO (cl c0) 0 [.int len, .ref ta, .ref (q 0), .ref (q 1)], aT D ta 4 (tkF t), oO (t j) 4 [.ref r1, .ref r2, .ref r3], oO r1 2 [.ref a1, .int (nI sz)], oO r2 2 [.ref a2, .int (nI sz)], oO r3 2 [.ref a3, .int (nI sz)], aI D a1 16 ft, aI D a2 16 (upd fv (cntLe ft tm sz - 1) vl), aI D a3 16 (upd fe (cntLe ft tm sz - 1) es)] H := hP
    have hD : va_D A [oO xo 5 [.ref lc, .ref lt, .ref bo, .ref yo, .ref no], oO lc 7 [.int m1, .ref ec, .int (nI nC)], aO D ec 10 (lsF cl nC), oO (cl c0) 0 [.int len, .ref ta, .ref (q 0), .ref (q 1)], aT D ta 4 (tkF t), oO (t j) 4 [.ref r1, .ref r2, .ref r3], oO r1 2 [.ref a1, .int (nI sz)], oO r2 2 [.ref a2, .int (nI sz)], oO r3 2 [.ref a3, .int (nI sz)], aI D a1 16 ft, aI D a2 16 (upd fv (cntLe ft tm sz - 1) vl), aI D a3 16 (upd fe (cntLe ft tm sz - 1) es)] := hD
    refine lv_aload hx hb dX5_key_115 (lv_at hl 0 rfl) ?_
    have hP9 := hP.sub (ws' := [oO (t j) 4 [.ref r1, .ref r2, .ref r3], oO r1 2 [.ref a1, .int (nI sz)], oO r2 2 [.ref a2, .int (nI sz)], oO r3 2 [.ref a3, .int (nI sz)], aI D a1 16 ft, aI D a2 16 (upd fv (cntLe ft tm sz - 1) vl), aI D a3 16 (upd fe (cntLe ft tm sz - 1) es)]) [5, 6, 7, 8, 9, 10, 11] rfl
    refine vp_callSi (pV (rest := []) (qc := (RX4, TX4, 3)) [] 0 hC (c_count l D (t := t j) (r1 := r1) (r2 := r2) (r3 := r3) (a1 := a1) (sz := sz) (a2 := a2) (a3 := a3) (ft := ft) (fv := upd fv (cntLe ft tm sz - 1) vl) (fe := upd fe (cntLe ft tm sz - 1) es) ) rfl (hP 5 _ rfl) (gV mM_X5_99 mI_X4_count mS_X4_count mN_X4 mC_X4_count) (by decide +kernel) rfl rfl ⟨Nat.le_of_ble_eq_true rfl, Nat.le_of_ble_eq_true rfl⟩ hG hP9 rfl hl.1 rfl (Nat.le_of_ble_eq_true rfl) dX5_key_117 ⟨Nat.le_of_ble_eq_true rfl, Nat.le_of_ble_eq_true rfl⟩) (fun r117 h117 => ?_)
    obtain rfl : r117 = (nI sz) := h117
    refine Wi () hx hb hr hlk ?_ hP hD hS (Nat.le_of_ble_eq_true rfl) (by first | exact Nat.le_of_ble_eq_true rfl | exact Nat.le_of_eq (Nat.zero_add _)) dX5_key_120
    exact rfl
  · skip
    have n83 := mt (nI_ltI (a := sz) (b := 16) (by omega) (by omega)).mpr c83
    refine lv_aload hx hb dX5_key_86 (lv_at hl 0 rfl) ?_
    refine lv_iload_n hx hb dX5_key_88 rfl (lv_at hl 5 rfl) ?_
    have hP9 := hP.sub (ws' := [oO (t j) 4 [.ref r1, .ref r2, .ref r3], oO r1 2 [.ref a1, .int (nI sz)], oO r2 2 [.ref a2, .int (nI sz)], oO r3 2 [.ref a3, .int (nI sz)], aI D a1 16 ft, aI D a2 16 fv, aI D a3 16 fe]) [5, 6, 7, 8, 9, 10, 11] rfl
    refine vp_callSi (pV (rest := []) (qc := (RX4, TX4, 3)) [.int tm] 1 hC (c_hasKeyAt l D (t := t j) (x := tm) (r1 := r1) (r2 := r2) (r3 := r3) (a1 := a1) (sz := sz) (a2 := a2) (a3 := a3) (ft := ft) (fv := fv) (fe := fe) (by omega)) rfl (hP 5 _ rfl) (gV mM_X5_104 mI_X4_hasKeyAt mS_X4_hasKeyAt mN_X4 mC_X4_hasKeyAt) (by decide +kernel) rfl rfl ⟨Nat.le_of_ble_eq_true rfl, Nat.le_of_ble_eq_true rfl⟩ hG hP9 rfl hl.1 rfl (Nat.le_of_ble_eq_true rfl) dX5_key_89 ⟨Nat.le_of_ble_eq_true rfl, Nat.le_of_ble_eq_true rfl⟩) (fun r89 h89 => ?_)
    rcases h89 with ⟨rfl, hb89⟩ | ⟨rfl, hb89⟩
    rotate_left
    · exact absurd (hp) hb89
    refine lv_if_ne (tgt := 105) hx hb dX5_key_92 (by decide) (fun _ => ?_) (fun h9 => absurd h9 (by decide))
    refine lv_aload hx hb dX5_key_105 (lv_at hl 0 rfl) ?_
    refine lv_iload_n hx hb dX5_key_107 rfl (lv_at hl 5 rfl) ?_
    refine lv_iload hx hb dX5_key_108 (lv_at hl 6 rfl) ?_
    refine lv_iload hx hb dX5_key_110 (lv_at hl 7 rfl) ?_
    have hP9 := hP.sub (ws' := [oO (t j) 4 [.ref r1, .ref r2, .ref r3], oO r1 2 [.ref a1, .int (nI sz)], oO r2 2 [.ref a2, .int (nI sz)], oO r3 2 [.ref a3, .int (nI sz)], aI D a1 16 ft, aI D a2 16 fv, aI D a3 16 fe]) [5, 6, 7, 8, 9, 10, 11] rfl
    have hD9 := (hD.sub (ws' := [oO (t j) 4 [.ref r1, .ref r2, .ref r3], oO r1 2 [.ref a1, .int (nI sz)], oO r2 2 [.ref a2, .int (nI sz)], oO r3 2 [.ref a3, .int (nI sz)], aI D a1 16 ft, aI D a2 16 fv, aI D a3 16 fe]) [5, 6, 7, 8, 9, 10, 11] (by decide) rfl).weaken (B := fun _ => True) (fun _ _ _ _ => trivial)
    refine kv (wr := [oO xo 5 [.ref lc, .ref lt, .ref bo, .ref yo, .ref no], oO lc 7 [.int m1, .ref ec, .int (nI nC)], aO D ec 10 (lsF cl nC), oO (cl c0) 0 [.int len, .ref ta, .ref (q 0), .ref (q 1)], aT D ta 4 (tkF t)]) (rV (rest := []) (qc := (RX4, TX4, 3)) [.int tm, .int vl, .int es] 3 0 0 hC (c_lay_set l D (t := t j) (x := tm) (y := vl) (z := es) (r1 := r1) (r2 := r2) (r3 := r3) (a1 := a1) (sz := sz) (a2 := a2) (a3 := a3) (ft := ft) (fv := fv) (fe := fe) (hz0 := H.size) (by omega) (hp)) rfl (hP 5 _ rfl) (gV mM_X5_109 mI_X4_lay mS_X4_lay mN_X4 mC_X4_lay) (by decide +kernel) rfl rfl ⟨Nat.le_of_ble_eq_true rfl, Nat.le_of_ble_eq_true rfl⟩ hG hP9 hD9 rfl hl.1 rfl (Nat.le_of_ble_eq_true rfl) dX5_key_112 ⟨Nat.le_of_ble_eq_true rfl, Nat.le_of_ble_eq_true rfl⟩) hP hD hS hA [5, 6, 7, 8, 9, 10, 11] [0, 1, 2, 3, 4] rfl rfl (by decide) (by decide) (fun u112 H locs h112 hP hD hS hz hfr => ?_)
    have hP : va_P D cls [oO xo 5 [.ref lc, .ref lt, .ref bo, .ref yo, .ref no], oO lc 7 [.int m1, .ref ec, .int (nI nC)], aO D ec 10 (lsF cl nC), oO (cl c0) 0 [.int len, .ref ta, .ref (q 0), .ref (q 1)], aT D ta 4 (tkF t), oO (t j) 4 [.ref r1, .ref r2, .ref r3], oO r1 2 [.ref a1, .int (nI sz)], oO r2 2 [.ref a2, .int (nI sz)], oO r3 2 [.ref a3, .int (nI sz)], aI D a1 16 ft, aI D a2 16 (upd fv (cntLe ft tm sz - 1) vl), aI D a3 16 (upd fe (cntLe ft tm sz - 1) es)] H := hP
    have hD : va_D A [oO xo 5 [.ref lc, .ref lt, .ref bo, .ref yo, .ref no], oO lc 7 [.int m1, .ref ec, .int (nI nC)], aO D ec 10 (lsF cl nC), oO (cl c0) 0 [.int len, .ref ta, .ref (q 0), .ref (q 1)], aT D ta 4 (tkF t), oO (t j) 4 [.ref r1, .ref r2, .ref r3], oO r1 2 [.ref a1, .int (nI sz)], oO r2 2 [.ref a2, .int (nI sz)], oO r3 2 [.ref a3, .int (nI sz)], aI D a1 16 ft, aI D a2 16 (upd fv (cntLe ft tm sz - 1) vl), aI D a3 16 (upd fe (cntLe ft tm sz - 1) es)] := hD
    refine lv_aload hx hb dX5_key_115 (lv_at hl 0 rfl) ?_
    have hP9 := hP.sub (ws' := [oO (t j) 4 [.ref r1, .ref r2, .ref r3], oO r1 2 [.ref a1, .int (nI sz)], oO r2 2 [.ref a2, .int (nI sz)], oO r3 2 [.ref a3, .int (nI sz)], aI D a1 16 ft, aI D a2 16 (upd fv (cntLe ft tm sz - 1) vl), aI D a3 16 (upd fe (cntLe ft tm sz - 1) es)]) [5, 6, 7, 8, 9, 10, 11] rfl
    refine vp_callSi (pV (rest := []) (qc := (RX4, TX4, 3)) [] 0 hC (c_count l D (t := t j) (r1 := r1) (r2 := r2) (r3 := r3) (a1 := a1) (sz := sz) (a2 := a2) (a3 := a3) (ft := ft) (fv := upd fv (cntLe ft tm sz - 1) vl) (fe := upd fe (cntLe ft tm sz - 1) es) ) rfl (hP 5 _ rfl) (gV mM_X5_99 mI_X4_count mS_X4_count mN_X4 mC_X4_count) (by decide +kernel) rfl rfl ⟨Nat.le_of_ble_eq_true rfl, Nat.le_of_ble_eq_true rfl⟩ hG hP9 rfl hl.1 rfl (Nat.le_of_ble_eq_true rfl) dX5_key_117 ⟨Nat.le_of_ble_eq_true rfl, Nat.le_of_ble_eq_true rfl⟩) (fun r117 h117 => ?_)
    obtain rfl : r117 = (nI sz) := h117
    refine Wi () hx hb hr hlk ?_ hP hD hS (Nat.le_of_ble_eq_true rfl) (by first | exact Nat.le_of_ble_eq_true rfl | exact Nat.le_of_eq (Nat.zero_add _)) dX5_key_120
    exact rfl
set_option maxHeartbeats 4000000 in
set_option maxRecDepth 100000 in
theorem c_key_ins (l : Launch) (D : va_G) {xo lc lt bo yo no : Nat} {ec nC c0 : Nat} {m1 : Int32} {cl : Nat → Nat} {ta : Nat} {len : Int32} {q t : Nat → Nat} {j r1 r2 r3 a1 a2 a3 sz : Nat} {ft fv fe : Nat → Int32} {tm vl es : Int32} (hz0 : Nat) (hnC : nC ≤ 6) (hc : c0 < nC) (hj : j < 4) (h : (0 ≤ tm ∧ tm ≤ len) ∧ (-10000 ≤ vl ∧ vl ≤ 10000) ∧ (0 ≤ es ∧ es ≤ 4)) (hs : sz < 16) (hp : ¬ (0 < cntLe ft tm sz ∧ ft (cntLe ft tm sz - 1) = tm)) : Met l yX5_key (ws_ yX5_key cX5_key 8 (some .int)) ({ frames := 6, cells := 0, slots := 0, locals := 110 } : Room) (va_Pc [.ref xo, .int (nI c0), .int (nI j), .int tm, .int vl, .int es] (SW D [oO xo 5 [.ref lc, .ref lt, .ref bo, .ref yo, .ref no], oO lc 7 [.int m1, .ref ec, .int (nI nC)], aO D ec 10 (lsF cl nC), oO (cl c0) 0 [.int len, .ref ta, .ref (q 0), .ref (q 1)], aT D ta 4 (tkF t), oO (t j) 4 [.ref r1, .ref r2, .ref r3], oO r1 2 [.ref a1, .int (nI sz)], oO r2 2 [.ref a2, .int (nI sz)], oO r3 2 [.ref a3, .int (nI sz)], aI D a1 16 ft, aI D a2 16 fv, aI D a3 16 fe] hz0)) (va_Qi (fun v _ => v = nI (sz + 1)) (AT D (va_A [oO xo 5 [.ref lc, .ref lt, .ref bo, .ref yo, .ref no], oO lc 7 [.int m1, .ref ec, .int (nI nC)], aO D ec 10 (lsF cl nC), oO (cl c0) 0 [.int len, .ref ta, .ref (q 0), .ref (q 1)], aT D ta 4 (tkF t), oO (t j) 4 [.ref r1, .ref r2, .ref r3], oO r1 2 [.ref a1, .int (nI sz)], oO r2 2 [.ref a2, .int (nI sz)], oO r3 2 [.ref a3, .int (nI sz)], aI D a1 16 ft, aI D a2 16 fv, aI D a3 16 fe] hz0) (fun _ : Unit => [oO xo 5 [.ref lc, .ref lt, .ref bo, .ref yo, .ref no], oO lc 7 [.int m1, .ref ec, .int (nI nC)], aO D ec 10 (lsF cl nC), oO (cl c0) 0 [.int len, .ref ta, .ref (q 0), .ref (q 1)], aT D ta 4 (tkF t), oO (t j) 4 [.ref r1, .ref r2, .ref r3], oO r1 2 [.ref a1, .int (nI (sz + 1))], oO r2 2 [.ref a2, .int (nI (sz + 1))], oO r3 2 [.ref a3, .int (nI (sz + 1))], aI D a1 16 (insF ft (cntLe ft tm sz) sz tm), aI D a2 16 (insF fv (cntLe ft tm sz) sz vl), aI D a3 16 (insF fe (cntLe ft tm sz) sz es)])) (va_A [oO xo 5 [.ref lc, .ref lt, .ref bo, .ref yo, .ref no], oO lc 7 [.int m1, .ref ec, .int (nI nC)], aO D ec 10 (lsF cl nC), oO (cl c0) 0 [.int len, .ref ta, .ref (q 0), .ref (q 1)], aT D ta 4 (tkF t), oO (t j) 4 [.ref r1, .ref r2, .ref r3], oO r1 2 [.ref a1, .int (nI sz)], oO r2 2 [.ref a2, .int (nI sz)], oO r3 2 [.ref a3, .int (nI sz)], aI D a1 16 ft, aI D a2 16 fv, aI D a3 16 fe] hz0)) 0 0 (va_A [oO xo 5 [.ref lc, .ref lt, .ref bo, .ref yo, .ref no], oO lc 7 [.int m1, .ref ec, .int (nI nC)], aO D ec 10 (lsF cl nC), oO (cl c0) 0 [.int len, .ref ta, .ref (q 0), .ref (q 1)], aT D ta 4 (tkF t), oO (t j) 4 [.ref r1, .ref r2, .ref r3], oO r1 2 [.ref a1, .int (nI sz)], oO r2 2 [.ref a2, .int (nI sz)], oO r3 2 [.ref a3, .int (nI sz)], aI D a1 16 ft, aI D a2 16 fv, aI D a3 16 fe] hz0) := by
  refine Met.ofW (cc := cX5_key) (maxL := 8) (ret := (some .int)) (by decide) rfl ?_
  intro p e s m args below meth c s₁ B hml hv
  obtain ⟨rfl, hsz, hG, hP, hD0⟩ := hv
  have hx := B.exec
  have hb := B.bytes
  have hr := B.returns
  have hts : ∀ w ∈ wsL_law, w.before _ s = true := fun w h => atoms_spec (ws := (ws_ yX5_key cX5_key 8 (some .int))) B.pre w (List.mem_cons_of_mem _ h)
  have hown : s.vm.findClass RX5 = some m.cls := findClass_of_methodNamed B.named
  have hlk := B.notSynchronized
  have hC : CallFix p m c cX5_key 8 s _ wsL_law RX5 := ⟨hx, hb, hml, hown, hts⟩
  subst hsz
  have hD := hD0.self (sz := s.heap.size)
  generalize hAe : va_A [oO xo 5 [.ref lc, .ref lt, .ref bo, .ref yo, .ref no], oO lc 7 [.int m1, .ref ec, .int (nI nC)], aO D ec 10 (lsF cl nC), oO (cl c0) 0 [.int len, .ref ta, .ref (q 0), .ref (q 1)], aT D ta 4 (tkF t), oO (t j) 4 [.ref r1, .ref r2, .ref r3], oO r1 2 [.ref a1, .int (nI sz)], oO r2 2 [.ref a2, .int (nI sz)], oO r3 2 [.ref a3, .int (nI sz)], aI D a1 16 ft, aI D a2 16 fv, aI D a3 16 fe] s.heap.size = A at hD ⊢
  have hA : ∀ q : Nat, s.heap.size ≤ q → A q := fun q h => by rw [← hAe]; exact Or.inr h
  have hS : va_S A s.heap s.heap [] := va_S.rf
  obtain ⟨H, hHe⟩ : ∃ H, H = s.heap := ⟨_, rfl⟩
  rw [← hHe] at hP
  have hS : va_S A s.heap H [] := by rw [hHe]; exact hS
  have hl := lv_entry ([.ref xo, .int (nI c0), .int (nI j), .int tm, .int vl, .int es]) (n := 8) (Nat.le_of_ble_eq_true rfl)
  rw [lg_entry_eq]
  generalize (lg_sl ([.ref xo, .int (nI c0), .int (nI j), .int tm, .int vl, .int es]) ++ List.replicate (8 - (lg_sl ([.ref xo, .int (nI c0), .int (nI j), .int tm, .int vl, .int es])).length) Slot.unset).toArray = ls at hl ⊢
  have hl : lv_has ls 8 [(0, .ref xo), (1, .int (nI c0)), (2, .int (nI j)), (3, .int tm), (4, .int vl), (5, .int es)] := hl
  rw [← hHe]
  refine lv_aload_n hx hb dX5_key_0 rfl (lv_at hl 0 rfl) ?_
  refine lv_iload_n hx hb dX5_key_1 rfl (lv_at hl 1 rfl) ?_
  have hP9 := hP.sub (ws' := [oO xo 5 [.ref lc, .ref lt, .ref bo, .ref yo, .ref no], oO lc 7 [.int m1, .ref ec, .int (nI nC)], aO D ec 10 (lsF cl nC), oO (cl c0) 0 [.int len, .ref ta, .ref (q 0), .ref (q 1)]]) [0, 1, 2, 3] rfl
  refine va_csq (pV (rest := []) (qc := (RX5, TX5, 5)) [.int (nI c0)] 1 hC (c_clipOrNull l D (xo := xo) (c0 := c0) (lc := lc) (lt := lt) (bo := bo) (yo := yo) (no := no) (m1 := m1) (ec := ec) (nC := nC) (len := len) (ta := ta) (by omega) (by omega)) rfl (hP 0 _ rfl) (gV mM_X5_68 mI_X5_clipOrNull mS_X5_clipOrNull mN_X5 mC_X5_clipOrNull) (by decide +kernel) rfl rfl ⟨Nat.le_of_ble_eq_true rfl, Nat.le_of_ble_eq_true rfl⟩ hG hP9 rfl hl.1 rfl (Nat.le_of_ble_eq_true rfl) dX5_key_2 ⟨Nat.le_of_ble_eq_true rfl, Nat.le_of_ble_eq_true rfl⟩) (fun r2 h2 => ?_)
  obtain rfl : r2 = (some (cl c0)) := h2
  refine tpv (y := .ref (cl c0)) rfl ?_
  refine lv_astore (lv' := [(6, .ref (cl c0)), (0, .ref xo), (1, .int (nI c0)), (2, .int (nI j)), (3, .int tm), (4, .int vl), (5, .int es)]) hx hb dX5_key_5 hl (by decide) rfl (fun ls hl => ?_)
  refine lv_aload hx hb dX5_key_7 (lv_at hl 0 rfl) ?_
  refine lv_iload_n hx hb dX5_key_9 rfl (lv_at hl 3 rfl) ?_
  have hP9 := hP.sub (ws' := [oO (cl c0) 0 [.int len, .ref ta, .ref (q 0), .ref (q 1)], aT D ta 4 (tkF t)]) [3, 4] rfl
  refine va_csq (pS (rest := []) [.ref (cl c0), .int (nI j)] 2 hC (c_trk l D (co := cl c0) (j := j) (len := len) (ta := ta) (by omega)) (gS mM_X5_87 mT_X5_trackOrNull mN_X5 mC_X5_trackOrNull) (by decide +kernel) rfl rfl ⟨Nat.le_of_ble_eq_true rfl, Nat.le_of_ble_eq_true rfl⟩ hG hP9 rfl hl.1 rfl (Nat.le_of_ble_eq_true rfl) dX5_key_10 ⟨Nat.le_of_ble_eq_true rfl, Nat.le_of_ble_eq_true rfl⟩) (fun r10 h10 => ?_)
  obtain rfl : r10 = (some (t j)) := h10
  refine tpv (y := .ref (t j)) rfl ?_
  refine lv_astore (lv' := [(7, .ref (t j)), (6, .ref (cl c0)), (0, .ref xo), (1, .int (nI c0)), (2, .int (nI j)), (3, .int tm), (4, .int vl), (5, .int es)]) hx hb dX5_key_13 hl (by decide) rfl (fun ls hl => ?_)
  refine lv_aload hx hb dX5_key_15 (lv_at hl 1 rfl) ?_
  refine lv_ifnull hx hb dX5_key_17 ?_
  refine lv_aload hx hb dX5_key_20 (lv_at hl 0 rfl) ?_
  refine lv_ifnonnull (tgt := 35) hx hb dX5_key_22 (by decide) ?_
  refine lv_iload_n hx hb dX5_key_35 rfl (lv_at hl 5 rfl) ?_
  refine lv_iconst (v := 0) hx hb dX5_key_36 (by decide) ?_
  refine lv_aload hx hb dX5_key_37 (lv_at hl 1 rfl) ?_
  refine va_getN (D := D) (ci := 0) (v := .int len) (C := RX0) (T := TX0) (N := 4) hx hb hts inlX0 hown hG.K hP 3 rfl rfl 0 (by decide) (va_Nw.use rfl (nF_KeyStage_77 hG)) (fun _ h9 => h9) rfl dX5_key_39 ?_
  have hP9 : va_P D cls [] H := fun k q h => by simp at h
  refine vp_callSi (pS (rest := []) [.int tm, .int 0, .int len] 3 hC (c_isIn l D (x := tm) (a := 0) (b := len) ) (gS mM_X5_41 mT_X5_isIn mN_X5 mC_X5_isIn) (by decide +kernel) rfl rfl ⟨Nat.le_of_ble_eq_true rfl, Nat.le_of_ble_eq_true rfl⟩ hG hP9 rfl hl.1 rfl (Nat.le_of_ble_eq_true rfl) dX5_key_42 ⟨Nat.le_of_ble_eq_true rfl, Nat.le_of_ble_eq_true rfl⟩) (fun r42 h42 => ?_)
  rcases h42 with ⟨rfl, hb42⟩ | ⟨rfl, hb42⟩
  rotate_left
  · exact absurd (h.1) hb42
  refine lv_if_eq (tgt := 66) hx hb dX5_key_45 (by decide) (fun h9 => absurd h9 (by decide)) (fun _ => ?_)
  refine lv_iload hx hb dX5_key_48 (lv_at hl 6 rfl) ?_
  have hP9 : va_P D cls [] H := fun k q h => by simp at h
  refine vp_callSi (pS (rest := []) [.int vl] 1 hC (c_isValue l D (x := vl) ) (gS mM_X5_93 mT_X5_isValue mN_X5 mC_X5_isValue) (by decide +kernel) rfl rfl ⟨Nat.le_of_ble_eq_true rfl, Nat.le_of_ble_eq_true rfl⟩ hG hP9 rfl hl.1 rfl (Nat.le_of_ble_eq_true rfl) dX5_key_50 ⟨Nat.le_of_ble_eq_true rfl, Nat.le_of_ble_eq_true rfl⟩) (fun r50 h50 => ?_)
  rcases h50 with ⟨rfl, hb50⟩ | ⟨rfl, hb50⟩
  rotate_left
  · exact absurd (h.2.1) hb50
  refine lv_if_eq (tgt := 66) hx hb dX5_key_53 (by decide) (fun h9 => absurd h9 (by decide)) (fun _ => ?_)
  refine lv_iload hx hb dX5_key_56 (lv_at hl 7 rfl) ?_
  refine lv_iconst (v := 0) hx hb dX5_key_58 (by decide) ?_
  refine lv_iconst (v := 4) hx hb dX5_key_59 (by decide) ?_
  have hP9 : va_P D cls [] H := fun k q h => by simp at h
  refine vp_callSi (pS (rest := []) [.int es, .int 0, .int 4] 3 hC (c_isIn l D (x := es) (a := 0) (b := 4) ) (gS mM_X5_41 mT_X5_isIn mN_X5 mC_X5_isIn) (by decide +kernel) rfl rfl ⟨Nat.le_of_ble_eq_true rfl, Nat.le_of_ble_eq_true rfl⟩ hG hP9 rfl hl.1 rfl (Nat.le_of_ble_eq_true rfl) dX5_key_60 ⟨Nat.le_of_ble_eq_true rfl, Nat.le_of_ble_eq_true rfl⟩) (fun r60 h60 => ?_)
  rcases h60 with ⟨rfl, hb60⟩ | ⟨rfl, hb60⟩
  rotate_left
  · exact absurd (h.2.2) hb60
  refine lv_if_ne (tgt := 76) hx hb dX5_key_63 (by decide) (fun _ => ?_) (fun h9 => absurd h9 (by decide))
  refine lv_aload hx hb dX5_key_76 (lv_at hl 0 rfl) ?_
  have hP9 := hP.sub (ws' := [oO (t j) 4 [.ref r1, .ref r2, .ref r3], oO r1 2 [.ref a1, .int (nI sz)], oO r2 2 [.ref a2, .int (nI sz)], oO r3 2 [.ref a3, .int (nI sz)], aI D a1 16 ft, aI D a2 16 fv, aI D a3 16 fe]) [5, 6, 7, 8, 9, 10, 11] rfl
  refine vp_callSi (pV (rest := []) (qc := (RX4, TX4, 3)) [] 0 hC (c_count l D (t := t j) (r1 := r1) (r2 := r2) (r3 := r3) (a1 := a1) (sz := sz) (a2 := a2) (a3 := a3) (ft := ft) (fv := fv) (fe := fe) ) rfl (hP 5 _ rfl) (gV mM_X5_99 mI_X4_count mS_X4_count mN_X4 mC_X4_count) (by decide +kernel) rfl rfl ⟨Nat.le_of_ble_eq_true rfl, Nat.le_of_ble_eq_true rfl⟩ hG hP9 rfl hl.1 rfl (Nat.le_of_ble_eq_true rfl) dX5_key_78 ⟨Nat.le_of_ble_eq_true rfl, Nat.le_of_ble_eq_true rfl⟩) (fun r78 h78 => ?_)
  obtain rfl : r78 = (nI sz) := h78
  refine lv_bipush (v := 16) hx hb dX5_key_81 (by decide) ?_
  refine lv_icmp_lt (tgt := 105) hx hb dX5_key_83 (by decide) (fun _ => ?_) (fun h9 => absurd ((nI_ltI (a := sz) (b := 16) (by omega) (by omega)).mpr (by omega)) h9)
  refine lv_aload hx hb dX5_key_105 (lv_at hl 0 rfl) ?_
  refine lv_iload_n hx hb dX5_key_107 rfl (lv_at hl 5 rfl) ?_
  refine lv_iload hx hb dX5_key_108 (lv_at hl 6 rfl) ?_
  refine lv_iload hx hb dX5_key_110 (lv_at hl 7 rfl) ?_
  have hP9 := hP.sub (ws' := [oO (t j) 4 [.ref r1, .ref r2, .ref r3], oO r1 2 [.ref a1, .int (nI sz)], oO r2 2 [.ref a2, .int (nI sz)], oO r3 2 [.ref a3, .int (nI sz)], aI D a1 16 ft, aI D a2 16 fv, aI D a3 16 fe]) [5, 6, 7, 8, 9, 10, 11] rfl
  have hD9 := (hD.sub (ws' := [oO (t j) 4 [.ref r1, .ref r2, .ref r3], oO r1 2 [.ref a1, .int (nI sz)], oO r2 2 [.ref a2, .int (nI sz)], oO r3 2 [.ref a3, .int (nI sz)], aI D a1 16 ft, aI D a2 16 fv, aI D a3 16 fe]) [5, 6, 7, 8, 9, 10, 11] (by decide) rfl).weaken (B := fun _ => True) (fun _ _ _ _ => trivial)
  refine kv (wr := [oO xo 5 [.ref lc, .ref lt, .ref bo, .ref yo, .ref no], oO lc 7 [.int m1, .ref ec, .int (nI nC)], aO D ec 10 (lsF cl nC), oO (cl c0) 0 [.int len, .ref ta, .ref (q 0), .ref (q 1)], aT D ta 4 (tkF t)]) (rV (rest := []) (qc := (RX4, TX4, 3)) [.int tm, .int vl, .int es] 3 0 0 hC (c_lay_ins l D (t := t j) (x := tm) (y := vl) (z := es) (r1 := r1) (r2 := r2) (r3 := r3) (a1 := a1) (sz := sz) (a2 := a2) (a3 := a3) (ft := ft) (fv := fv) (fe := fe) (hz0 := H.size) (by omega) (hp)) rfl (hP 5 _ rfl) (gV mM_X5_109 mI_X4_lay mS_X4_lay mN_X4 mC_X4_lay) (by decide +kernel) rfl rfl ⟨Nat.le_of_ble_eq_true rfl, Nat.le_of_ble_eq_true rfl⟩ hG hP9 hD9 rfl hl.1 rfl (Nat.le_of_ble_eq_true rfl) dX5_key_112 ⟨Nat.le_of_ble_eq_true rfl, Nat.le_of_ble_eq_true rfl⟩) hP hD hS hA [5, 6, 7, 8, 9, 10, 11] [0, 1, 2, 3, 4] rfl rfl (by decide) (by decide) (fun u112 H locs h112 hP hD hS hz hfr => ?_)
  have hP : va_P D cls [oO xo 5 [.ref lc, .ref lt, .ref bo, .ref yo, .ref no], oO lc 7 [.int m1, .ref ec, .int (nI nC)], aO D ec 10 (lsF cl nC), oO (cl c0) 0 [.int len, .ref ta, .ref (q 0), .ref (q 1)], aT D ta 4 (tkF t), oO (t j) 4 [.ref r1, .ref r2, .ref r3], oO r1 2 [.ref a1, .int (nI (sz + 1))], oO r2 2 [.ref a2, .int (nI (sz + 1))], oO r3 2 [.ref a3, .int (nI (sz + 1))], aI D a1 16 (insF ft (cntLe ft tm sz) sz tm), aI D a2 16 (insF fv (cntLe ft tm sz) sz vl), aI D a3 16 (insF fe (cntLe ft tm sz) sz es)] H := hP
  have hD : va_D A [oO xo 5 [.ref lc, .ref lt, .ref bo, .ref yo, .ref no], oO lc 7 [.int m1, .ref ec, .int (nI nC)], aO D ec 10 (lsF cl nC), oO (cl c0) 0 [.int len, .ref ta, .ref (q 0), .ref (q 1)], aT D ta 4 (tkF t), oO (t j) 4 [.ref r1, .ref r2, .ref r3], oO r1 2 [.ref a1, .int (nI (sz + 1))], oO r2 2 [.ref a2, .int (nI (sz + 1))], oO r3 2 [.ref a3, .int (nI (sz + 1))], aI D a1 16 (insF ft (cntLe ft tm sz) sz tm), aI D a2 16 (insF fv (cntLe ft tm sz) sz vl), aI D a3 16 (insF fe (cntLe ft tm sz) sz es)] := hD
  refine lv_aload hx hb dX5_key_115 (lv_at hl 0 rfl) ?_
  have hP9 := hP.sub (ws' := [oO (t j) 4 [.ref r1, .ref r2, .ref r3], oO r1 2 [.ref a1, .int (nI (sz + 1))], oO r2 2 [.ref a2, .int (nI (sz + 1))], oO r3 2 [.ref a3, .int (nI (sz + 1))], aI D a1 16 (insF ft (cntLe ft tm sz) sz tm), aI D a2 16 (insF fv (cntLe ft tm sz) sz vl), aI D a3 16 (insF fe (cntLe ft tm sz) sz es)]) [5, 6, 7, 8, 9, 10, 11] rfl
  refine vp_callSi (pV (rest := []) (qc := (RX4, TX4, 3)) [] 0 hC (c_count l D (t := t j) (r1 := r1) (r2 := r2) (r3 := r3) (a1 := a1) (sz := sz + 1) (a2 := a2) (a3 := a3) (ft := insF ft (cntLe ft tm sz) sz tm) (fv := insF fv (cntLe ft tm sz) sz vl) (fe := insF fe (cntLe ft tm sz) sz es) ) rfl (hP 5 _ rfl) (gV mM_X5_99 mI_X4_count mS_X4_count mN_X4 mC_X4_count) (by decide +kernel) rfl rfl ⟨Nat.le_of_ble_eq_true rfl, Nat.le_of_ble_eq_true rfl⟩ hG hP9 rfl hl.1 rfl (Nat.le_of_ble_eq_true rfl) dX5_key_117 ⟨Nat.le_of_ble_eq_true rfl, Nat.le_of_ble_eq_true rfl⟩) (fun r117 h117 => ?_)
  obtain rfl : r117 = (nI (sz + 1)) := h117
  refine Wi () hx hb hr hlk ?_ hP hD hS (Nat.le_of_ble_eq_true rfl) (by first | exact Nat.le_of_ble_eq_true rfl | exact Nat.le_of_eq (Nat.zero_add _)) dX5_key_120
  exact rfl
set_option maxHeartbeats 4000000 in
set_option maxRecDepth 100000 in
theorem c_keys (l : Launch) (D : va_G) {xo lc lt bo yo no : Nat} {ec nC c0 : Nat} {m1 : Int32} {cl : Nat → Nat} {ta : Nat} {len : Int32} {q t : Nat → Nat} {j r1 r2 r3 a1 a2 a3 sz : Nat} {ft fv fe : Nat → Int32} (hnC : nC ≤ 6) (hc : c0 < nC) (hj : j < 4) : Met l yX5_keys (ws_ yX5_keys cX5_keys 4 (some .int)) ({ frames := 6, cells := 0, slots := 0, locals := 102 } : Room) (va_Pc [.ref xo, .int (nI c0), .int (nI j)] (PW D [oO xo 5 [.ref lc, .ref lt, .ref bo, .ref yo, .ref no], oO lc 7 [.int m1, .ref ec, .int (nI nC)], aO D ec 10 (lsF cl nC), oO (cl c0) 0 [.int len, .ref ta, .ref (q 0), .ref (q 1)], aT D ta 4 (tkF t), oO (t j) 4 [.ref r1, .ref r2, .ref r3], oO r1 2 [.ref a1, .int (nI sz)], oO r2 2 [.ref a2, .int (nI sz)], oO r3 2 [.ref a3, .int (nI sz)], aI D a1 16 ft, aI D a2 16 fv, aI D a3 16 fe])) (vp_Si (fun v => v = nI sz)) 0 0 (fun _ => False) := by
  refine Met.ofW (cc := cX5_keys) (maxL := 4) (ret := (some .int)) (by decide) rfl ?_
  intro p e s m args below meth c s₁ B hml hv
  obtain ⟨rfl, hG, hP⟩ := hv
  have hx := B.exec
  have hb := B.bytes
  have hr := B.returns
  have hts : ∀ w ∈ wsL_law, w.before _ s = true := fun w h => atoms_spec (ws := (ws_ yX5_keys cX5_keys 4 (some .int))) B.pre w (List.mem_cons_of_mem _ h)
  have hown : s.vm.findClass RX5 = some m.cls := findClass_of_methodNamed B.named
  have hlk := B.notSynchronized
  have hC : CallFix p m c cX5_keys 4 s _ wsL_law RX5 := ⟨hx, hb, hml, hown, hts⟩
  have hl := lv_entry ([.ref xo, .int (nI c0), .int (nI j)]) (n := 4) (Nat.le_of_ble_eq_true rfl)
  rw [lg_entry_eq]
  generalize (lg_sl ([.ref xo, .int (nI c0), .int (nI j)]) ++ List.replicate (4 - (lg_sl ([.ref xo, .int (nI c0), .int (nI j)])).length) Slot.unset).toArray = ls at hl ⊢
  have hl : lv_has ls 4 [(0, .ref xo), (1, .int (nI c0)), (2, .int (nI j))] := hl
  refine lv_aload_n hx hb dX5_keys_0 rfl (lv_at hl 0 rfl) ?_
  refine lv_iload_n hx hb dX5_keys_1 rfl (lv_at hl 1 rfl) ?_
  have hP9 := hP.sub (ws' := [oO xo 5 [.ref lc, .ref lt, .ref bo, .ref yo, .ref no], oO lc 7 [.int m1, .ref ec, .int (nI nC)], aO D ec 10 (lsF cl nC), oO (cl c0) 0 [.int len, .ref ta, .ref (q 0), .ref (q 1)]]) [0, 1, 2, 3] rfl
  refine va_csq (pV (rest := []) (qc := (RX5, TX5, 5)) [.int (nI c0)] 1 hC (c_clipOrNull l D (xo := xo) (c0 := c0) (lc := lc) (lt := lt) (bo := bo) (yo := yo) (no := no) (m1 := m1) (ec := ec) (nC := nC) (len := len) (ta := ta) (by omega) (by omega)) rfl (hP 0 _ rfl) (gV mM_X5_68 mI_X5_clipOrNull mS_X5_clipOrNull mN_X5 mC_X5_clipOrNull) (by decide +kernel) rfl rfl ⟨Nat.le_of_ble_eq_true rfl, Nat.le_of_ble_eq_true rfl⟩ hG hP9 rfl hl.1 rfl (Nat.le_of_ble_eq_true rfl) dX5_keys_2 ⟨Nat.le_of_ble_eq_true rfl, Nat.le_of_ble_eq_true rfl⟩) (fun r2 h2 => ?_)
  obtain rfl : r2 = (some (cl c0)) := h2
  refine tpv (y := .ref (cl c0)) rfl ?_
  refine lv_iload_n hx hb dX5_keys_5 rfl (lv_at hl 2 rfl) ?_
  have hP9 := hP.sub (ws' := [oO (cl c0) 0 [.int len, .ref ta, .ref (q 0), .ref (q 1)], aT D ta 4 (tkF t)]) [3, 4] rfl
  refine va_csq (pS (rest := []) [.ref (cl c0), .int (nI j)] 2 hC (c_trk l D (co := cl c0) (j := j) (len := len) (ta := ta) (by omega)) (gS mM_X5_87 mT_X5_trackOrNull mN_X5 mC_X5_trackOrNull) (by decide +kernel) rfl rfl ⟨Nat.le_of_ble_eq_true rfl, Nat.le_of_ble_eq_true rfl⟩ hG hP9 rfl hl.1 rfl (Nat.le_of_ble_eq_true rfl) dX5_keys_6 ⟨Nat.le_of_ble_eq_true rfl, Nat.le_of_ble_eq_true rfl⟩) (fun r6 h6 => ?_)
  obtain rfl : r6 = (some (t j)) := h6
  refine tpv (y := .ref (t j)) rfl ?_
  refine lv_astore_n (lv' := [(3, .ref (t j)), (0, .ref xo), (1, .int (nI c0)), (2, .int (nI j))]) hx hb dX5_keys_9 rfl hl (by decide) rfl (fun ls hl => ?_)
  refine lv_aload_n hx hb dX5_keys_10 rfl (lv_at hl 0 rfl) ?_
  refine lv_ifnonnull (tgt := 24) hx hb dX5_keys_11 (by decide) ?_
  refine lv_aload_n hx hb dX5_keys_24 rfl (lv_at hl 0 rfl) ?_
  have hP9 := hP.sub (ws' := [oO (t j) 4 [.ref r1, .ref r2, .ref r3], oO r1 2 [.ref a1, .int (nI sz)], oO r2 2 [.ref a2, .int (nI sz)], oO r3 2 [.ref a3, .int (nI sz)], aI D a1 16 ft, aI D a2 16 fv, aI D a3 16 fe]) [5, 6, 7, 8, 9, 10, 11] rfl
  refine vp_callSi (pV (rest := []) (qc := (RX4, TX4, 3)) [] 0 hC (c_count l D (t := t j) (r1 := r1) (r2 := r2) (r3 := r3) (a1 := a1) (sz := sz) (a2 := a2) (a3 := a3) (ft := ft) (fv := fv) (fe := fe) ) rfl (hP 5 _ rfl) (gV mM_X5_99 mI_X4_count mS_X4_count mN_X4 mC_X4_count) (by decide +kernel) rfl rfl ⟨Nat.le_of_ble_eq_true rfl, Nat.le_of_ble_eq_true rfl⟩ hG hP9 rfl hl.1 rfl (Nat.le_of_ble_eq_true rfl) dX5_keys_25 ⟨Nat.le_of_ble_eq_true rfl, Nat.le_of_ble_eq_true rfl⟩) (fun r25 h25 => ?_)
  obtain rfl : r25 = (nI sz) := h25
  refine Ri hx hb hr hlk ?_ dX5_keys_28
  exact rfl
set_option maxHeartbeats 4000000 in
set_option maxRecDepth 100000 in
theorem c_keyOf (l : Launch) (D : va_G) {xo lc lt bo yo no : Nat} {ec nC c0 : Nat} {m1 : Int32} {cl : Nat → Nat} {ta : Nat} {len : Int32} {q t : Nat → Nat} {j r1 r2 r3 a1 a2 a3 sz : Nat} {ft fv fe : Nat → Int32} {i : Nat} {w : Int32} (hnC : nC ≤ 6) (hc : c0 < nC) (hj : j < 4) (hs : sz ≤ 16) (hi : i < sz) (h : 0 ≤ w ∧ w ≤ 2) : Met l yX5_keyOf (ws_ yX5_keyOf cX5_keyOf 6 (some .int)) ({ frames := 6, cells := 0, slots := 0, locals := 102 } : Room) (va_Pc [.ref xo, .int (nI c0), .int (nI j), .int (nI i), .int w] (PW D [oO xo 5 [.ref lc, .ref lt, .ref bo, .ref yo, .ref no], oO lc 7 [.int m1, .ref ec, .int (nI nC)], aO D ec 10 (lsF cl nC), oO (cl c0) 0 [.int len, .ref ta, .ref (q 0), .ref (q 1)], aT D ta 4 (tkF t), oO (t j) 4 [.ref r1, .ref r2, .ref r3], oO r1 2 [.ref a1, .int (nI sz)], oO r2 2 [.ref a2, .int (nI sz)], oO r3 2 [.ref a3, .int (nI sz)], aI D a1 16 ft, aI D a2 16 fv, aI D a3 16 fe])) (vp_Si (fun v => v = if w = 0 then ft i else if w = 1 then fv i else fe i)) 0 0 (fun _ => False) := by
  refine Met.ofW (cc := cX5_keyOf) (maxL := 6) (ret := (some .int)) (by decide) rfl ?_
  intro p e s m args below meth c s₁ B hml hv
  obtain ⟨rfl, hG, hP⟩ := hv
  have hx := B.exec
  have hb := B.bytes
  have hr := B.returns
  have hts : ∀ w ∈ wsL_law, w.before _ s = true := fun w h => atoms_spec (ws := (ws_ yX5_keyOf cX5_keyOf 6 (some .int))) B.pre w (List.mem_cons_of_mem _ h)
  have hown : s.vm.findClass RX5 = some m.cls := findClass_of_methodNamed B.named
  have hlk := B.notSynchronized
  have hC : CallFix p m c cX5_keyOf 6 s _ wsL_law RX5 := ⟨hx, hb, hml, hown, hts⟩
  have hl := lv_entry ([.ref xo, .int (nI c0), .int (nI j), .int (nI i), .int w]) (n := 6) (Nat.le_of_ble_eq_true rfl)
  rw [lg_entry_eq]
  generalize (lg_sl ([.ref xo, .int (nI c0), .int (nI j), .int (nI i), .int w]) ++ List.replicate (6 - (lg_sl ([.ref xo, .int (nI c0), .int (nI j), .int (nI i), .int w])).length) Slot.unset).toArray = ls at hl ⊢
  have hl : lv_has ls 6 [(0, .ref xo), (1, .int (nI c0)), (2, .int (nI j)), (3, .int (nI i)), (4, .int w)] := hl
  refine lv_aload_n hx hb dX5_keyOf_0 rfl (lv_at hl 0 rfl) ?_
  refine lv_iload_n hx hb dX5_keyOf_1 rfl (lv_at hl 1 rfl) ?_
  have hP9 := hP.sub (ws' := [oO xo 5 [.ref lc, .ref lt, .ref bo, .ref yo, .ref no], oO lc 7 [.int m1, .ref ec, .int (nI nC)], aO D ec 10 (lsF cl nC), oO (cl c0) 0 [.int len, .ref ta, .ref (q 0), .ref (q 1)]]) [0, 1, 2, 3] rfl
  refine va_csq (pV (rest := []) (qc := (RX5, TX5, 5)) [.int (nI c0)] 1 hC (c_clipOrNull l D (xo := xo) (c0 := c0) (lc := lc) (lt := lt) (bo := bo) (yo := yo) (no := no) (m1 := m1) (ec := ec) (nC := nC) (len := len) (ta := ta) (by omega) (by omega)) rfl (hP 0 _ rfl) (gV mM_X5_68 mI_X5_clipOrNull mS_X5_clipOrNull mN_X5 mC_X5_clipOrNull) (by decide +kernel) rfl rfl ⟨Nat.le_of_ble_eq_true rfl, Nat.le_of_ble_eq_true rfl⟩ hG hP9 rfl hl.1 rfl (Nat.le_of_ble_eq_true rfl) dX5_keyOf_2 ⟨Nat.le_of_ble_eq_true rfl, Nat.le_of_ble_eq_true rfl⟩) (fun r2 h2 => ?_)
  obtain rfl : r2 = (some (cl c0)) := h2
  refine tpv (y := .ref (cl c0)) rfl ?_
  refine lv_iload_n hx hb dX5_keyOf_5 rfl (lv_at hl 2 rfl) ?_
  have hP9 := hP.sub (ws' := [oO (cl c0) 0 [.int len, .ref ta, .ref (q 0), .ref (q 1)], aT D ta 4 (tkF t)]) [3, 4] rfl
  refine va_csq (pS (rest := []) [.ref (cl c0), .int (nI j)] 2 hC (c_trk l D (co := cl c0) (j := j) (len := len) (ta := ta) (by omega)) (gS mM_X5_87 mT_X5_trackOrNull mN_X5 mC_X5_trackOrNull) (by decide +kernel) rfl rfl ⟨Nat.le_of_ble_eq_true rfl, Nat.le_of_ble_eq_true rfl⟩ hG hP9 rfl hl.1 rfl (Nat.le_of_ble_eq_true rfl) dX5_keyOf_6 ⟨Nat.le_of_ble_eq_true rfl, Nat.le_of_ble_eq_true rfl⟩) (fun r6 h6 => ?_)
  obtain rfl : r6 = (some (t j)) := h6
  refine tpv (y := .ref (t j)) rfl ?_
  refine lv_astore (lv' := [(5, .ref (t j)), (0, .ref xo), (1, .int (nI c0)), (2, .int (nI j)), (3, .int (nI i)), (4, .int w)]) hx hb dX5_keyOf_9 hl (by decide) rfl (fun ls hl => ?_)
  refine lv_aload hx hb dX5_keyOf_11 (lv_at hl 0 rfl) ?_
  refine lv_ifnull hx hb dX5_keyOf_13 ?_
  refine lv_iload_n hx hb dX5_keyOf_16 rfl (lv_at hl 4 rfl) ?_
  refine lv_iconst (v := 0) hx hb dX5_keyOf_17 (by decide) ?_
  refine lv_aload hx hb dX5_keyOf_18 (lv_at hl 0 rfl) ?_
  have hP9 := hP.sub (ws' := [oO (t j) 4 [.ref r1, .ref r2, .ref r3], oO r1 2 [.ref a1, .int (nI sz)], oO r2 2 [.ref a2, .int (nI sz)], oO r3 2 [.ref a3, .int (nI sz)], aI D a1 16 ft, aI D a2 16 fv, aI D a3 16 fe]) [5, 6, 7, 8, 9, 10, 11] rfl
  refine vp_callSi (pV (rest := [.int 0, .int (nI i)]) (qc := (RX4, TX4, 3)) [] 0 hC (c_count l D (t := t j) (r1 := r1) (r2 := r2) (r3 := r3) (a1 := a1) (sz := sz) (a2 := a2) (a3 := a3) (ft := ft) (fv := fv) (fe := fe) ) rfl (hP 5 _ rfl) (gV mM_X5_99 mI_X4_count mS_X4_count mN_X4 mC_X4_count) (by decide +kernel) rfl rfl ⟨Nat.le_of_ble_eq_true rfl, Nat.le_of_ble_eq_true rfl⟩ hG hP9 rfl hl.1 rfl (Nat.le_of_ble_eq_true rfl) dX5_keyOf_20 ⟨Nat.le_of_ble_eq_true rfl, Nat.le_of_ble_eq_true rfl⟩) (fun r20 h20 => ?_)
  obtain rfl : r20 = (nI sz) := h20
  refine lv_iconst (v := 1) hx hb dX5_keyOf_23 (by decide) ?_
  refine lv_isub hx hb dX5_keyOf_24 ?_
  refine tpi (y := nI (sz - 1)) (pk_sub (a := sz) (b := 1) (by omega)) ?_
  have hP9 : va_P D cls [] s.heap := fun k q h => by simp at h
  refine vp_callSi (pS (rest := []) [.int (nI i), .int 0, .int (nI (sz - 1))] 3 hC (c_isIn l D (x := nI i) (a := 0) (b := nI (sz - 1)) ) (gS mM_X5_41 mT_X5_isIn mN_X5 mC_X5_isIn) (by decide +kernel) rfl rfl ⟨Nat.le_of_ble_eq_true rfl, Nat.le_of_ble_eq_true rfl⟩ hG hP9 rfl hl.1 rfl (Nat.le_of_ble_eq_true rfl) dX5_keyOf_25 ⟨Nat.le_of_ble_eq_true rfl, Nat.le_of_ble_eq_true rfl⟩) (fun r25 h25 => ?_)
  rcases h25 with ⟨rfl, hb25⟩ | ⟨rfl, hb25⟩
  rotate_left
  · exact absurd (⟨nI_pos' (by omega), nI_le (by omega) (by omega)⟩) hb25
  refine lv_if_eq (tgt := 41) hx hb dX5_keyOf_28 (by decide) (fun h9 => absurd h9 (by decide)) (fun _ => ?_)
  refine lv_iload hx hb dX5_keyOf_31 (lv_at hl 5 rfl) ?_
  refine lv_iconst (v := 0) hx hb dX5_keyOf_33 (by decide) ?_
  refine lv_iconst (v := 2) hx hb dX5_keyOf_34 (by decide) ?_
  have hP9 : va_P D cls [] s.heap := fun k q h => by simp at h
  refine vp_callSi (pS (rest := []) [.int w, .int 0, .int 2] 3 hC (c_isIn l D (x := w) (a := 0) (b := 2) ) (gS mM_X5_41 mT_X5_isIn mN_X5 mC_X5_isIn) (by decide +kernel) rfl rfl ⟨Nat.le_of_ble_eq_true rfl, Nat.le_of_ble_eq_true rfl⟩ hG hP9 rfl hl.1 rfl (Nat.le_of_ble_eq_true rfl) dX5_keyOf_35 ⟨Nat.le_of_ble_eq_true rfl, Nat.le_of_ble_eq_true rfl⟩) (fun r35 h35 => ?_)
  rcases h35 with ⟨rfl, hb35⟩ | ⟨rfl, hb35⟩
  rotate_left
  · exact absurd (h) hb35
  refine lv_if_ne (tgt := 51) hx hb dX5_keyOf_38 (by decide) (fun _ => ?_) (fun h9 => absurd h9 (by decide))
  refine lv_aload hx hb dX5_keyOf_51 (lv_at hl 0 rfl) ?_
  refine lv_iload_n hx hb dX5_keyOf_53 rfl (lv_at hl 4 rfl) ?_
  refine lv_iload hx hb dX5_keyOf_54 (lv_at hl 5 rfl) ?_
  have hP9 := hP.sub (ws' := [oO (t j) 4 [.ref r1, .ref r2, .ref r3], oO r1 2 [.ref a1, .int (nI sz)], oO r2 2 [.ref a2, .int (nI sz)], oO r3 2 [.ref a3, .int (nI sz)], aI D a1 16 ft, aI D a2 16 fv, aI D a3 16 fe]) [5, 6, 7, 8, 9, 10, 11] rfl
  refine vp_callSi (pV (rest := []) (qc := (RX4, TX4, 3)) [.int (nI i), .int w] 2 hC (c_fact l D (t := t j) (j := i) (w := w) (r1 := r1) (r2 := r2) (r3 := r3) (a1 := a1) (sz := sz) (a2 := a2) (a3 := a3) (ft := ft) (fv := fv) (fe := fe) (by omega) (by omega)) rfl (hP 5 _ rfl) (gV mM_X5_120 mI_X4_fact mS_X4_fact mN_X4 mC_X4_fact) (by decide +kernel) rfl rfl ⟨Nat.le_of_ble_eq_true rfl, Nat.le_of_ble_eq_true rfl⟩ hG hP9 rfl hl.1 rfl (Nat.le_of_ble_eq_true rfl) dX5_keyOf_56 ⟨Nat.le_of_ble_eq_true rfl, Nat.le_of_ble_eq_true rfl⟩) (fun r56 h56 => ?_)
  obtain rfl : r56 = (if w = 0 then ft i else if w = 1 then fv i else fe i) := h56
  refine Ri hx hb hr hlk ?_ dX5_keyOf_59
  exact rfl
set_option maxHeartbeats 4000000 in
set_option maxRecDepth 100000 in
theorem c_trackAt (l : Launch) (D : va_G) {xo lc lt bo yo no : Nat} {ec nC c0 : Nat} {m1 : Int32} {cl : Nat → Nat} {ta : Nat} {len : Int32} {q t : Nat → Nat} {j r1 r2 r3 a1 a2 a3 sz : Nat} {ft fv fe : Nat → Int32} {ix : Int32} (hnC : nC ≤ 6) (hc : c0 < nC) (hj : j < 4) (h : 0 ≤ ix ∧ ix ≤ len) (hs : sz ≤ 16) (hz : 0 < sz) (hT : tOK ft sz) : Met l yX5_trackAt (ws_ yX5_trackAt cX5_trackAt 6 (some .int)) ({ frames := 6, cells := 0, slots := 0, locals := 102 } : Room) (va_Pc [.ref xo, .int (nI c0), .int (nI j), .int ix] (PW D [oO xo 5 [.ref lc, .ref lt, .ref bo, .ref yo, .ref no], oO lc 7 [.int m1, .ref ec, .int (nI nC)], aO D ec 10 (lsF cl nC), oO (cl c0) 0 [.int len, .ref ta, .ref (q 0), .ref (q 1)], aT D ta 4 (tkF t), oO (t j) 4 [.ref r1, .ref r2, .ref r3], oO r1 2 [.ref a1, .int (nI sz)], oO r2 2 [.ref a2, .int (nI sz)], oO r3 2 [.ref a3, .int (nI sz)], aI D a1 16 ft, aI D a2 16 fv, aI D a3 16 fe])) (vp_Si (fun v => v = evT sz ft fv fe ix)) 0 0 (fun _ => False) := by
  refine Met.ofW (cc := cX5_trackAt) (maxL := 6) (ret := (some .int)) (by decide) rfl ?_
  intro p e s m args below meth c s₁ B hml hv
  obtain ⟨rfl, hG, hP⟩ := hv
  have hx := B.exec
  have hb := B.bytes
  have hr := B.returns
  have hts : ∀ w ∈ wsL_law, w.before _ s = true := fun w h => atoms_spec (ws := (ws_ yX5_trackAt cX5_trackAt 6 (some .int))) B.pre w (List.mem_cons_of_mem _ h)
  have hown : s.vm.findClass RX5 = some m.cls := findClass_of_methodNamed B.named
  have hlk := B.notSynchronized
  have hC : CallFix p m c cX5_trackAt 6 s _ wsL_law RX5 := ⟨hx, hb, hml, hown, hts⟩
  have hl := lv_entry ([.ref xo, .int (nI c0), .int (nI j), .int ix]) (n := 6) (Nat.le_of_ble_eq_true rfl)
  rw [lg_entry_eq]
  generalize (lg_sl ([.ref xo, .int (nI c0), .int (nI j), .int ix]) ++ List.replicate (6 - (lg_sl ([.ref xo, .int (nI c0), .int (nI j), .int ix])).length) Slot.unset).toArray = ls at hl ⊢
  have hl : lv_has ls 6 [(0, .ref xo), (1, .int (nI c0)), (2, .int (nI j)), (3, .int ix)] := hl
  refine lv_aload_n hx hb dX5_trackAt_0 rfl (lv_at hl 0 rfl) ?_
  refine lv_iload_n hx hb dX5_trackAt_1 rfl (lv_at hl 1 rfl) ?_
  have hP9 := hP.sub (ws' := [oO xo 5 [.ref lc, .ref lt, .ref bo, .ref yo, .ref no], oO lc 7 [.int m1, .ref ec, .int (nI nC)], aO D ec 10 (lsF cl nC), oO (cl c0) 0 [.int len, .ref ta, .ref (q 0), .ref (q 1)]]) [0, 1, 2, 3] rfl
  refine va_csq (pV (rest := []) (qc := (RX5, TX5, 5)) [.int (nI c0)] 1 hC (c_clipOrNull l D (xo := xo) (c0 := c0) (lc := lc) (lt := lt) (bo := bo) (yo := yo) (no := no) (m1 := m1) (ec := ec) (nC := nC) (len := len) (ta := ta) (by omega) (by omega)) rfl (hP 0 _ rfl) (gV mM_X5_68 mI_X5_clipOrNull mS_X5_clipOrNull mN_X5 mC_X5_clipOrNull) (by decide +kernel) rfl rfl ⟨Nat.le_of_ble_eq_true rfl, Nat.le_of_ble_eq_true rfl⟩ hG hP9 rfl hl.1 rfl (Nat.le_of_ble_eq_true rfl) dX5_trackAt_2 ⟨Nat.le_of_ble_eq_true rfl, Nat.le_of_ble_eq_true rfl⟩) (fun r2 h2 => ?_)
  obtain rfl : r2 = (some (cl c0)) := h2
  refine tpv (y := .ref (cl c0)) rfl ?_
  refine lv_astore (lv' := [(4, .ref (cl c0)), (0, .ref xo), (1, .int (nI c0)), (2, .int (nI j)), (3, .int ix)]) hx hb dX5_trackAt_5 hl (by decide) rfl (fun ls hl => ?_)
  refine lv_aload hx hb dX5_trackAt_7 (lv_at hl 0 rfl) ?_
  refine lv_iload_n hx hb dX5_trackAt_9 rfl (lv_at hl 3 rfl) ?_
  have hP9 := hP.sub (ws' := [oO (cl c0) 0 [.int len, .ref ta, .ref (q 0), .ref (q 1)], aT D ta 4 (tkF t)]) [3, 4] rfl
  refine va_csq (pS (rest := []) [.ref (cl c0), .int (nI j)] 2 hC (c_trk l D (co := cl c0) (j := j) (len := len) (ta := ta) (by omega)) (gS mM_X5_87 mT_X5_trackOrNull mN_X5 mC_X5_trackOrNull) (by decide +kernel) rfl rfl ⟨Nat.le_of_ble_eq_true rfl, Nat.le_of_ble_eq_true rfl⟩ hG hP9 rfl hl.1 rfl (Nat.le_of_ble_eq_true rfl) dX5_trackAt_10 ⟨Nat.le_of_ble_eq_true rfl, Nat.le_of_ble_eq_true rfl⟩) (fun r10 h10 => ?_)
  obtain rfl : r10 = (some (t j)) := h10
  refine tpv (y := .ref (t j)) rfl ?_
  refine lv_astore (lv' := [(5, .ref (t j)), (4, .ref (cl c0)), (0, .ref xo), (1, .int (nI c0)), (2, .int (nI j)), (3, .int ix)]) hx hb dX5_trackAt_13 hl (by decide) rfl (fun ls hl => ?_)
  refine lv_aload hx hb dX5_trackAt_15 (lv_at hl 1 rfl) ?_
  refine lv_ifnull hx hb dX5_trackAt_17 ?_
  refine lv_aload hx hb dX5_trackAt_20 (lv_at hl 0 rfl) ?_
  refine lv_ifnonnull (tgt := 35) hx hb dX5_trackAt_22 (by decide) ?_
  refine lv_iload_n hx hb dX5_trackAt_35 rfl (lv_at hl 5 rfl) ?_
  refine lv_iconst (v := 0) hx hb dX5_trackAt_36 (by decide) ?_
  refine lv_aload hx hb dX5_trackAt_37 (lv_at hl 1 rfl) ?_
  refine va_getN (D := D) (ci := 0) (v := .int len) (C := RX0) (T := TX0) (N := 4) hx hb hts inlX0 hown hG.K hP 3 rfl rfl 0 (by decide) (va_Nw.use rfl (nF_KeyStage_77 hG)) (fun _ h9 => h9) rfl dX5_trackAt_39 ?_
  have hP9 : va_P D cls [] s.heap := fun k q h => by simp at h
  refine vp_callSi (pS (rest := []) [.int ix, .int 0, .int len] 3 hC (c_isIn l D (x := ix) (a := 0) (b := len) ) (gS mM_X5_41 mT_X5_isIn mN_X5 mC_X5_isIn) (by decide +kernel) rfl rfl ⟨Nat.le_of_ble_eq_true rfl, Nat.le_of_ble_eq_true rfl⟩ hG hP9 rfl hl.1 rfl (Nat.le_of_ble_eq_true rfl) dX5_trackAt_42 ⟨Nat.le_of_ble_eq_true rfl, Nat.le_of_ble_eq_true rfl⟩) (fun r42 h42 => ?_)
  rcases h42 with ⟨rfl, hb42⟩ | ⟨rfl, hb42⟩
  rotate_left
  · exact absurd (h) hb42
  refine lv_if_ne (tgt := 58) hx hb dX5_trackAt_45 (by decide) (fun _ => ?_) (fun h9 => absurd h9 (by decide))
  refine lv_aload hx hb dX5_trackAt_58 (lv_at hl 0 rfl) ?_
  have hP9 := hP.sub (ws' := [oO (t j) 4 [.ref r1, .ref r2, .ref r3], oO r1 2 [.ref a1, .int (nI sz)], oO r2 2 [.ref a2, .int (nI sz)], oO r3 2 [.ref a3, .int (nI sz)], aI D a1 16 ft, aI D a2 16 fv, aI D a3 16 fe]) [5, 6, 7, 8, 9, 10, 11] rfl
  refine vp_callSi (pV (rest := []) (qc := (RX4, TX4, 3)) [] 0 hC (c_count l D (t := t j) (r1 := r1) (r2 := r2) (r3 := r3) (a1 := a1) (sz := sz) (a2 := a2) (a3 := a3) (ft := ft) (fv := fv) (fe := fe) ) rfl (hP 5 _ rfl) (gV mM_X5_99 mI_X4_count mS_X4_count mN_X4 mC_X4_count) (by decide +kernel) rfl rfl ⟨Nat.le_of_ble_eq_true rfl, Nat.le_of_ble_eq_true rfl⟩ hG hP9 rfl hl.1 rfl (Nat.le_of_ble_eq_true rfl) dX5_trackAt_60 ⟨Nat.le_of_ble_eq_true rfl, Nat.le_of_ble_eq_true rfl⟩) (fun r60 h60 => ?_)
  obtain rfl : r60 = (nI sz) := h60
  refine lv_if_ne (tgt := 76) hx hb dX5_trackAt_63 (by decide) (fun _ => ?_) (fun h9 => absurd ((nI_eq (a := sz) (b := 0) (by omega) (by omega)).mp h9) (by omega))
  refine lv_aload hx hb dX5_trackAt_76 (lv_at hl 0 rfl) ?_
  refine lv_iload_n hx hb dX5_trackAt_78 rfl (lv_at hl 5 rfl) ?_
  have hP9 := hP.sub (ws' := [oO (t j) 4 [.ref r1, .ref r2, .ref r3], oO r1 2 [.ref a1, .int (nI sz)], oO r2 2 [.ref a2, .int (nI sz)], oO r3 2 [.ref a3, .int (nI sz)], aI D a1 16 ft, aI D a2 16 fv, aI D a3 16 fe]) [5, 6, 7, 8, 9, 10, 11] rfl
  refine vp_callSi (pV (rest := []) (qc := (RX4, TX4, 3)) [.int ix] 1 hC (c_valueAt l D (t := t j) (x := ix) (r1 := r1) (r2 := r2) (r3 := r3) (a1 := a1) (sz := sz) (a2 := a2) (a3 := a3) (ft := ft) (fv := fv) (fe := fe) (by omega) (by omega) (hT)) rfl (hP 5 _ rfl) (gV mM_X5_128 mI_X4_valueAt mS_X4_valueAt mN_X4 mC_X4_valueAt) (by decide +kernel) rfl rfl ⟨Nat.le_of_ble_eq_true rfl, Nat.le_of_ble_eq_true rfl⟩ hG hP9 rfl hl.1 rfl (Nat.le_of_ble_eq_true rfl) dX5_trackAt_79 ⟨Nat.le_of_ble_eq_true rfl, Nat.le_of_ble_eq_true rfl⟩) (fun r79 h79 => ?_)
  obtain rfl : r79 = (evT sz ft fv fe ix) := h79
  refine Ri hx hb hr hlk ?_ dX5_trackAt_82
  exact rfl
set_option maxHeartbeats 4000000 in
set_option maxRecDepth 100000 in
theorem c_cue (l : Launch) (D : va_G) {xo lc lt bo yo no : Nat} {ec nC c0 : Nat} {m1 : Int32} {cl : Nat → Nat} {ta nc : Nat} {len : Int32} {q b t : Nat → Nat} {ct cn : Nat → Int32} {ix w : Int32} (hz0 : Nat) (hnC : nC ≤ 6) (hc : c0 < nC) (h : (0 ≤ ix ∧ ix ≤ len) ∧ (0 ≤ w ∧ w ≤ 99)) (hn : nc < 8) : Met l yX5_cue (ws_ yX5_cue cX5_cue 5 (some .int)) ({ frames := 6, cells := 0, slots := 0, locals := 102 } : Room) (va_Pc [.ref xo, .int (nI c0), .int ix, .int w] (SW D [oO xo 5 [.ref lc, .ref lt, .ref bo, .ref yo, .ref no], oO lc 7 [.int m1, .ref ec, .int (nI nC)], aO D ec 10 (lsF cl nC), oO (cl c0) 0 [.int len, .ref ta, .ref (q 0), .ref (q 1)], aT D ta 4 (tkF t), oO (q 0) 2 [.ref (b 0), .int (nI nc)], oO (q 1) 2 [.ref (b 1), .int (nI nc)], aI D (b 0) 8 ct, aI D (b 1) 8 cn] hz0)) (va_Qi (fun v _ => v = nI (nc + 1)) (AT D (va_A [oO xo 5 [.ref lc, .ref lt, .ref bo, .ref yo, .ref no], oO lc 7 [.int m1, .ref ec, .int (nI nC)], aO D ec 10 (lsF cl nC), oO (cl c0) 0 [.int len, .ref ta, .ref (q 0), .ref (q 1)], aT D ta 4 (tkF t), oO (q 0) 2 [.ref (b 0), .int (nI nc)], oO (q 1) 2 [.ref (b 1), .int (nI nc)], aI D (b 0) 8 ct, aI D (b 1) 8 cn] hz0) (fun _ : Unit => [oO xo 5 [.ref lc, .ref lt, .ref bo, .ref yo, .ref no], oO lc 7 [.int m1, .ref ec, .int (nI nC)], aO D ec 10 (lsF cl nC), oO (cl c0) 0 [.int len, .ref ta, .ref (q 0), .ref (q 1)], aT D ta 4 (tkF t), oO (q 0) 2 [.ref (b 0), .int (nI (nc + 1))], oO (q 1) 2 [.ref (b 1), .int (nI (nc + 1))], aI D (b 0) 8 (insF ct (cntLe ct ix nc) nc ix), aI D (b 1) 8 (insF cn (cntLe ct ix nc) nc w)])) (va_A [oO xo 5 [.ref lc, .ref lt, .ref bo, .ref yo, .ref no], oO lc 7 [.int m1, .ref ec, .int (nI nC)], aO D ec 10 (lsF cl nC), oO (cl c0) 0 [.int len, .ref ta, .ref (q 0), .ref (q 1)], aT D ta 4 (tkF t), oO (q 0) 2 [.ref (b 0), .int (nI nc)], oO (q 1) 2 [.ref (b 1), .int (nI nc)], aI D (b 0) 8 ct, aI D (b 1) 8 cn] hz0)) 0 0 (va_A [oO xo 5 [.ref lc, .ref lt, .ref bo, .ref yo, .ref no], oO lc 7 [.int m1, .ref ec, .int (nI nC)], aO D ec 10 (lsF cl nC), oO (cl c0) 0 [.int len, .ref ta, .ref (q 0), .ref (q 1)], aT D ta 4 (tkF t), oO (q 0) 2 [.ref (b 0), .int (nI nc)], oO (q 1) 2 [.ref (b 1), .int (nI nc)], aI D (b 0) 8 ct, aI D (b 1) 8 cn] hz0) := by
  refine Met.ofW (cc := cX5_cue) (maxL := 5) (ret := (some .int)) (by decide) rfl ?_
  intro p e s m args below meth c s₁ B hml hv
  obtain ⟨rfl, hsz, hG, hP, hD0⟩ := hv
  have hx := B.exec
  have hb := B.bytes
  have hr := B.returns
  have hts : ∀ w ∈ wsL_law, w.before _ s = true := fun w h => atoms_spec (ws := (ws_ yX5_cue cX5_cue 5 (some .int))) B.pre w (List.mem_cons_of_mem _ h)
  have hown : s.vm.findClass RX5 = some m.cls := findClass_of_methodNamed B.named
  have hlk := B.notSynchronized
  have hC : CallFix p m c cX5_cue 5 s _ wsL_law RX5 := ⟨hx, hb, hml, hown, hts⟩
  subst hsz
  have hD := hD0.self (sz := s.heap.size)
  generalize hAe : va_A [oO xo 5 [.ref lc, .ref lt, .ref bo, .ref yo, .ref no], oO lc 7 [.int m1, .ref ec, .int (nI nC)], aO D ec 10 (lsF cl nC), oO (cl c0) 0 [.int len, .ref ta, .ref (q 0), .ref (q 1)], aT D ta 4 (tkF t), oO (q 0) 2 [.ref (b 0), .int (nI nc)], oO (q 1) 2 [.ref (b 1), .int (nI nc)], aI D (b 0) 8 ct, aI D (b 1) 8 cn] s.heap.size = A at hD ⊢
  have hA : ∀ q : Nat, s.heap.size ≤ q → A q := fun q h => by rw [← hAe]; exact Or.inr h
  have hS : va_S A s.heap s.heap [] := va_S.rf
  obtain ⟨H, hHe⟩ : ∃ H, H = s.heap := ⟨_, rfl⟩
  rw [← hHe] at hP
  have hS : va_S A s.heap H [] := by rw [hHe]; exact hS
  have hl := lv_entry ([.ref xo, .int (nI c0), .int ix, .int w]) (n := 5) (Nat.le_of_ble_eq_true rfl)
  rw [lg_entry_eq]
  generalize (lg_sl ([.ref xo, .int (nI c0), .int ix, .int w]) ++ List.replicate (5 - (lg_sl ([.ref xo, .int (nI c0), .int ix, .int w])).length) Slot.unset).toArray = ls at hl ⊢
  have hl : lv_has ls 5 [(0, .ref xo), (1, .int (nI c0)), (2, .int ix), (3, .int w)] := hl
  rw [← hHe]
  refine lv_aload_n hx hb dX5_cue_0 rfl (lv_at hl 0 rfl) ?_
  refine lv_iload_n hx hb dX5_cue_1 rfl (lv_at hl 1 rfl) ?_
  have hP9 := hP.sub (ws' := [oO xo 5 [.ref lc, .ref lt, .ref bo, .ref yo, .ref no], oO lc 7 [.int m1, .ref ec, .int (nI nC)], aO D ec 10 (lsF cl nC), oO (cl c0) 0 [.int len, .ref ta, .ref (q 0), .ref (q 1)]]) [0, 1, 2, 3] rfl
  refine va_csq (pV (rest := []) (qc := (RX5, TX5, 5)) [.int (nI c0)] 1 hC (c_clipOrNull l D (xo := xo) (c0 := c0) (lc := lc) (lt := lt) (bo := bo) (yo := yo) (no := no) (m1 := m1) (ec := ec) (nC := nC) (len := len) (ta := ta) (by omega) (by omega)) rfl (hP 0 _ rfl) (gV mM_X5_68 mI_X5_clipOrNull mS_X5_clipOrNull mN_X5 mC_X5_clipOrNull) (by decide +kernel) rfl rfl ⟨Nat.le_of_ble_eq_true rfl, Nat.le_of_ble_eq_true rfl⟩ hG hP9 rfl hl.1 rfl (Nat.le_of_ble_eq_true rfl) dX5_cue_2 ⟨Nat.le_of_ble_eq_true rfl, Nat.le_of_ble_eq_true rfl⟩) (fun r2 h2 => ?_)
  obtain rfl : r2 = (some (cl c0)) := h2
  refine tpv (y := .ref (cl c0)) rfl ?_
  refine lv_astore (lv' := [(4, .ref (cl c0)), (0, .ref xo), (1, .int (nI c0)), (2, .int ix), (3, .int w)]) hx hb dX5_cue_5 hl (by decide) rfl (fun ls hl => ?_)
  refine lv_aload hx hb dX5_cue_7 (lv_at hl 0 rfl) ?_
  refine lv_ifnonnull (tgt := 22) hx hb dX5_cue_9 (by decide) ?_
  refine lv_iload_n hx hb dX5_cue_22 rfl (lv_at hl 3 rfl) ?_
  refine lv_iconst (v := 0) hx hb dX5_cue_23 (by decide) ?_
  refine lv_aload hx hb dX5_cue_24 (lv_at hl 0 rfl) ?_
  refine va_getN (D := D) (ci := 0) (v := .int len) (C := RX0) (T := TX0) (N := 4) hx hb hts inlX0 hown hG.K hP 3 rfl rfl 0 (by decide) (va_Nw.use rfl (nF_KeyStage_77 hG)) (fun _ h9 => h9) rfl dX5_cue_26 ?_
  have hP9 : va_P D cls [] H := fun k q h => by simp at h
  refine vp_callSi (pS (rest := []) [.int ix, .int 0, .int len] 3 hC (c_isIn l D (x := ix) (a := 0) (b := len) ) (gS mM_X5_41 mT_X5_isIn mN_X5 mC_X5_isIn) (by decide +kernel) rfl rfl ⟨Nat.le_of_ble_eq_true rfl, Nat.le_of_ble_eq_true rfl⟩ hG hP9 rfl hl.1 rfl (Nat.le_of_ble_eq_true rfl) dX5_cue_29 ⟨Nat.le_of_ble_eq_true rfl, Nat.le_of_ble_eq_true rfl⟩) (fun r29 h29 => ?_)
  rcases h29 with ⟨rfl, hb29⟩ | ⟨rfl, hb29⟩
  rotate_left
  · exact absurd (h.1) hb29
  refine lv_if_eq (tgt := 45) hx hb dX5_cue_32 (by decide) (fun h9 => absurd h9 (by decide)) (fun _ => ?_)
  refine lv_iload_n hx hb dX5_cue_35 rfl (lv_at hl 4 rfl) ?_
  refine lv_iconst (v := 0) hx hb dX5_cue_36 (by decide) ?_
  refine lv_bipush (v := 99) hx hb dX5_cue_37 (by decide) ?_
  have hP9 : va_P D cls [] H := fun k q h => by simp at h
  refine vp_callSi (pS (rest := []) [.int w, .int 0, .int 99] 3 hC (c_isIn l D (x := w) (a := 0) (b := 99) ) (gS mM_X5_41 mT_X5_isIn mN_X5 mC_X5_isIn) (by decide +kernel) rfl rfl ⟨Nat.le_of_ble_eq_true rfl, Nat.le_of_ble_eq_true rfl⟩ hG hP9 rfl hl.1 rfl (Nat.le_of_ble_eq_true rfl) dX5_cue_39 ⟨Nat.le_of_ble_eq_true rfl, Nat.le_of_ble_eq_true rfl⟩) (fun r39 h39 => ?_)
  rcases h39 with ⟨rfl, hb39⟩ | ⟨rfl, hb39⟩
  rotate_left
  · exact absurd (h.2) hb39
  refine lv_if_ne (tgt := 55) hx hb dX5_cue_42 (by decide) (fun _ => ?_) (fun h9 => absurd h9 (by decide))
  refine lv_aload hx hb dX5_cue_55 (lv_at hl 0 rfl) ?_
  have hP9 := hP.sub (ws' := [oO (cl c0) 0 [.int len, .ref ta, .ref (q 0), .ref (q 1)], aT D ta 4 (tkF t), oO (q 0) 2 [.ref (b 0), .int (nI nc)], oO (q 1) 2 [.ref (b 1), .int (nI nc)], aI D (b 0) 8 ct, aI D (b 1) 8 cn]) [3, 4, 5, 6, 7, 8] rfl
  refine vp_callSi (pV (rest := []) (qc := (RX0, TX0, 4)) [] 0 hC (c_cueCount l D (co := cl c0) (len := len) (ta := ta) (nc := nc) (ct := ct) (cn := cn) ) rfl (hP 3 _ rfl) (gV mM_X5_81 mI_X0_cueCount mS_X0_cueCount mN_X0 mC_X0_cueCount) (by decide +kernel) rfl rfl ⟨Nat.le_of_ble_eq_true rfl, Nat.le_of_ble_eq_true rfl⟩ hG hP9 rfl hl.1 rfl (Nat.le_of_ble_eq_true rfl) dX5_cue_57 ⟨Nat.le_of_ble_eq_true rfl, Nat.le_of_ble_eq_true rfl⟩) (fun r57 h57 => ?_)
  obtain rfl : r57 = (nI nc) := h57
  refine lv_bipush (v := 8) hx hb dX5_cue_60 (by decide) ?_
  refine lv_icmp_lt (tgt := 75) hx hb dX5_cue_62 (by decide) (fun _ => ?_) (fun h9 => absurd ((nI_ltI (a := nc) (b := 8) (by omega) (by omega)).mpr (by omega)) h9)
  refine lv_aload hx hb dX5_cue_75 (lv_at hl 0 rfl) ?_
  refine lv_iload_n hx hb dX5_cue_77 rfl (lv_at hl 3 rfl) ?_
  refine lv_iload_n hx hb dX5_cue_78 rfl (lv_at hl 4 rfl) ?_
  have hP9 := hP.sub (ws' := [oO (cl c0) 0 [.int len, .ref ta, .ref (q 0), .ref (q 1)], aT D ta 4 (tkF t), oO (q 0) 2 [.ref (b 0), .int (nI nc)], oO (q 1) 2 [.ref (b 1), .int (nI nc)], aI D (b 0) 8 ct, aI D (b 1) 8 cn]) [3, 4, 5, 6, 7, 8] rfl
  have hD9 := (hD.sub (ws' := [oO (cl c0) 0 [.int len, .ref ta, .ref (q 0), .ref (q 1)], aT D ta 4 (tkF t), oO (q 0) 2 [.ref (b 0), .int (nI nc)], oO (q 1) 2 [.ref (b 1), .int (nI nc)], aI D (b 0) 8 ct, aI D (b 1) 8 cn]) [3, 4, 5, 6, 7, 8] (by decide) rfl).weaken (B := fun _ => True) (fun _ _ _ _ => trivial)
  refine kv (wr := [oO xo 5 [.ref lc, .ref lt, .ref bo, .ref yo, .ref no], oO lc 7 [.int m1, .ref ec, .int (nI nC)], aO D ec 10 (lsF cl nC)]) (rV (rest := []) (qc := (RX0, TX0, 4)) [.int ix, .int w] 2 0 0 hC (c_layCue l D (co := cl c0) (x := ix) (y := w) (len := len) (ta := ta) (nc := nc) (ct := ct) (cn := cn) (hz0 := H.size) (by omega)) rfl (hP 3 _ rfl) (gV mM_X5_138 mI_X0_layCue mS_X0_layCue mN_X0 mC_X0_layCue) (by decide +kernel) rfl rfl ⟨Nat.le_of_ble_eq_true rfl, Nat.le_of_ble_eq_true rfl⟩ hG hP9 hD9 rfl hl.1 rfl (Nat.le_of_ble_eq_true rfl) dX5_cue_79 ⟨Nat.le_of_ble_eq_true rfl, Nat.le_of_ble_eq_true rfl⟩) hP hD hS hA [3, 4, 5, 6, 7, 8] [0, 1, 2] rfl rfl (by decide) (by decide) (fun u79 H locs h79 hP hD hS hz hfr => ?_)
  have hP : va_P D cls [oO xo 5 [.ref lc, .ref lt, .ref bo, .ref yo, .ref no], oO lc 7 [.int m1, .ref ec, .int (nI nC)], aO D ec 10 (lsF cl nC), oO (cl c0) 0 [.int len, .ref ta, .ref (q 0), .ref (q 1)], aT D ta 4 (tkF t), oO (q 0) 2 [.ref (b 0), .int (nI (nc + 1))], oO (q 1) 2 [.ref (b 1), .int (nI (nc + 1))], aI D (b 0) 8 (insF ct (cntLe ct ix nc) nc ix), aI D (b 1) 8 (insF cn (cntLe ct ix nc) nc w)] H := hP
  have hD : va_D A [oO xo 5 [.ref lc, .ref lt, .ref bo, .ref yo, .ref no], oO lc 7 [.int m1, .ref ec, .int (nI nC)], aO D ec 10 (lsF cl nC), oO (cl c0) 0 [.int len, .ref ta, .ref (q 0), .ref (q 1)], aT D ta 4 (tkF t), oO (q 0) 2 [.ref (b 0), .int (nI (nc + 1))], oO (q 1) 2 [.ref (b 1), .int (nI (nc + 1))], aI D (b 0) 8 (insF ct (cntLe ct ix nc) nc ix), aI D (b 1) 8 (insF cn (cntLe ct ix nc) nc w)] := hD
  refine lv_aload hx hb dX5_cue_82 (lv_at hl 0 rfl) ?_
  have hP9 := hP.sub (ws' := [oO (cl c0) 0 [.int len, .ref ta, .ref (q 0), .ref (q 1)], aT D ta 4 (tkF t), oO (q 0) 2 [.ref (b 0), .int (nI (nc + 1))], oO (q 1) 2 [.ref (b 1), .int (nI (nc + 1))], aI D (b 0) 8 (insF ct (cntLe ct ix nc) nc ix), aI D (b 1) 8 (insF cn (cntLe ct ix nc) nc w)]) [3, 4, 5, 6, 7, 8] rfl
  refine vp_callSi (pV (rest := []) (qc := (RX0, TX0, 4)) [] 0 hC (c_cueCount l D (co := cl c0) (len := len) (ta := ta) (nc := nc + 1) (ct := insF ct (cntLe ct ix nc) nc ix) (cn := insF cn (cntLe ct ix nc) nc w) ) rfl (hP 3 _ rfl) (gV mM_X5_81 mI_X0_cueCount mS_X0_cueCount mN_X0 mC_X0_cueCount) (by decide +kernel) rfl rfl ⟨Nat.le_of_ble_eq_true rfl, Nat.le_of_ble_eq_true rfl⟩ hG hP9 rfl hl.1 rfl (Nat.le_of_ble_eq_true rfl) dX5_cue_84 ⟨Nat.le_of_ble_eq_true rfl, Nat.le_of_ble_eq_true rfl⟩) (fun r84 h84 => ?_)
  obtain rfl : r84 = (nI (nc + 1)) := h84
  refine Wi () hx hb hr hlk ?_ hP hD hS (Nat.le_of_ble_eq_true rfl) (by first | exact Nat.le_of_ble_eq_true rfl | exact Nat.le_of_eq (Nat.zero_add _)) dX5_cue_87
  exact rfl
set_option maxHeartbeats 4000000 in
set_option maxRecDepth 100000 in
theorem c_mirror (l : Launch) (D : va_G) {xo lc lt bo yo no : Nat} {ec nC c0 : Nat} {m1 : Int32} {cl : Nat → Nat} {ta nc : Nat} {len : Int32} {q b t r a sz : Nat → Nat} {ct cn : Nat → Int32} {f : Nat → Nat → Int32} (hz0 : Nat) (hnC : nC ≤ 6) (hc : c0 < nC) (hs0 : sz 0 ≤ 16) (hs1 : sz 1 ≤ 16) (hs2 : sz 2 ≤ 16) (hs3 : sz 3 ≤ 16) (hn : nc ≤ 8) : Met l yX5_mirror (ws_ yX5_mirror cX5_mirror 3 (some .int)) ({ frames := 6, cells := 0, slots := 0, locals := 134 } : Room) (va_Pc [.ref xo, .int (nI c0)] (SW D [oO xo 5 [.ref lc, .ref lt, .ref bo, .ref yo, .ref no], oO lc 7 [.int m1, .ref ec, .int (nI nC)], aO D ec 10 (lsF cl nC), oO (cl c0) 0 [.int len, .ref ta, .ref (q 0), .ref (q 1)], aT D ta 4 (tkF t), oO (q 0) 2 [.ref (b 0), .int (nI nc)], oO (q 1) 2 [.ref (b 1), .int (nI nc)], aI D (b 0) 8 ct, aI D (b 1) 8 cn, oO (t 0) 4 [.ref (r 0), .ref (r 1), .ref (r 2)], oO (r 0) 2 [.ref (a 0), .int (nI (sz 0))], oO (r 1) 2 [.ref (a 1), .int (nI (sz 0))], oO (r 2) 2 [.ref (a 2), .int (nI (sz 0))], aI D (a 0) 16 (f 0), aI D (a 1) 16 (f 1), aI D (a 2) 16 (f 2), oO (t 1) 4 [.ref (r 3), .ref (r 4), .ref (r 5)], oO (r 3) 2 [.ref (a 3), .int (nI (sz 1))], oO (r 4) 2 [.ref (a 4), .int (nI (sz 1))], oO (r 5) 2 [.ref (a 5), .int (nI (sz 1))], aI D (a 3) 16 (f 3), aI D (a 4) 16 (f 4), aI D (a 5) 16 (f 5), oO (t 2) 4 [.ref (r 6), .ref (r 7), .ref (r 8)], oO (r 6) 2 [.ref (a 6), .int (nI (sz 2))], oO (r 7) 2 [.ref (a 7), .int (nI (sz 2))], oO (r 8) 2 [.ref (a 8), .int (nI (sz 2))], aI D (a 6) 16 (f 6), aI D (a 7) 16 (f 7), aI D (a 8) 16 (f 8), oO (t 3) 4 [.ref (r 9), .ref (r 10), .ref (r 11)], oO (r 9) 2 [.ref (a 9), .int (nI (sz 3))], oO (r 10) 2 [.ref (a 10), .int (nI (sz 3))], oO (r 11) 2 [.ref (a 11), .int (nI (sz 3))], aI D (a 9) 16 (f 9), aI D (a 10) 16 (f 10), aI D (a 11) 16 (f 11)] hz0)) (va_Qi (fun v _ => v = len) (AT D (va_A [oO xo 5 [.ref lc, .ref lt, .ref bo, .ref yo, .ref no], oO lc 7 [.int m1, .ref ec, .int (nI nC)], aO D ec 10 (lsF cl nC), oO (cl c0) 0 [.int len, .ref ta, .ref (q 0), .ref (q 1)], aT D ta 4 (tkF t), oO (q 0) 2 [.ref (b 0), .int (nI nc)], oO (q 1) 2 [.ref (b 1), .int (nI nc)], aI D (b 0) 8 ct, aI D (b 1) 8 cn, oO (t 0) 4 [.ref (r 0), .ref (r 1), .ref (r 2)], oO (r 0) 2 [.ref (a 0), .int (nI (sz 0))], oO (r 1) 2 [.ref (a 1), .int (nI (sz 0))], oO (r 2) 2 [.ref (a 2), .int (nI (sz 0))], aI D (a 0) 16 (f 0), aI D (a 1) 16 (f 1), aI D (a 2) 16 (f 2), oO (t 1) 4 [.ref (r 3), .ref (r 4), .ref (r 5)], oO (r 3) 2 [.ref (a 3), .int (nI (sz 1))], oO (r 4) 2 [.ref (a 4), .int (nI (sz 1))], oO (r 5) 2 [.ref (a 5), .int (nI (sz 1))], aI D (a 3) 16 (f 3), aI D (a 4) 16 (f 4), aI D (a 5) 16 (f 5), oO (t 2) 4 [.ref (r 6), .ref (r 7), .ref (r 8)], oO (r 6) 2 [.ref (a 6), .int (nI (sz 2))], oO (r 7) 2 [.ref (a 7), .int (nI (sz 2))], oO (r 8) 2 [.ref (a 8), .int (nI (sz 2))], aI D (a 6) 16 (f 6), aI D (a 7) 16 (f 7), aI D (a 8) 16 (f 8), oO (t 3) 4 [.ref (r 9), .ref (r 10), .ref (r 11)], oO (r 9) 2 [.ref (a 9), .int (nI (sz 3))], oO (r 10) 2 [.ref (a 10), .int (nI (sz 3))], oO (r 11) 2 [.ref (a 11), .int (nI (sz 3))], aI D (a 9) 16 (f 9), aI D (a 10) 16 (f 10), aI D (a 11) 16 (f 11)] hz0) (fun _ : Unit => [oO xo 5 [.ref lc, .ref lt, .ref bo, .ref yo, .ref no], oO lc 7 [.int m1, .ref ec, .int (nI nC)], aO D ec 10 (lsF cl nC), oO (cl c0) 0 [.int len, .ref ta, .ref (q 0), .ref (q 1)], aT D ta 4 (tkF t), oO (q 0) 2 [.ref (b 0), .int (nI nc)], oO (q 1) 2 [.ref (b 1), .int (nI nc)], aI D (b 0) 8 (rvF (mpF (fun z => len - z) ct nc) nc), aI D (b 1) 8 (rvF cn nc), oO (t 0) 4 [.ref (r 0), .ref (r 1), .ref (r 2)], oO (r 0) 2 [.ref (a 0), .int (nI (sz 0))], oO (r 1) 2 [.ref (a 1), .int (nI (sz 0))], oO (r 2) 2 [.ref (a 2), .int (nI (sz 0))], aI D (a 0) 16 (rvF (mpF (fun z => len - z) (f 0) (sz 0)) (sz 0)), aI D (a 1) 16 (rvF (f 1) (sz 0)), aI D (a 2) 16 (teF (f 2) (sz 0)), oO (t 1) 4 [.ref (r 3), .ref (r 4), .ref (r 5)], oO (r 3) 2 [.ref (a 3), .int (nI (sz 1))], oO (r 4) 2 [.ref (a 4), .int (nI (sz 1))], oO (r 5) 2 [.ref (a 5), .int (nI (sz 1))], aI D (a 3) 16 (rvF (mpF (fun z => len - z) (f 3) (sz 1)) (sz 1)), aI D (a 4) 16 (rvF (f 4) (sz 1)), aI D (a 5) 16 (teF (f 5) (sz 1)), oO (t 2) 4 [.ref (r 6), .ref (r 7), .ref (r 8)], oO (r 6) 2 [.ref (a 6), .int (nI (sz 2))], oO (r 7) 2 [.ref (a 7), .int (nI (sz 2))], oO (r 8) 2 [.ref (a 8), .int (nI (sz 2))], aI D (a 6) 16 (rvF (mpF (fun z => len - z) (f 6) (sz 2)) (sz 2)), aI D (a 7) 16 (rvF (f 7) (sz 2)), aI D (a 8) 16 (teF (f 8) (sz 2)), oO (t 3) 4 [.ref (r 9), .ref (r 10), .ref (r 11)], oO (r 9) 2 [.ref (a 9), .int (nI (sz 3))], oO (r 10) 2 [.ref (a 10), .int (nI (sz 3))], oO (r 11) 2 [.ref (a 11), .int (nI (sz 3))], aI D (a 9) 16 (rvF (mpF (fun z => len - z) (f 9) (sz 3)) (sz 3)), aI D (a 10) 16 (rvF (f 10) (sz 3)), aI D (a 11) 16 (teF (f 11) (sz 3))])) (va_A [oO xo 5 [.ref lc, .ref lt, .ref bo, .ref yo, .ref no], oO lc 7 [.int m1, .ref ec, .int (nI nC)], aO D ec 10 (lsF cl nC), oO (cl c0) 0 [.int len, .ref ta, .ref (q 0), .ref (q 1)], aT D ta 4 (tkF t), oO (q 0) 2 [.ref (b 0), .int (nI nc)], oO (q 1) 2 [.ref (b 1), .int (nI nc)], aI D (b 0) 8 ct, aI D (b 1) 8 cn, oO (t 0) 4 [.ref (r 0), .ref (r 1), .ref (r 2)], oO (r 0) 2 [.ref (a 0), .int (nI (sz 0))], oO (r 1) 2 [.ref (a 1), .int (nI (sz 0))], oO (r 2) 2 [.ref (a 2), .int (nI (sz 0))], aI D (a 0) 16 (f 0), aI D (a 1) 16 (f 1), aI D (a 2) 16 (f 2), oO (t 1) 4 [.ref (r 3), .ref (r 4), .ref (r 5)], oO (r 3) 2 [.ref (a 3), .int (nI (sz 1))], oO (r 4) 2 [.ref (a 4), .int (nI (sz 1))], oO (r 5) 2 [.ref (a 5), .int (nI (sz 1))], aI D (a 3) 16 (f 3), aI D (a 4) 16 (f 4), aI D (a 5) 16 (f 5), oO (t 2) 4 [.ref (r 6), .ref (r 7), .ref (r 8)], oO (r 6) 2 [.ref (a 6), .int (nI (sz 2))], oO (r 7) 2 [.ref (a 7), .int (nI (sz 2))], oO (r 8) 2 [.ref (a 8), .int (nI (sz 2))], aI D (a 6) 16 (f 6), aI D (a 7) 16 (f 7), aI D (a 8) 16 (f 8), oO (t 3) 4 [.ref (r 9), .ref (r 10), .ref (r 11)], oO (r 9) 2 [.ref (a 9), .int (nI (sz 3))], oO (r 10) 2 [.ref (a 10), .int (nI (sz 3))], oO (r 11) 2 [.ref (a 11), .int (nI (sz 3))], aI D (a 9) 16 (f 9), aI D (a 10) 16 (f 10), aI D (a 11) 16 (f 11)] hz0)) 0 0 (va_A [oO xo 5 [.ref lc, .ref lt, .ref bo, .ref yo, .ref no], oO lc 7 [.int m1, .ref ec, .int (nI nC)], aO D ec 10 (lsF cl nC), oO (cl c0) 0 [.int len, .ref ta, .ref (q 0), .ref (q 1)], aT D ta 4 (tkF t), oO (q 0) 2 [.ref (b 0), .int (nI nc)], oO (q 1) 2 [.ref (b 1), .int (nI nc)], aI D (b 0) 8 ct, aI D (b 1) 8 cn, oO (t 0) 4 [.ref (r 0), .ref (r 1), .ref (r 2)], oO (r 0) 2 [.ref (a 0), .int (nI (sz 0))], oO (r 1) 2 [.ref (a 1), .int (nI (sz 0))], oO (r 2) 2 [.ref (a 2), .int (nI (sz 0))], aI D (a 0) 16 (f 0), aI D (a 1) 16 (f 1), aI D (a 2) 16 (f 2), oO (t 1) 4 [.ref (r 3), .ref (r 4), .ref (r 5)], oO (r 3) 2 [.ref (a 3), .int (nI (sz 1))], oO (r 4) 2 [.ref (a 4), .int (nI (sz 1))], oO (r 5) 2 [.ref (a 5), .int (nI (sz 1))], aI D (a 3) 16 (f 3), aI D (a 4) 16 (f 4), aI D (a 5) 16 (f 5), oO (t 2) 4 [.ref (r 6), .ref (r 7), .ref (r 8)], oO (r 6) 2 [.ref (a 6), .int (nI (sz 2))], oO (r 7) 2 [.ref (a 7), .int (nI (sz 2))], oO (r 8) 2 [.ref (a 8), .int (nI (sz 2))], aI D (a 6) 16 (f 6), aI D (a 7) 16 (f 7), aI D (a 8) 16 (f 8), oO (t 3) 4 [.ref (r 9), .ref (r 10), .ref (r 11)], oO (r 9) 2 [.ref (a 9), .int (nI (sz 3))], oO (r 10) 2 [.ref (a 10), .int (nI (sz 3))], oO (r 11) 2 [.ref (a 11), .int (nI (sz 3))], aI D (a 9) 16 (f 9), aI D (a 10) 16 (f 10), aI D (a 11) 16 (f 11)] hz0) := by
  refine Met.ofW (cc := cX5_mirror) (maxL := 3) (ret := (some .int)) (by decide) rfl ?_
  intro p e s m args below meth c s₁ B hml hv
  obtain ⟨rfl, hsz, hG, hP, hD0⟩ := hv
  have hx := B.exec
  have hb := B.bytes
  have hr := B.returns
  have hts : ∀ w ∈ wsL_law, w.before _ s = true := fun w h => atoms_spec (ws := (ws_ yX5_mirror cX5_mirror 3 (some .int))) B.pre w (List.mem_cons_of_mem _ h)
  have hown : s.vm.findClass RX5 = some m.cls := findClass_of_methodNamed B.named
  have hlk := B.notSynchronized
  have hC : CallFix p m c cX5_mirror 3 s _ wsL_law RX5 := ⟨hx, hb, hml, hown, hts⟩
  subst hsz
  have hD := hD0.self (sz := s.heap.size)
  generalize hAe : va_A [oO xo 5 [.ref lc, .ref lt, .ref bo, .ref yo, .ref no], oO lc 7 [.int m1, .ref ec, .int (nI nC)], aO D ec 10 (lsF cl nC), oO (cl c0) 0 [.int len, .ref ta, .ref (q 0), .ref (q 1)], aT D ta 4 (tkF t), oO (q 0) 2 [.ref (b 0), .int (nI nc)], oO (q 1) 2 [.ref (b 1), .int (nI nc)], aI D (b 0) 8 ct, aI D (b 1) 8 cn, oO (t 0) 4 [.ref (r 0), .ref (r 1), .ref (r 2)], oO (r 0) 2 [.ref (a 0), .int (nI (sz 0))], oO (r 1) 2 [.ref (a 1), .int (nI (sz 0))], oO (r 2) 2 [.ref (a 2), .int (nI (sz 0))], aI D (a 0) 16 (f 0), aI D (a 1) 16 (f 1), aI D (a 2) 16 (f 2), oO (t 1) 4 [.ref (r 3), .ref (r 4), .ref (r 5)], oO (r 3) 2 [.ref (a 3), .int (nI (sz 1))], oO (r 4) 2 [.ref (a 4), .int (nI (sz 1))], oO (r 5) 2 [.ref (a 5), .int (nI (sz 1))], aI D (a 3) 16 (f 3), aI D (a 4) 16 (f 4), aI D (a 5) 16 (f 5), oO (t 2) 4 [.ref (r 6), .ref (r 7), .ref (r 8)], oO (r 6) 2 [.ref (a 6), .int (nI (sz 2))], oO (r 7) 2 [.ref (a 7), .int (nI (sz 2))], oO (r 8) 2 [.ref (a 8), .int (nI (sz 2))], aI D (a 6) 16 (f 6), aI D (a 7) 16 (f 7), aI D (a 8) 16 (f 8), oO (t 3) 4 [.ref (r 9), .ref (r 10), .ref (r 11)], oO (r 9) 2 [.ref (a 9), .int (nI (sz 3))], oO (r 10) 2 [.ref (a 10), .int (nI (sz 3))], oO (r 11) 2 [.ref (a 11), .int (nI (sz 3))], aI D (a 9) 16 (f 9), aI D (a 10) 16 (f 10), aI D (a 11) 16 (f 11)] s.heap.size = A at hD ⊢
  have hA : ∀ q : Nat, s.heap.size ≤ q → A q := fun q h => by rw [← hAe]; exact Or.inr h
  have hS : va_S A s.heap s.heap [] := va_S.rf
  obtain ⟨H, hHe⟩ : ∃ H, H = s.heap := ⟨_, rfl⟩
  rw [← hHe] at hP
  have hS : va_S A s.heap H [] := by rw [hHe]; exact hS
  have hl := lv_entry ([.ref xo, .int (nI c0)]) (n := 3) (Nat.le_of_ble_eq_true rfl)
  rw [lg_entry_eq]
  generalize (lg_sl ([.ref xo, .int (nI c0)]) ++ List.replicate (3 - (lg_sl ([.ref xo, .int (nI c0)])).length) Slot.unset).toArray = ls at hl ⊢
  have hl : lv_has ls 3 [(0, .ref xo), (1, .int (nI c0))] := hl
  rw [← hHe]
  refine lv_aload_n hx hb dX5_mirror_0 rfl (lv_at hl 0 rfl) ?_
  refine lv_iload_n hx hb dX5_mirror_1 rfl (lv_at hl 1 rfl) ?_
  have hP9 := hP.sub (ws' := [oO xo 5 [.ref lc, .ref lt, .ref bo, .ref yo, .ref no], oO lc 7 [.int m1, .ref ec, .int (nI nC)], aO D ec 10 (lsF cl nC), oO (cl c0) 0 [.int len, .ref ta, .ref (q 0), .ref (q 1)]]) [0, 1, 2, 3] rfl
  refine va_csq (pV (rest := []) (qc := (RX5, TX5, 5)) [.int (nI c0)] 1 hC (c_clipOrNull l D (xo := xo) (c0 := c0) (lc := lc) (lt := lt) (bo := bo) (yo := yo) (no := no) (m1 := m1) (ec := ec) (nC := nC) (len := len) (ta := ta) (by omega) (by omega)) rfl (hP 0 _ rfl) (gV mM_X5_68 mI_X5_clipOrNull mS_X5_clipOrNull mN_X5 mC_X5_clipOrNull) (by decide +kernel) rfl rfl ⟨Nat.le_of_ble_eq_true rfl, Nat.le_of_ble_eq_true rfl⟩ hG hP9 rfl hl.1 rfl (Nat.le_of_ble_eq_true rfl) dX5_mirror_2 ⟨Nat.le_of_ble_eq_true rfl, Nat.le_of_ble_eq_true rfl⟩) (fun r2 h2 => ?_)
  obtain rfl : r2 = (some (cl c0)) := h2
  refine tpv (y := .ref (cl c0)) rfl ?_
  refine lv_astore_n (lv' := [(2, .ref (cl c0)), (0, .ref xo), (1, .int (nI c0))]) hx hb dX5_mirror_5 rfl hl (by decide) rfl (fun ls hl => ?_)
  refine lv_aload_n hx hb dX5_mirror_6 rfl (lv_at hl 0 rfl) ?_
  refine lv_ifnonnull (tgt := 20) hx hb dX5_mirror_7 (by decide) ?_
  refine lv_aload_n hx hb dX5_mirror_20 rfl (lv_at hl 0 rfl) ?_
  have hP9 := hP.sub (ws' := [oO (cl c0) 0 [.int len, .ref ta, .ref (q 0), .ref (q 1)], aT D ta 4 (tkF t), oO (q 0) 2 [.ref (b 0), .int (nI nc)], oO (q 1) 2 [.ref (b 1), .int (nI nc)], aI D (b 0) 8 ct, aI D (b 1) 8 cn, oO (t 0) 4 [.ref (r 0), .ref (r 1), .ref (r 2)], oO (r 0) 2 [.ref (a 0), .int (nI (sz 0))], oO (r 1) 2 [.ref (a 1), .int (nI (sz 0))], oO (r 2) 2 [.ref (a 2), .int (nI (sz 0))], aI D (a 0) 16 (f 0), aI D (a 1) 16 (f 1), aI D (a 2) 16 (f 2), oO (t 1) 4 [.ref (r 3), .ref (r 4), .ref (r 5)], oO (r 3) 2 [.ref (a 3), .int (nI (sz 1))], oO (r 4) 2 [.ref (a 4), .int (nI (sz 1))], oO (r 5) 2 [.ref (a 5), .int (nI (sz 1))], aI D (a 3) 16 (f 3), aI D (a 4) 16 (f 4), aI D (a 5) 16 (f 5), oO (t 2) 4 [.ref (r 6), .ref (r 7), .ref (r 8)], oO (r 6) 2 [.ref (a 6), .int (nI (sz 2))], oO (r 7) 2 [.ref (a 7), .int (nI (sz 2))], oO (r 8) 2 [.ref (a 8), .int (nI (sz 2))], aI D (a 6) 16 (f 6), aI D (a 7) 16 (f 7), aI D (a 8) 16 (f 8), oO (t 3) 4 [.ref (r 9), .ref (r 10), .ref (r 11)], oO (r 9) 2 [.ref (a 9), .int (nI (sz 3))], oO (r 10) 2 [.ref (a 10), .int (nI (sz 3))], oO (r 11) 2 [.ref (a 11), .int (nI (sz 3))], aI D (a 9) 16 (f 9), aI D (a 10) 16 (f 10), aI D (a 11) 16 (f 11)]) [3, 4, 5, 6, 7, 8, 9, 10, 11, 12, 13, 14, 15, 16, 17, 18, 19, 20, 21, 22, 23, 24, 25, 26, 27, 28, 29, 30, 31, 32, 33, 34, 35, 36] rfl
  have hD9 := (hD.sub (ws' := [oO (cl c0) 0 [.int len, .ref ta, .ref (q 0), .ref (q 1)], aT D ta 4 (tkF t), oO (q 0) 2 [.ref (b 0), .int (nI nc)], oO (q 1) 2 [.ref (b 1), .int (nI nc)], aI D (b 0) 8 ct, aI D (b 1) 8 cn, oO (t 0) 4 [.ref (r 0), .ref (r 1), .ref (r 2)], oO (r 0) 2 [.ref (a 0), .int (nI (sz 0))], oO (r 1) 2 [.ref (a 1), .int (nI (sz 0))], oO (r 2) 2 [.ref (a 2), .int (nI (sz 0))], aI D (a 0) 16 (f 0), aI D (a 1) 16 (f 1), aI D (a 2) 16 (f 2), oO (t 1) 4 [.ref (r 3), .ref (r 4), .ref (r 5)], oO (r 3) 2 [.ref (a 3), .int (nI (sz 1))], oO (r 4) 2 [.ref (a 4), .int (nI (sz 1))], oO (r 5) 2 [.ref (a 5), .int (nI (sz 1))], aI D (a 3) 16 (f 3), aI D (a 4) 16 (f 4), aI D (a 5) 16 (f 5), oO (t 2) 4 [.ref (r 6), .ref (r 7), .ref (r 8)], oO (r 6) 2 [.ref (a 6), .int (nI (sz 2))], oO (r 7) 2 [.ref (a 7), .int (nI (sz 2))], oO (r 8) 2 [.ref (a 8), .int (nI (sz 2))], aI D (a 6) 16 (f 6), aI D (a 7) 16 (f 7), aI D (a 8) 16 (f 8), oO (t 3) 4 [.ref (r 9), .ref (r 10), .ref (r 11)], oO (r 9) 2 [.ref (a 9), .int (nI (sz 3))], oO (r 10) 2 [.ref (a 10), .int (nI (sz 3))], oO (r 11) 2 [.ref (a 11), .int (nI (sz 3))], aI D (a 9) 16 (f 9), aI D (a 10) 16 (f 10), aI D (a 11) 16 (f 11)]) [3, 4, 5, 6, 7, 8, 9, 10, 11, 12, 13, 14, 15, 16, 17, 18, 19, 20, 21, 22, 23, 24, 25, 26, 27, 28, 29, 30, 31, 32, 33, 34, 35, 36] (by decide) rfl).weaken (B := fun _ => True) (fun _ _ _ _ => trivial)
  refine kv (wr := [oO xo 5 [.ref lc, .ref lt, .ref bo, .ref yo, .ref no], oO lc 7 [.int m1, .ref ec, .int (nI nC)], aO D ec 10 (lsF cl nC)]) (rV (rest := []) (qc := (RX0, TX0, 4)) [] 0 0 0 hC (c_clip_turn l D (co := cl c0) (len := len) (ta := ta) (nc := nc) (ct := ct) (cn := cn) (hz0 := H.size) (by omega) (by omega) (by omega) (by omega) (by omega)) rfl (hP 3 _ rfl) (gV mM_X5_147 mI_X0_turnAround mS_X0_turnAround mN_X0 mC_X0_turnAround) (by decide +kernel) rfl rfl ⟨Nat.le_of_ble_eq_true rfl, Nat.le_of_ble_eq_true rfl⟩ hG hP9 hD9 rfl hl.1 rfl (Nat.le_of_ble_eq_true rfl) dX5_mirror_21 ⟨Nat.le_of_ble_eq_true rfl, Nat.le_of_ble_eq_true rfl⟩) hP hD hS hA [3, 4, 5, 6, 7, 8, 9, 10, 11, 12, 13, 14, 15, 16, 17, 18, 19, 20, 21, 22, 23, 24, 25, 26, 27, 28, 29, 30, 31, 32, 33, 34, 35, 36] [0, 1, 2] rfl rfl (by decide) (by decide) (fun u21 H locs h21 hP hD hS hz hfr => ?_)
  have hP : va_P D cls [oO xo 5 [.ref lc, .ref lt, .ref bo, .ref yo, .ref no], oO lc 7 [.int m1, .ref ec, .int (nI nC)], aO D ec 10 (lsF cl nC), oO (cl c0) 0 [.int len, .ref ta, .ref (q 0), .ref (q 1)], aT D ta 4 (tkF t), oO (q 0) 2 [.ref (b 0), .int (nI nc)], oO (q 1) 2 [.ref (b 1), .int (nI nc)], aI D (b 0) 8 (rvF (mpF (fun z => len - z) ct nc) nc), aI D (b 1) 8 (rvF cn nc), oO (t 0) 4 [.ref (r 0), .ref (r 1), .ref (r 2)], oO (r 0) 2 [.ref (a 0), .int (nI (sz 0))], oO (r 1) 2 [.ref (a 1), .int (nI (sz 0))], oO (r 2) 2 [.ref (a 2), .int (nI (sz 0))], aI D (a 0) 16 (rvF (mpF (fun z => len - z) (f 0) (sz 0)) (sz 0)), aI D (a 1) 16 (rvF (f 1) (sz 0)), aI D (a 2) 16 (teF (f 2) (sz 0)), oO (t 1) 4 [.ref (r 3), .ref (r 4), .ref (r 5)], oO (r 3) 2 [.ref (a 3), .int (nI (sz 1))], oO (r 4) 2 [.ref (a 4), .int (nI (sz 1))], oO (r 5) 2 [.ref (a 5), .int (nI (sz 1))], aI D (a 3) 16 (rvF (mpF (fun z => len - z) (f 3) (sz 1)) (sz 1)), aI D (a 4) 16 (rvF (f 4) (sz 1)), aI D (a 5) 16 (teF (f 5) (sz 1)), oO (t 2) 4 [.ref (r 6), .ref (r 7), .ref (r 8)], oO (r 6) 2 [.ref (a 6), .int (nI (sz 2))], oO (r 7) 2 [.ref (a 7), .int (nI (sz 2))], oO (r 8) 2 [.ref (a 8), .int (nI (sz 2))], aI D (a 6) 16 (rvF (mpF (fun z => len - z) (f 6) (sz 2)) (sz 2)), aI D (a 7) 16 (rvF (f 7) (sz 2)), aI D (a 8) 16 (teF (f 8) (sz 2)), oO (t 3) 4 [.ref (r 9), .ref (r 10), .ref (r 11)], oO (r 9) 2 [.ref (a 9), .int (nI (sz 3))], oO (r 10) 2 [.ref (a 10), .int (nI (sz 3))], oO (r 11) 2 [.ref (a 11), .int (nI (sz 3))], aI D (a 9) 16 (rvF (mpF (fun z => len - z) (f 9) (sz 3)) (sz 3)), aI D (a 10) 16 (rvF (f 10) (sz 3)), aI D (a 11) 16 (teF (f 11) (sz 3))] H := hP
  have hD : va_D A [oO xo 5 [.ref lc, .ref lt, .ref bo, .ref yo, .ref no], oO lc 7 [.int m1, .ref ec, .int (nI nC)], aO D ec 10 (lsF cl nC), oO (cl c0) 0 [.int len, .ref ta, .ref (q 0), .ref (q 1)], aT D ta 4 (tkF t), oO (q 0) 2 [.ref (b 0), .int (nI nc)], oO (q 1) 2 [.ref (b 1), .int (nI nc)], aI D (b 0) 8 (rvF (mpF (fun z => len - z) ct nc) nc), aI D (b 1) 8 (rvF cn nc), oO (t 0) 4 [.ref (r 0), .ref (r 1), .ref (r 2)], oO (r 0) 2 [.ref (a 0), .int (nI (sz 0))], oO (r 1) 2 [.ref (a 1), .int (nI (sz 0))], oO (r 2) 2 [.ref (a 2), .int (nI (sz 0))], aI D (a 0) 16 (rvF (mpF (fun z => len - z) (f 0) (sz 0)) (sz 0)), aI D (a 1) 16 (rvF (f 1) (sz 0)), aI D (a 2) 16 (teF (f 2) (sz 0)), oO (t 1) 4 [.ref (r 3), .ref (r 4), .ref (r 5)], oO (r 3) 2 [.ref (a 3), .int (nI (sz 1))], oO (r 4) 2 [.ref (a 4), .int (nI (sz 1))], oO (r 5) 2 [.ref (a 5), .int (nI (sz 1))], aI D (a 3) 16 (rvF (mpF (fun z => len - z) (f 3) (sz 1)) (sz 1)), aI D (a 4) 16 (rvF (f 4) (sz 1)), aI D (a 5) 16 (teF (f 5) (sz 1)), oO (t 2) 4 [.ref (r 6), .ref (r 7), .ref (r 8)], oO (r 6) 2 [.ref (a 6), .int (nI (sz 2))], oO (r 7) 2 [.ref (a 7), .int (nI (sz 2))], oO (r 8) 2 [.ref (a 8), .int (nI (sz 2))], aI D (a 6) 16 (rvF (mpF (fun z => len - z) (f 6) (sz 2)) (sz 2)), aI D (a 7) 16 (rvF (f 7) (sz 2)), aI D (a 8) 16 (teF (f 8) (sz 2)), oO (t 3) 4 [.ref (r 9), .ref (r 10), .ref (r 11)], oO (r 9) 2 [.ref (a 9), .int (nI (sz 3))], oO (r 10) 2 [.ref (a 10), .int (nI (sz 3))], oO (r 11) 2 [.ref (a 11), .int (nI (sz 3))], aI D (a 9) 16 (rvF (mpF (fun z => len - z) (f 9) (sz 3)) (sz 3)), aI D (a 10) 16 (rvF (f 10) (sz 3)), aI D (a 11) 16 (teF (f 11) (sz 3))] := hD
  refine lv_aload_n hx hb dX5_mirror_24 rfl (lv_at hl 0 rfl) ?_
  refine va_getN (D := D) (ci := 0) (v := .int len) (C := RX0) (T := TX0) (N := 4) hx hb hts inlX0 hown hG.K hP 3 rfl rfl 0 (by decide) (va_Nw.use rfl (nF_KeyStage_77 hG)) (fun _ h9 => h9) rfl dX5_mirror_25 ?_
  refine Wi () hx hb hr hlk ?_ hP hD hS (Nat.le_of_ble_eq_true rfl) (by first | exact Nat.le_of_ble_eq_true rfl | exact Nat.le_of_eq (Nat.zero_add _)) dX5_mirror_28
  exact rfl
set_option maxHeartbeats 4000000 in
set_option maxRecDepth 100000 in
theorem c_setBase (l : Launch) (D : va_G) {xo lc lt bo yo no : Nat} {ba : Nat} {bf : Nat → Int32} {j : Nat} {y : Int32} (hz0 : Nat) (hj : j < 4) (h : (-10000 : Int32) ≤ y ∧ y ≤ 10000) : Met l yX5_setBase (ws_ yX5_setBase cX5_setBase 4 (some .int)) ({ frames := 6, cells := 0, slots := 0, locals := 95 } : Room) (va_Pc [.ref xo, .int (nI j), .int y] (SW D [oO xo 5 [.ref lc, .ref lt, .ref bo, .ref yo, .ref no], oO bo 2 [.ref ba, .int (nI 4)], aI D ba 4 bf] hz0)) (va_Qi (fun v _ => v = bf j) (AT D (va_A [oO xo 5 [.ref lc, .ref lt, .ref bo, .ref yo, .ref no], oO bo 2 [.ref ba, .int (nI 4)], aI D ba 4 bf] hz0) (fun _ : Unit => [oO xo 5 [.ref lc, .ref lt, .ref bo, .ref yo, .ref no], oO bo 2 [.ref ba, .int (nI 4)], aI D ba 4 (upd bf j y)])) (va_A [oO xo 5 [.ref lc, .ref lt, .ref bo, .ref yo, .ref no], oO bo 2 [.ref ba, .int (nI 4)], aI D ba 4 bf] hz0)) 0 0 (va_A [oO xo 5 [.ref lc, .ref lt, .ref bo, .ref yo, .ref no], oO bo 2 [.ref ba, .int (nI 4)], aI D ba 4 bf] hz0) := by
  refine Met.ofW (cc := cX5_setBase) (maxL := 4) (ret := (some .int)) (by decide) rfl ?_
  intro p e s m args below meth c s₁ B hml hv
  obtain ⟨rfl, hsz, hG, hP, hD0⟩ := hv
  have hx := B.exec
  have hb := B.bytes
  have hr := B.returns
  have hts : ∀ w ∈ wsL_law, w.before _ s = true := fun w h => atoms_spec (ws := (ws_ yX5_setBase cX5_setBase 4 (some .int))) B.pre w (List.mem_cons_of_mem _ h)
  have hown : s.vm.findClass RX5 = some m.cls := findClass_of_methodNamed B.named
  have hlk := B.notSynchronized
  have hC : CallFix p m c cX5_setBase 4 s _ wsL_law RX5 := ⟨hx, hb, hml, hown, hts⟩
  subst hsz
  have hD := hD0.self (sz := s.heap.size)
  generalize hAe : va_A [oO xo 5 [.ref lc, .ref lt, .ref bo, .ref yo, .ref no], oO bo 2 [.ref ba, .int (nI 4)], aI D ba 4 bf] s.heap.size = A at hD ⊢
  have hA : ∀ q : Nat, s.heap.size ≤ q → A q := fun q h => by rw [← hAe]; exact Or.inr h
  have hS : va_S A s.heap s.heap [] := va_S.rf
  obtain ⟨H, hHe⟩ : ∃ H, H = s.heap := ⟨_, rfl⟩
  rw [← hHe] at hP
  have hS : va_S A s.heap H [] := by rw [hHe]; exact hS
  have hl := lv_entry ([.ref xo, .int (nI j), .int y]) (n := 4) (Nat.le_of_ble_eq_true rfl)
  rw [lg_entry_eq]
  generalize (lg_sl ([.ref xo, .int (nI j), .int y]) ++ List.replicate (4 - (lg_sl ([.ref xo, .int (nI j), .int y])).length) Slot.unset).toArray = ls at hl ⊢
  have hl : lv_has ls 4 [(0, .ref xo), (1, .int (nI j)), (2, .int y)] := hl
  rw [← hHe]
  refine lv_iload_n hx hb dX5_setBase_0 rfl (lv_at hl 1 rfl) ?_
  have hP9 : va_P D cls [] H := fun k q h => by simp at h
  refine vp_callSi (pS (rest := []) [.int (nI j)] 1 hC (c_isProperty l D (x := nI j) ) (gS mM_X5_166 mT_X5_isProperty mN_X5 mC_X5_isProperty) (by decide +kernel) rfl rfl ⟨Nat.le_of_ble_eq_true rfl, Nat.le_of_ble_eq_true rfl⟩ hG hP9 rfl hl.1 rfl (Nat.le_of_ble_eq_true rfl) dX5_setBase_1 ⟨Nat.le_of_ble_eq_true rfl, Nat.le_of_ble_eq_true rfl⟩) (fun r1 h1 => ?_)
  rcases h1 with ⟨rfl, hb1⟩ | ⟨rfl, hb1⟩
  rotate_left
  · exact absurd (in3 hj) hb1
  refine lv_if_ne (tgt := 17) hx hb dX5_setBase_4 (by decide) (fun _ => ?_) (fun h9 => absurd h9 (by decide))
  refine lv_iload_n hx hb dX5_setBase_17 rfl (lv_at hl 2 rfl) ?_
  have hP9 : va_P D cls [] H := fun k q h => by simp at h
  refine vp_callSi (pS (rest := []) [.int y] 1 hC (c_isValue l D (x := y) ) (gS mM_X5_93 mT_X5_isValue mN_X5 mC_X5_isValue) (by decide +kernel) rfl rfl ⟨Nat.le_of_ble_eq_true rfl, Nat.le_of_ble_eq_true rfl⟩ hG hP9 rfl hl.1 rfl (Nat.le_of_ble_eq_true rfl) dX5_setBase_18 ⟨Nat.le_of_ble_eq_true rfl, Nat.le_of_ble_eq_true rfl⟩) (fun r18 h18 => ?_)
  rcases h18 with ⟨rfl, hb18⟩ | ⟨rfl, hb18⟩
  rotate_left
  · exact absurd (h) hb18
  refine lv_if_ne (tgt := 34) hx hb dX5_setBase_21 (by decide) (fun _ => ?_) (fun h9 => absurd h9 (by decide))
  refine lv_aload_n hx hb dX5_setBase_34 rfl (lv_at hl 0 rfl) ?_
  refine va_get (D := D) (ci := 5) (v := .ref bo) (C := RX5) (T := TX5) (N := 5) hx hb hts inlX5 hown hG.K hP 0 rfl rfl 2 (by decide) (hts _ mF_X5_24) (fun _ h9 => h9) rfl dX5_setBase_35 ?_
  refine lv_iload_n hx hb dX5_setBase_38 rfl (lv_at hl 1 rfl) ?_
  have hP9 := hP.sub (ws' := [oO bo 2 [.ref ba, .int (nI 4)], aI D ba 4 bf]) [1, 2] rfl
  refine vp_callSi (pV (rest := []) (qc := (RX2, TX2, 2)) [.int (nI j)] 1 hC (c_get l D (r := bo) (j := j) (a := ba) (sz := 4) (n := 4) (f := bf) (by omega) (by omega) (by omega)) rfl (hP 1 _ rfl) (gV mM_X5_173 mI_X2_get mS_X2_get mN_X2 mC_X2_get) (by decide +kernel) rfl rfl ⟨Nat.le_of_ble_eq_true rfl, Nat.le_of_ble_eq_true rfl⟩ hG hP9 rfl hl.1 rfl (Nat.le_of_ble_eq_true rfl) dX5_setBase_39 ⟨Nat.le_of_ble_eq_true rfl, Nat.le_of_ble_eq_true rfl⟩) (fun r39 h39 => ?_)
  obtain rfl : r39 = (bf j) := h39
  refine lv_istore_n (lv' := [(3, .int (bf j)), (0, .ref xo), (1, .int (nI j)), (2, .int y)]) hx hb dX5_setBase_42 rfl hl (by decide) rfl (fun ls hl => ?_)
  refine lv_aload_n hx hb dX5_setBase_43 rfl (lv_at hl 1 rfl) ?_
  refine va_get (D := D) (ci := 5) (v := .ref bo) (C := RX5) (T := TX5) (N := 5) hx hb hts inlX5 hown hG.K hP 0 rfl rfl 2 (by decide) (hts _ mF_X5_24) (fun _ h9 => h9) rfl dX5_setBase_44 ?_
  refine lv_iload_n hx hb dX5_setBase_47 rfl (lv_at hl 2 rfl) ?_
  refine lv_iload_n hx hb dX5_setBase_48 rfl (lv_at hl 3 rfl) ?_
  have hP9 := hP.sub (ws' := [oO bo 2 [.ref ba, .int (nI 4)], aI D ba 4 bf]) [1, 2] rfl
  have hD9 := (hD.sub (ws' := [oO bo 2 [.ref ba, .int (nI 4)], aI D ba 4 bf]) [1, 2] (by decide) rfl).weaken (B := fun _ => True) (fun _ _ _ _ => trivial)
  refine kv (wr := [oO xo 5 [.ref lc, .ref lt, .ref bo, .ref yo, .ref no]]) (rV (rest := []) (qc := (RX2, TX2, 2)) [.int (nI j), .int y] 2 0 0 hC (c_set l D (r := bo) (j := j) (x := y) (a := ba) (sz := 4) (n := 4) (f := bf) (hz0 := H.size) (by omega) (by omega) (by omega)) rfl (hP 1 _ rfl) (gV mM_X5_176 mI_X2_set mS_X2_set mN_X2 mC_X2_set) (by decide +kernel) rfl rfl ⟨Nat.le_of_ble_eq_true rfl, Nat.le_of_ble_eq_true rfl⟩ hG hP9 hD9 rfl hl.1 rfl (Nat.le_of_ble_eq_true rfl) dX5_setBase_49 ⟨Nat.le_of_ble_eq_true rfl, Nat.le_of_ble_eq_true rfl⟩) hP hD hS hA [1, 2] [0] rfl rfl (by decide) (by decide) (fun u49 H locs h49 hP hD hS hz hfr => ?_)
  have hP : va_P D cls [oO xo 5 [.ref lc, .ref lt, .ref bo, .ref yo, .ref no], oO bo 2 [.ref ba, .int (nI 4)], aI D ba 4 (upd bf j y)] H := hP
  have hD : va_D A [oO xo 5 [.ref lc, .ref lt, .ref bo, .ref yo, .ref no], oO bo 2 [.ref ba, .int (nI 4)], aI D ba 4 (upd bf j y)] := hD
  refine lv_iload_n hx hb dX5_setBase_52 rfl (lv_at hl 0 rfl) ?_
  refine Wi () hx hb hr hlk ?_ hP hD hS (Nat.le_of_ble_eq_true rfl) (by first | exact Nat.le_of_ble_eq_true rfl | exact Nat.le_of_eq (Nat.zero_add _)) dX5_setBase_53
  exact rfl
