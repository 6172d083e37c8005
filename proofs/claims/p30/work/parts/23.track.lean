set_option maxHeartbeats 4000000 in
set_option maxRecDepth 100000 in
theorem c_count (l : Launch) (D : va_G) {t r1 r2 r3 a1 a2 a3 sz : Nat} {ft fv fe : Nat → Int32}  : Met l yX4_count (ws_ yX4_count cX4_count 1 (some .int)) ({ frames := 1, cells := 0, slots := 0, locals := 20 } : Room) (va_Pc [.ref t] (PW D [oO t 4 [.ref r1, .ref r2, .ref r3], oO r1 2 [.ref a1, .int (nI sz)], oO r2 2 [.ref a2, .int (nI sz)], oO r3 2 [.ref a3, .int (nI sz)], aI D a1 16 ft, aI D a2 16 fv, aI D a3 16 fe])) (vp_Si (fun v => v = nI sz)) 0 0 (fun _ => False) := by
  refine Met.ofW (cc := cX4_count) (maxL := 1) (ret := (some .int)) (by decide) rfl ?_
  intro p e s m args below meth c s₁ B hml hv
  obtain ⟨rfl, hG, hP⟩ := hv
  have hx := B.exec
  have hb := B.bytes
  have hr := B.returns
  have hts : ∀ w ∈ wsL_law, w.before _ s = true := fun w h => atoms_spec (ws := (ws_ yX4_count cX4_count 1 (some .int))) B.pre w (List.mem_cons_of_mem _ h)
  have hown : s.vm.findClass RX4 = some m.cls := findClass_of_methodNamed B.named
  have hlk := B.notSynchronized
  have hC : CallFix p m c cX4_count 1 s _ wsL_law RX4 := ⟨hx, hb, hml, hown, hts⟩
  have hl := lv_entry ([.ref t]) (n := 1) (Nat.le_of_ble_eq_true rfl)
  rw [lg_entry_eq]
  generalize (lg_sl ([.ref t]) ++ List.replicate (1 - (lg_sl ([.ref t])).length) Slot.unset).toArray = ls at hl ⊢
  have hl : lv_has ls 1 [(0, .ref t)] := hl
  refine lv_aload_n hx hb dX4_count_0 rfl (lv_at hl 0 rfl) ?_
  refine va_get (D := D) (ci := 4) (v := .ref r1) (C := RX4) (T := TX4) (N := 3) hx hb hts inlX4 hown hG.K hP 0 rfl rfl 0 (by decide) (hts _ mF_X4_14) (fun _ h9 => h9) rfl dX4_count_1 ?_
  have hP9 := hP.sub (ws' := [oO r1 2 [.ref a1, .int (nI sz)], aI D a1 16 ft]) [1, 4] rfl
  refine vp_callSi (pV (rest := []) (qc := (RX2, TX2, 2)) [] 0 hC (c_size l D (r := r1) (a := a1) (sz := sz) (n := 16) (f := ft) ) rfl (hP 1 _ rfl) (gV mM_X4_26 mI_X2_size mS_X2_size mN_X2 mC_X2_size) (by decide +kernel) rfl rfl ⟨Nat.le_of_ble_eq_true rfl, Nat.le_of_ble_eq_true rfl⟩ hG hP9 rfl hl.1 rfl (Nat.le_of_ble_eq_true rfl) dX4_count_4 ⟨Nat.le_of_ble_eq_true rfl, Nat.le_of_ble_eq_true rfl⟩) (fun r4 h4 => ?_)
  obtain rfl : r4 = (nI sz) := h4
  refine Ri hx hb hr hlk ?_ dX4_count_7
  exact rfl
set_option maxHeartbeats 4000000 in
set_option maxRecDepth 100000 in
theorem c_fact (l : Launch) (D : va_G) {t r1 r2 r3 a1 a2 a3 sz : Nat} {ft fv fe : Nat → Int32} {j : Nat} {w : Int32} (hs : sz ≤ 16) (hj : j < sz) : Met l yX4_fact (ws_ yX4_fact cX4_fact 3 (some .int)) ({ frames := 2, cells := 0, slots := 0, locals := 42 } : Room) (va_Pc [.ref t, .int (nI j), .int w] (PW D [oO t 4 [.ref r1, .ref r2, .ref r3], oO r1 2 [.ref a1, .int (nI sz)], oO r2 2 [.ref a2, .int (nI sz)], oO r3 2 [.ref a3, .int (nI sz)], aI D a1 16 ft, aI D a2 16 fv, aI D a3 16 fe])) (vp_Si (fun v => v = if w = 0 then ft j else if w = 1 then fv j else fe j)) 0 0 (fun _ => False) := by
  refine Met.ofW (cc := cX4_fact) (maxL := 3) (ret := (some .int)) (by decide) rfl ?_
  intro p e s m args below meth c s₁ B hml hv
  obtain ⟨rfl, hG, hP⟩ := hv
  have hx := B.exec
  have hb := B.bytes
  have hr := B.returns
  have hts : ∀ w ∈ wsL_law, w.before _ s = true := fun w h => atoms_spec (ws := (ws_ yX4_fact cX4_fact 3 (some .int))) B.pre w (List.mem_cons_of_mem _ h)
  have hown : s.vm.findClass RX4 = some m.cls := findClass_of_methodNamed B.named
  have hlk := B.notSynchronized
  have hC : CallFix p m c cX4_fact 3 s _ wsL_law RX4 := ⟨hx, hb, hml, hown, hts⟩
  have hl := lv_entry ([.ref t, .int (nI j), .int w]) (n := 3) (Nat.le_of_ble_eq_true rfl)
  rw [lg_entry_eq]
  generalize (lg_sl ([.ref t, .int (nI j), .int w]) ++ List.replicate (3 - (lg_sl ([.ref t, .int (nI j), .int w])).length) Slot.unset).toArray = ls at hl ⊢
  have hl : lv_has ls 3 [(0, .ref t), (1, .int (nI j)), (2, .int w)] := hl
  refine lv_iload_n hx hb dX4_fact_0 rfl (lv_at hl 2 rfl) ?_
  rcases sw2 w with h0 | h1 | ⟨h0, h1⟩
  · skip
    refine tpi (y := 0) (h0) ?_
    refine lv_lookup (off := 27) (tgt := 28) hx hb dX4_fact_1 (by decide) (by decide) (by decide) ?_
    refine lv_aload_n hx hb dX4_fact_28 rfl (lv_at hl 0 rfl) ?_
    refine va_get (D := D) (ci := 4) (v := .ref r1) (C := RX4) (T := TX4) (N := 3) hx hb hts inlX4 hown hG.K hP 0 rfl rfl 0 (by decide) (hts _ mF_X4_14) (fun _ h9 => h9) rfl dX4_fact_29 ?_
    refine lv_iload_n hx hb dX4_fact_32 rfl (lv_at hl 1 rfl) ?_
    have hP9 := hP.sub (ws' := [oO r1 2 [.ref a1, .int (nI sz)], aI D a1 16 ft]) [1, 4] rfl
    refine vp_callSi (pV (rest := []) (qc := (RX2, TX2, 2)) [.int (nI j)] 1 hC (c_get l D (r := r1) (j := j) (a := a1) (sz := sz) (n := 16) (f := ft) (by omega) (by omega) (by omega)) rfl (hP 1 _ rfl) (gV mM_X4_30 mI_X2_get mS_X2_get mN_X2 mC_X2_get) (by decide +kernel) rfl rfl ⟨Nat.le_of_ble_eq_true rfl, Nat.le_of_ble_eq_true rfl⟩ hG hP9 rfl hl.1 rfl (Nat.le_of_ble_eq_true rfl) dX4_fact_33 ⟨Nat.le_of_ble_eq_true rfl, Nat.le_of_ble_eq_true rfl⟩) (fun r33 h33 => ?_)
    obtain rfl : r33 = (ft j) := h33
    refine Ri hx hb hr hlk ?_ dX4_fact_36
    show _ = _
    first | (rw [if_pos h0]; done) | (rw [if_neg h0, if_neg h1]; done) | (rw [h1]; rfl)
  · skip
    refine tpi (y := 1) (h1) ?_
    refine lv_lookup (off := 36) (tgt := 37) hx hb dX4_fact_1 (by decide) (by decide) (by decide) ?_
    refine lv_aload_n hx hb dX4_fact_37 rfl (lv_at hl 0 rfl) ?_
    refine va_get (D := D) (ci := 4) (v := .ref r2) (C := RX4) (T := TX4) (N := 3) hx hb hts inlX4 hown hG.K hP 0 rfl rfl 1 (by decide) (hts _ mF_X4_20) (fun _ h9 => h9) rfl dX4_fact_38 ?_
    refine lv_iload_n hx hb dX4_fact_41 rfl (lv_at hl 1 rfl) ?_
    have hP9 := hP.sub (ws' := [oO r2 2 [.ref a2, .int (nI sz)], aI D a2 16 fv]) [2, 5] rfl
    refine vp_callSi (pV (rest := []) (qc := (RX2, TX2, 2)) [.int (nI j)] 1 hC (c_get l D (r := r2) (j := j) (a := a2) (sz := sz) (n := 16) (f := fv) (by omega) (by omega) (by omega)) rfl (hP 2 _ rfl) (gV mM_X4_30 mI_X2_get mS_X2_get mN_X2 mC_X2_get) (by decide +kernel) rfl rfl ⟨Nat.le_of_ble_eq_true rfl, Nat.le_of_ble_eq_true rfl⟩ hG hP9 rfl hl.1 rfl (Nat.le_of_ble_eq_true rfl) dX4_fact_42 ⟨Nat.le_of_ble_eq_true rfl, Nat.le_of_ble_eq_true rfl⟩) (fun r42 h42 => ?_)
    obtain rfl : r42 = (fv j) := h42
    refine Ri hx hb hr hlk ?_ dX4_fact_45
    show _ = _
    first | (rw [if_pos h0]; done) | (rw [if_neg h0, if_neg h1]; done) | (rw [h1]; rfl)
  · skip
    refine lv_lookup (off := 45) (tgt := 46) hx hb dX4_fact_1 (by decide) ((lv_osw h0 rfl).trans ((lv_osw h1 rfl).trans rfl)) (by decide) ?_
    refine lv_aload_n hx hb dX4_fact_46 rfl (lv_at hl 0 rfl) ?_
    refine va_get (D := D) (ci := 4) (v := .ref r3) (C := RX4) (T := TX4) (N := 3) hx hb hts inlX4 hown hG.K hP 0 rfl rfl 2 (by decide) (hts _ mF_X4_23) (fun _ h9 => h9) rfl dX4_fact_47 ?_
    refine lv_iload_n hx hb dX4_fact_50 rfl (lv_at hl 1 rfl) ?_
    have hP9 := hP.sub (ws' := [oO r3 2 [.ref a3, .int (nI sz)], aI D a3 16 fe]) [3, 6] rfl
    refine vp_callSi (pV (rest := []) (qc := (RX2, TX2, 2)) [.int (nI j)] 1 hC (c_get l D (r := r3) (j := j) (a := a3) (sz := sz) (n := 16) (f := fe) (by omega) (by omega) (by omega)) rfl (hP 3 _ rfl) (gV mM_X4_30 mI_X2_get mS_X2_get mN_X2 mC_X2_get) (by decide +kernel) rfl rfl ⟨Nat.le_of_ble_eq_true rfl, Nat.le_of_ble_eq_true rfl⟩ hG hP9 rfl hl.1 rfl (Nat.le_of_ble_eq_true rfl) dX4_fact_51 ⟨Nat.le_of_ble_eq_true rfl, Nat.le_of_ble_eq_true rfl⟩) (fun r51 h51 => ?_)
    obtain rfl : r51 = (fe j) := h51
    refine Ri hx hb hr hlk ?_ dX4_fact_54
    show _ = _
    first | (rw [if_pos h0]; done) | (rw [if_neg h0, if_neg h1]; done) | (rw [h1]; rfl)
set_option maxHeartbeats 4000000 in
set_option maxRecDepth 100000 in
theorem c_hasKeyAt (l : Launch) (D : va_G) {t r1 r2 r3 a1 a2 a3 sz : Nat} {ft fv fe : Nat → Int32} {x : Int32} (hs : sz ≤ 16) : Met l yX4_hasKeyAt (ws_ yX4_hasKeyAt cX4_hasKeyAt 3 (some .boolean)) ({ frames := 3, cells := 0, slots := 0, locals := 64 } : Room) (va_Pc [.ref t, .int x] (PW D [oO t 4 [.ref r1, .ref r2, .ref r3], oO r1 2 [.ref a1, .int (nI sz)], oO r2 2 [.ref a2, .int (nI sz)], oO r3 2 [.ref a3, .int (nI sz)], aI D a1 16 ft, aI D a2 16 fv, aI D a3 16 fe])) (vp_Si (fun v => (v = 1 ∧ (0 < cntLe ft x sz ∧ ft (cntLe ft x sz - 1) = x)) ∨ (v = 0 ∧ ¬ (0 < cntLe ft x sz ∧ ft (cntLe ft x sz - 1) = x)))) 0 0 (fun _ => False) := by
  refine Met.ofW (cc := cX4_hasKeyAt) (maxL := 3) (ret := (some .boolean)) (by decide) rfl ?_
  intro p e s m args below meth c s₁ B hml hv
  obtain ⟨rfl, hG, hP⟩ := hv
  have hx := B.exec
  have hb := B.bytes
  have hr := B.returns
  have hts : ∀ w ∈ wsL_law, w.before _ s = true := fun w h => atoms_spec (ws := (ws_ yX4_hasKeyAt cX4_hasKeyAt 3 (some .boolean))) B.pre w (List.mem_cons_of_mem _ h)
  have hown : s.vm.findClass RX4 = some m.cls := findClass_of_methodNamed B.named
  have hlk := B.notSynchronized
  have hC : CallFix p m c cX4_hasKeyAt 3 s _ wsL_law RX4 := ⟨hx, hb, hml, hown, hts⟩
  have hl := lv_entry ([.ref t, .int x]) (n := 3) (Nat.le_of_ble_eq_true rfl)
  rw [lg_entry_eq]
  generalize (lg_sl ([.ref t, .int x]) ++ List.replicate (3 - (lg_sl ([.ref t, .int x])).length) Slot.unset).toArray = ls at hl ⊢
  have hl : lv_has ls 3 [(0, .ref t), (1, .int x)] := hl
  have hcl := cntLe_le ft x sz
  refine lv_aload_n hx hb dX4_hasKeyAt_0 rfl (lv_at hl 0 rfl) ?_
  refine va_get (D := D) (ci := 4) (v := .ref r1) (C := RX4) (T := TX4) (N := 3) hx hb hts inlX4 hown hG.K hP 0 rfl rfl 0 (by decide) (hts _ mF_X4_14) (fun _ h9 => h9) rfl dX4_hasKeyAt_1 ?_
  refine lv_iload_n hx hb dX4_hasKeyAt_4 rfl (lv_at hl 1 rfl) ?_
  have hP9 := hP.sub (ws' := [oO r1 2 [.ref a1, .int (nI sz)], aI D a1 16 ft]) [1, 4] rfl
  refine vp_callSi (pV (rest := []) (qc := (RX2, TX2, 2)) [.int x] 1 hC (c_countUpTo l D (r := r1) (x := x) (a := a1) (sz := sz) (n := 16) (f := ft) (by omega) (by omega)) rfl (hP 1 _ rfl) (gV mM_X4_34 mI_X2_countUpTo mS_X2_countUpTo mN_X2 mC_X2_countUpTo) (by decide +kernel) rfl rfl ⟨Nat.le_of_ble_eq_true rfl, Nat.le_of_ble_eq_true rfl⟩ hG hP9 rfl hl.1 rfl (Nat.le_of_ble_eq_true rfl) dX4_hasKeyAt_5 ⟨Nat.le_of_ble_eq_true rfl, Nat.le_of_ble_eq_true rfl⟩) (fun r5 h5 => ?_)
  obtain rfl : r5 = (nI (cntLe ft x sz)) := h5
  refine lv_istore_n (lv' := [(2, .int (nI (cntLe ft x sz))), (0, .ref t), (1, .int x)]) hx hb dX4_hasKeyAt_8 rfl hl (by decide) rfl (fun ls hl => ?_)
  refine lv_iload_n hx hb dX4_hasKeyAt_9 rfl (lv_at hl 0 rfl) ?_
  refine lv_if_le (tgt := 31) hx hb dX4_hasKeyAt_10 (by decide) (fun c10 => ?_) (fun c10 => ?_)
  · skip
    have n10 := (nI_leI (a := cntLe ft x sz) (b := 0) (by omega) (by omega)).mp c10
    refine lv_iconst (v := 0) hx hb dX4_hasKeyAt_31 (by decide) ?_
    refine Rz hx hb hr hlk (by first | rfl | decide) ?_ dX4_hasKeyAt_32
    first
    | exact Or.inl ⟨rfl, by omega, c24⟩
    | exact Or.inr ⟨rfl, fun h => c24 h.2⟩
    | exact Or.inr ⟨rfl, fun h => by have := h.1; omega⟩
  · skip
    have n10 := mt (nI_leI (a := cntLe ft x sz) (b := 0) (by omega) (by omega)).mpr c10
    refine lv_aload_n hx hb dX4_hasKeyAt_13 rfl (lv_at hl 1 rfl) ?_
    refine va_get (D := D) (ci := 4) (v := .ref r1) (C := RX4) (T := TX4) (N := 3) hx hb hts inlX4 hown hG.K hP 0 rfl rfl 0 (by decide) (hts _ mF_X4_14) (fun _ h9 => h9) rfl dX4_hasKeyAt_14 ?_
    refine lv_iload_n hx hb dX4_hasKeyAt_17 rfl (lv_at hl 0 rfl) ?_
    refine lv_iconst (v := 1) hx hb dX4_hasKeyAt_18 (by decide) ?_
    refine lv_isub hx hb dX4_hasKeyAt_19 ?_
    refine tpi (y := nI ((cntLe ft x sz) - 1)) (pk_sub (a := (cntLe ft x sz)) (b := 1) (by omega)) ?_
    have hP9 := hP.sub (ws' := [oO r1 2 [.ref a1, .int (nI sz)], aI D a1 16 ft]) [1, 4] rfl
    refine vp_callSi (pV (rest := []) (qc := (RX2, TX2, 2)) [.int (nI ((cntLe ft x sz) - 1))] 1 hC (c_get l D (r := r1) (j := (cntLe ft x sz) - 1) (a := a1) (sz := sz) (n := 16) (f := ft) (by omega) (by omega) (by omega)) rfl (hP 1 _ rfl) (gV mM_X4_30 mI_X2_get mS_X2_get mN_X2 mC_X2_get) (by decide +kernel) rfl rfl ⟨Nat.le_of_ble_eq_true rfl, Nat.le_of_ble_eq_true rfl⟩ hG hP9 rfl hl.1 rfl (Nat.le_of_ble_eq_true rfl) dX4_hasKeyAt_20 ⟨Nat.le_of_ble_eq_true rfl, Nat.le_of_ble_eq_true rfl⟩) (fun r20 h20 => ?_)
    obtain rfl : r20 = (ft ((cntLe ft x sz) - 1)) := h20
    refine lv_iload_n hx hb dX4_hasKeyAt_23 rfl (lv_at hl 2 rfl) ?_
    refine lv_icmp_ne (tgt := 31) hx hb dX4_hasKeyAt_24 (by decide) (fun c24 => ?_) (fun c24 => ?_)
    · skip
      refine lv_iconst (v := 0) hx hb dX4_hasKeyAt_31 (by decide) ?_
      refine Rz hx hb hr hlk (by first | rfl | decide) ?_ dX4_hasKeyAt_32
      first
      | exact Or.inl ⟨rfl, by omega, c24⟩
      | exact Or.inr ⟨rfl, fun h => c24 h.2⟩
      | exact Or.inr ⟨rfl, fun h => by have := h.1; omega⟩
    · skip
      refine lv_iconst (v := 1) hx hb dX4_hasKeyAt_27 (by decide) ?_
      refine lv_goto (tgt := 32) hx hb dX4_hasKeyAt_28 (by decide) ?_
      refine Rz hx hb hr hlk (by first | rfl | decide) ?_ dX4_hasKeyAt_32
      first
      | exact Or.inl ⟨rfl, by omega, c24⟩
      | exact Or.inr ⟨rfl, fun h => c24 h.2⟩
      | exact Or.inr ⟨rfl, fun h => by have := h.1; omega⟩
set_option maxHeartbeats 4000000 in
set_option maxRecDepth 100000 in
theorem c_lay_set (l : Launch) (D : va_G) {t r1 r2 r3 a1 a2 a3 sz : Nat} {ft fv fe : Nat → Int32} {x y z : Int32} (hz0 : Nat) (hs : sz ≤ 16) (hp : 0 < cntLe ft x sz ∧ ft (cntLe ft x sz - 1) = x) : Met l yX4_lay (ws_ yX4_lay cX4_lay 5 none) ({ frames := 4, cells := 0, slots := 0, locals := 86 } : Room) (va_Pc [.ref t, .int x, .int y, .int z] (SW D [oO t 4 [.ref r1, .ref r2, .ref r3], oO r1 2 [.ref a1, .int (nI sz)], oO r2 2 [.ref a2, .int (nI sz)], oO r3 2 [.ref a3, .int (nI sz)], aI D a1 16 ft, aI D a2 16 fv, aI D a3 16 fe] hz0)) (va_Qv (fun _ => True) (AT D (va_A [oO t 4 [.ref r1, .ref r2, .ref r3], oO r1 2 [.ref a1, .int (nI sz)], oO r2 2 [.ref a2, .int (nI sz)], oO r3 2 [.ref a3, .int (nI sz)], aI D a1 16 ft, aI D a2 16 fv, aI D a3 16 fe] hz0) (fun _ : Unit => [oO t 4 [.ref r1, .ref r2, .ref r3], oO r1 2 [.ref a1, .int (nI sz)], oO r2 2 [.ref a2, .int (nI sz)], oO r3 2 [.ref a3, .int (nI sz)], aI D a1 16 ft, aI D a2 16 (upd fv (cntLe ft x sz - 1) y), aI D a3 16 (upd fe (cntLe ft x sz - 1) z)])) (va_A [oO t 4 [.ref r1, .ref r2, .ref r3], oO r1 2 [.ref a1, .int (nI sz)], oO r2 2 [.ref a2, .int (nI sz)], oO r3 2 [.ref a3, .int (nI sz)], aI D a1 16 ft, aI D a2 16 fv, aI D a3 16 fe] hz0)) 0 0 (va_A [oO t 4 [.ref r1, .ref r2, .ref r3], oO r1 2 [.ref a1, .int (nI sz)], oO r2 2 [.ref a2, .int (nI sz)], oO r3 2 [.ref a3, .int (nI sz)], aI D a1 16 ft, aI D a2 16 fv, aI D a3 16 fe] hz0) := by
  refine Met.ofW (cc := cX4_lay) (maxL := 5) (ret := none) (by decide) rfl ?_
  intro p e s m args below meth c s₁ B hml hv
  obtain ⟨rfl, hsz, hG, hP, hD0⟩ := hv
  have hx := B.exec
  have hb := B.bytes
  have hr := B.returns
  have hts : ∀ w ∈ wsL_law, w.before _ s = true := fun w h => atoms_spec (ws := (ws_ yX4_lay cX4_lay 5 none)) B.pre w (List.mem_cons_of_mem _ h)
  have hown : s.vm.findClass RX4 = some m.cls := findClass_of_methodNamed B.named
  have hlk := B.notSynchronized
  have hC : CallFix p m c cX4_lay 5 s _ wsL_law RX4 := ⟨hx, hb, hml, hown, hts⟩
  subst hsz
  have hD := hD0.self (sz := s.heap.size)
  generalize hAe : va_A [oO t 4 [.ref r1, .ref r2, .ref r3], oO r1 2 [.ref a1, .int (nI sz)], oO r2 2 [.ref a2, .int (nI sz)], oO r3 2 [.ref a3, .int (nI sz)], aI D a1 16 ft, aI D a2 16 fv, aI D a3 16 fe] s.heap.size = A at hD ⊢
  have hA : ∀ q : Nat, s.heap.size ≤ q → A q := fun q h => by rw [← hAe]; exact Or.inr h
  have hS : va_S A s.heap s.heap [] := va_S.rf
  obtain ⟨H, hHe⟩ : ∃ H, H = s.heap := ⟨_, rfl⟩
  rw [← hHe] at hP
  have hS : va_S A s.heap H [] := by rw [hHe]; exact hS
  have hl := lv_entry ([.ref t, .int x, .int y, .int z]) (n := 5) (Nat.le_of_ble_eq_true rfl)
  rw [lg_entry_eq]
  generalize (lg_sl ([.ref t, .int x, .int y, .int z]) ++ List.replicate (5 - (lg_sl ([.ref t, .int x, .int y, .int z])).length) Slot.unset).toArray = ls at hl ⊢
  have hl : lv_has ls 5 [(0, .ref t), (1, .int x), (2, .int y), (3, .int z)] := hl
  rw [← hHe]
  have hcl := cntLe_le ft x sz
  refine lv_aload_n hx hb dX4_lay_0 rfl (lv_at hl 0 rfl) ?_
  refine va_get (D := D) (ci := 4) (v := .ref r1) (C := RX4) (T := TX4) (N := 3) hx hb hts inlX4 hown hG.K hP 0 rfl rfl 0 (by decide) (hts _ mF_X4_14) (fun _ h9 => h9) rfl dX4_lay_1 ?_
  refine lv_iload_n hx hb dX4_lay_4 rfl (lv_at hl 1 rfl) ?_
  have hP9 := hP.sub (ws' := [oO r1 2 [.ref a1, .int (nI sz)], aI D a1 16 ft]) [1, 4] rfl
  refine vp_callSi (pV (rest := []) (qc := (RX2, TX2, 2)) [.int x] 1 hC (c_countUpTo l D (r := r1) (x := x) (a := a1) (sz := sz) (n := 16) (f := ft) (by omega) (by omega)) rfl (hP 1 _ rfl) (gV mM_X4_34 mI_X2_countUpTo mS_X2_countUpTo mN_X2 mC_X2_countUpTo) (by decide +kernel) rfl rfl ⟨Nat.le_of_ble_eq_true rfl, Nat.le_of_ble_eq_true rfl⟩ hG hP9 rfl hl.1 rfl (Nat.le_of_ble_eq_true rfl) dX4_lay_5 ⟨Nat.le_of_ble_eq_true rfl, Nat.le_of_ble_eq_true rfl⟩) (fun r5 h5 => ?_)
  obtain rfl : r5 = (nI (cntLe ft x sz)) := h5
  refine lv_istore (lv' := [(4, .int (nI (cntLe ft x sz))), (0, .ref t), (1, .int x), (2, .int y), (3, .int z)]) hx hb dX4_lay_8 hl (by decide) rfl (fun ls hl => ?_)
  refine lv_aload_n hx hb dX4_lay_10 rfl (lv_at hl 1 rfl) ?_
  refine lv_iload_n hx hb dX4_lay_11 rfl (lv_at hl 2 rfl) ?_
  have hP9 := hP
  refine vp_callSi (pV (rest := []) (qc := (RX4, TX4, 3)) [.int x] 1 hC (c_hasKeyAt l D (t := t) (x := x) (r1 := r1) (r2 := r2) (r3 := r3) (a1 := a1) (sz := sz) (a2 := a2) (a3 := a3) (ft := ft) (fv := fv) (fe := fe) (by omega)) rfl (hP 0 _ rfl) (gV mM_X4_37 mI_X4_hasKeyAt mS_X4_hasKeyAt mN_X4 mC_X4_hasKeyAt) (by decide +kernel) rfl rfl ⟨Nat.le_of_ble_eq_true rfl, Nat.le_of_ble_eq_true rfl⟩ hG hP9 rfl hl.1 rfl (Nat.le_of_ble_eq_true rfl) dX4_lay_12 ⟨Nat.le_of_ble_eq_true rfl, Nat.le_of_ble_eq_true rfl⟩) (fun r12 h12 => ?_)
  rcases h12 with ⟨rfl, hb12⟩ | ⟨rfl, hb12⟩
  rotate_left
  · exact absurd (hp) hb12
  refine lv_if_eq (tgt := 43) hx hb dX4_lay_15 (by decide) (fun h9 => absurd h9 (by decide)) (fun _ => ?_)
  refine lv_aload_n hx hb dX4_lay_18 rfl (lv_at hl 1 rfl) ?_
  refine va_get (D := D) (ci := 4) (v := .ref r2) (C := RX4) (T := TX4) (N := 3) hx hb hts inlX4 hown hG.K hP 0 rfl rfl 1 (by decide) (hts _ mF_X4_20) (fun _ h9 => h9) rfl dX4_lay_19 ?_
  refine lv_iload hx hb dX4_lay_22 (lv_at hl 0 rfl) ?_
  refine lv_iconst (v := 1) hx hb dX4_lay_24 (by decide) ?_
  refine lv_isub hx hb dX4_lay_25 ?_
  refine tpi (y := nI ((cntLe ft x sz) - 1)) (pk_sub (a := (cntLe ft x sz)) (b := 1) (by omega)) ?_
  refine lv_iload_n hx hb dX4_lay_26 rfl (lv_at hl 3 rfl) ?_
  have hP9 := hP.sub (ws' := [oO r2 2 [.ref a2, .int (nI sz)], aI D a2 16 fv]) [2, 5] rfl
  have hD9 := (hD.sub (ws' := [oO r2 2 [.ref a2, .int (nI sz)], aI D a2 16 fv]) [2, 5] (by decide) rfl).weaken (B := fun _ => True) (fun _ _ _ _ => trivial)
  refine kv (wr := [oO t 4 [.ref r1, .ref r2, .ref r3], oO r1 2 [.ref a1, .int (nI sz)], oO r3 2 [.ref a3, .int (nI sz)], aI D a1 16 ft, aI D a3 16 fe]) (rV (rest := []) (qc := (RX2, TX2, 2)) [.int (nI ((cntLe ft x sz) - 1)), .int y] 2 0 0 hC (c_set l D (r := r2) (j := (cntLe ft x sz) - 1) (x := y) (a := a2) (sz := sz) (n := 16) (f := fv) (hz0 := H.size) (by omega) (by omega) (by omega)) rfl (hP 2 _ rfl) (gV mM_X4_41 mI_X2_set mS_X2_set mN_X2 mC_X2_set) (by decide +kernel) rfl rfl ⟨Nat.le_of_ble_eq_true rfl, Nat.le_of_ble_eq_true rfl⟩ hG hP9 hD9 rfl hl.1 rfl (Nat.le_of_ble_eq_true rfl) dX4_lay_27 ⟨Nat.le_of_ble_eq_true rfl, Nat.le_of_ble_eq_true rfl⟩) hP hD hS hA [2, 5] [0, 1, 3, 4, 6] rfl rfl (by decide) (by decide) (fun u27 H locs h27 hP hD hS hz hfr => ?_)
  have hP : va_P D cls [oO t 4 [.ref r1, .ref r2, .ref r3], oO r1 2 [.ref a1, .int (nI sz)], oO r3 2 [.ref a3, .int (nI sz)], aI D a1 16 ft, aI D a3 16 fe, oO r2 2 [.ref a2, .int (nI sz)], aI D a2 16 (upd fv ((cntLe ft x sz) - 1) y)] H := hP
  have hD : va_D A [oO t 4 [.ref r1, .ref r2, .ref r3], oO r1 2 [.ref a1, .int (nI sz)], oO r3 2 [.ref a3, .int (nI sz)], aI D a1 16 ft, aI D a3 16 fe, oO r2 2 [.ref a2, .int (nI sz)], aI D a2 16 (upd fv ((cntLe ft x sz) - 1) y)] := hD
  refine lv_aload_n hx hb dX4_lay_30 rfl (lv_at hl 1 rfl) ?_
  refine va_get (D := D) (ci := 4) (v := .ref r3) (C := RX4) (T := TX4) (N := 3) hx hb hts inlX4 hown hG.K hP 0 rfl rfl 2 (by decide) (hts _ mF_X4_23) (fun _ h9 => h9) rfl dX4_lay_31 ?_
  refine lv_iload hx hb dX4_lay_34 (lv_at hl 0 rfl) ?_
  refine lv_iconst (v := 1) hx hb dX4_lay_36 (by decide) ?_
  refine lv_isub hx hb dX4_lay_37 ?_
  refine tpi (y := nI ((cntLe ft x sz) - 1)) (pk_sub (a := (cntLe ft x sz)) (b := 1) (by omega)) ?_
  refine lv_iload_n hx hb dX4_lay_38 rfl (lv_at hl 4 rfl) ?_
  have hP9 := hP.sub (ws' := [oO r3 2 [.ref a3, .int (nI sz)], aI D a3 16 fe]) [2, 4] rfl
  have hD9 := (hD.sub (ws' := [oO r3 2 [.ref a3, .int (nI sz)], aI D a3 16 fe]) [2, 4] (by decide) rfl).weaken (B := fun _ => True) (fun _ _ _ _ => trivial)
  refine kv (wr := [oO t 4 [.ref r1, .ref r2, .ref r3], oO r1 2 [.ref a1, .int (nI sz)], aI D a1 16 ft, oO r2 2 [.ref a2, .int (nI sz)], aI D a2 16 (upd fv ((cntLe ft x sz) - 1) y)]) (rV (rest := []) (qc := (RX2, TX2, 2)) [.int (nI ((cntLe ft x sz) - 1)), .int z] 2 0 0 hC (c_set l D (r := r3) (j := (cntLe ft x sz) - 1) (x := z) (a := a3) (sz := sz) (n := 16) (f := fe) (hz0 := H.size) (by omega) (by omega) (by omega)) rfl (hP 2 _ rfl) (gV mM_X4_41 mI_X2_set mS_X2_set mN_X2 mC_X2_set) (by decide +kernel) rfl rfl ⟨Nat.le_of_ble_eq_true rfl, Nat.le_of_ble_eq_true rfl⟩ hG hP9 hD9 rfl hl.1 rfl (Nat.le_of_ble_eq_true rfl) dX4_lay_39 ⟨Nat.le_of_ble_eq_true rfl, Nat.le_of_ble_eq_true rfl⟩) hP hD hS hA [2, 4] [0, 1, 3, 5, 6] rfl rfl (by decide) (by decide) (fun u39 H locs h39 hP hD hS hz hfr => ?_)
  have hP : va_P D cls [oO t 4 [.ref r1, .ref r2, .ref r3], oO r1 2 [.ref a1, .int (nI sz)], aI D a1 16 ft, oO r2 2 [.ref a2, .int (nI sz)], aI D a2 16 (upd fv ((cntLe ft x sz) - 1) y), oO r3 2 [.ref a3, .int (nI sz)], aI D a3 16 (upd fe ((cntLe ft x sz) - 1) z)] H := hP
  have hD : va_D A [oO t 4 [.ref r1, .ref r2, .ref r3], oO r1 2 [.ref a1, .int (nI sz)], aI D a1 16 ft, oO r2 2 [.ref a2, .int (nI sz)], aI D a2 16 (upd fv ((cntLe ft x sz) - 1) y), oO r3 2 [.ref a3, .int (nI sz)], aI D a3 16 (upd fe ((cntLe ft x sz) - 1) z)] := hD
  refine Wv () hx hb hr hlk ?_ (hP.sub [0, 1, 3, 5, 2, 4, 6] rfl) (hD.sub [0, 1, 3, 5, 2, 4, 6] (by decide) rfl) hS (Nat.le_of_ble_eq_true rfl) (by first | exact Nat.le_of_ble_eq_true rfl | exact Nat.le_of_eq (Nat.zero_add _)) dX4_lay_42
  exact trivial
set_option maxHeartbeats 4000000 in
set_option maxRecDepth 100000 in
theorem c_lay_ins (l : Launch) (D : va_G) {t r1 r2 r3 a1 a2 a3 sz : Nat} {ft fv fe : Nat → Int32} {x y z : Int32} (hz0 : Nat) (hs : sz < 16) (hp : ¬ (0 < cntLe ft x sz ∧ ft (cntLe ft x sz - 1) = x)) : Met l yX4_lay (ws_ yX4_lay cX4_lay 5 none) ({ frames := 4, cells := 0, slots := 0, locals := 86 } : Room) (va_Pc [.ref t, .int x, .int y, .int z] (SW D [oO t 4 [.ref r1, .ref r2, .ref r3], oO r1 2 [.ref a1, .int (nI sz)], oO r2 2 [.ref a2, .int (nI sz)], oO r3 2 [.ref a3, .int (nI sz)], aI D a1 16 ft, aI D a2 16 fv, aI D a3 16 fe] hz0)) (va_Qv (fun _ => True) (AT D (va_A [oO t 4 [.ref r1, .ref r2, .ref r3], oO r1 2 [.ref a1, .int (nI sz)], oO r2 2 [.ref a2, .int (nI sz)], oO r3 2 [.ref a3, .int (nI sz)], aI D a1 16 ft, aI D a2 16 fv, aI D a3 16 fe] hz0) (fun _ : Unit => [oO t 4 [.ref r1, .ref r2, .ref r3], oO r1 2 [.ref a1, .int (nI (sz + 1))], oO r2 2 [.ref a2, .int (nI (sz + 1))], oO r3 2 [.ref a3, .int (nI (sz + 1))], aI D a1 16 (insF ft (cntLe ft x sz) sz x), aI D a2 16 (insF fv (cntLe ft x sz) sz y), aI D a3 16 (insF fe (cntLe ft x sz) sz z)])) (va_A [oO t 4 [.ref r1, .ref r2, .ref r3], oO r1 2 [.ref a1, .int (nI sz)], oO r2 2 [.ref a2, .int (nI sz)], oO r3 2 [.ref a3, .int (nI sz)], aI D a1 16 ft, aI D a2 16 fv, aI D a3 16 fe] hz0)) 0 0 (va_A [oO t 4 [.ref r1, .ref r2, .ref r3], oO r1 2 [.ref a1, .int (nI sz)], oO r2 2 [.ref a2, .int (nI sz)], oO r3 2 [.ref a3, .int (nI sz)], aI D a1 16 ft, aI D a2 16 fv, aI D a3 16 fe] hz0) := by
  refine Met.ofW (cc := cX4_lay) (maxL := 5) (ret := none) (by decide) rfl ?_
  intro p e s m args below meth c s₁ B hml hv
  obtain ⟨rfl, hsz, hG, hP, hD0⟩ := hv
  have hx := B.exec
  have hb := B.bytes
  have hr := B.returns
  have hts : ∀ w ∈ wsL_law, w.before _ s = true := fun w h => atoms_spec (ws := (ws_ yX4_lay cX4_lay 5 none)) B.pre w (List.mem_cons_of_mem _ h)
  have hown : s.vm.findClass RX4 = some m.cls := findClass_of_methodNamed B.named
  have hlk := B.notSynchronized
  have hC : CallFix p m c cX4_lay 5 s _ wsL_law RX4 := ⟨hx, hb, hml, hown, hts⟩
  subst hsz
  have hD := hD0.self (sz := s.heap.size)
  generalize hAe : va_A [oO t 4 [.ref r1, .ref r2, .ref r3], oO r1 2 [.ref a1, .int (nI sz)], oO r2 2 [.ref a2, .int (nI sz)], oO r3 2 [.ref a3, .int (nI sz)], aI D a1 16 ft, aI D a2 16 fv, aI D a3 16 fe] s.heap.size = A at hD ⊢
  have hA : ∀ q : Nat, s.heap.size ≤ q → A q := fun q h => by rw [← hAe]; exact Or.inr h
  have hS : va_S A s.heap s.heap [] := va_S.rf
  obtain ⟨H, hHe⟩ : ∃ H, H = s.heap := ⟨_, rfl⟩
  rw [← hHe] at hP
  have hS : va_S A s.heap H [] := by rw [hHe]; exact hS
  have hl := lv_entry ([.ref t, .int x, .int y, .int z]) (n := 5) (Nat.le_of_ble_eq_true rfl)
  rw [lg_entry_eq]
  generalize (lg_sl ([.ref t, .int x, .int y, .int z]) ++ List.replicate (5 - (lg_sl ([.ref t, .int x, .int y, .int z])).length) Slot.unset).toArray = ls at hl ⊢
  have hl : lv_has ls 5 [(0, .ref t), (1, .int x), (2, .int y), (3, .int z)] := hl
  rw [← hHe]
  have hcl := cntLe_le ft x sz
  refine lv_aload_n hx hb dX4_lay_0 rfl (lv_at hl 0 rfl) ?_
  refine va_get (D := D) (ci := 4) (v := .ref r1) (C := RX4) (T := TX4) (N := 3) hx hb hts inlX4 hown hG.K hP 0 rfl rfl 0 (by decide) (hts _ mF_X4_14) (fun _ h9 => h9) rfl dX4_lay_1 ?_
  refine lv_iload_n hx hb dX4_lay_4 rfl (lv_at hl 1 rfl) ?_
  have hP9 := hP.sub (ws' := [oO r1 2 [.ref a1, .int (nI sz)], aI D a1 16 ft]) [1, 4] rfl
  refine vp_callSi (pV (rest := []) (qc := (RX2, TX2, 2)) [.int x] 1 hC (c_countUpTo l D (r := r1) (x := x) (a := a1) (sz := sz) (n := 16) (f := ft) (by omega) (by omega)) rfl (hP 1 _ rfl) (gV mM_X4_34 mI_X2_countUpTo mS_X2_countUpTo mN_X2 mC_X2_countUpTo) (by decide +kernel) rfl rfl ⟨Nat.le_of_ble_eq_true rfl, Nat.le_of_ble_eq_true rfl⟩ hG hP9 rfl hl.1 rfl (Nat.le_of_ble_eq_true rfl) dX4_lay_5 ⟨Nat.le_of_ble_eq_true rfl, Nat.le_of_ble_eq_true rfl⟩) (fun r5 h5 => ?_)
  obtain rfl : r5 = (nI (cntLe ft x sz)) := h5
  refine lv_istore (lv' := [(4, .int (nI (cntLe ft x sz))), (0, .ref t), (1, .int x), (2, .int y), (3, .int z)]) hx hb dX4_lay_8 hl (by decide) rfl (fun ls hl => ?_)
  refine lv_aload_n hx hb dX4_lay_10 rfl (lv_at hl 1 rfl) ?_
  refine lv_iload_n hx hb dX4_lay_11 rfl (lv_at hl 2 rfl) ?_
  have hP9 := hP
  refine vp_callSi (pV (rest := []) (qc := (RX4, TX4, 3)) [.int x] 1 hC (c_hasKeyAt l D (t := t) (x := x) (r1 := r1) (r2 := r2) (r3 := r3) (a1 := a1) (sz := sz) (a2 := a2) (a3 := a3) (ft := ft) (fv := fv) (fe := fe) (by omega)) rfl (hP 0 _ rfl) (gV mM_X4_37 mI_X4_hasKeyAt mS_X4_hasKeyAt mN_X4 mC_X4_hasKeyAt) (by decide +kernel) rfl rfl ⟨Nat.le_of_ble_eq_true rfl, Nat.le_of_ble_eq_true rfl⟩ hG hP9 rfl hl.1 rfl (Nat.le_of_ble_eq_true rfl) dX4_lay_12 ⟨Nat.le_of_ble_eq_true rfl, Nat.le_of_ble_eq_true rfl⟩) (fun r12 h12 => ?_)
  rcases h12 with ⟨rfl, hb12⟩ | ⟨rfl, hb12⟩
  · exact absurd hb12 (hp)
  refine lv_if_eq (tgt := 43) hx hb dX4_lay_15 (by decide) (fun _ => ?_) (fun h9 => (h9 (by decide)).elim)
  refine lv_aload_n hx hb dX4_lay_43 rfl (lv_at hl 1 rfl) ?_
  refine va_get (D := D) (ci := 4) (v := .ref r1) (C := RX4) (T := TX4) (N := 3) hx hb hts inlX4 hown hG.K hP 0 rfl rfl 0 (by decide) (hts _ mF_X4_14) (fun _ h9 => h9) rfl dX4_lay_44 ?_
  refine lv_iload hx hb dX4_lay_47 (lv_at hl 0 rfl) ?_
  refine lv_iload_n hx hb dX4_lay_49 rfl (lv_at hl 2 rfl) ?_
  have hP9 := hP.sub (ws' := [oO r1 2 [.ref a1, .int (nI sz)], aI D a1 16 ft]) [1, 4] rfl
  have hD9 := (hD.sub (ws' := [oO r1 2 [.ref a1, .int (nI sz)], aI D a1 16 ft]) [1, 4] (by decide) rfl).weaken (B := fun _ => True) (fun _ _ _ _ => trivial)
  refine kv (wr := [oO t 4 [.ref r1, .ref r2, .ref r3], oO r2 2 [.ref a2, .int (nI sz)], oO r3 2 [.ref a3, .int (nI sz)], aI D a2 16 fv, aI D a3 16 fe]) (rV (rest := []) (qc := (RX2, TX2, 2)) [.int (nI (cntLe ft x sz)), .int x] 2 0 0 hC (c_insert l D (r := r1) (j := cntLe ft x sz) (x := x) (a := a1) (sz := sz) (n := 16) (f := ft) (hz0 := H.size) (by omega) (by omega) (by omega)) rfl (hP 1 _ rfl) (gV mM_X4_45 mI_X2_insert mS_X2_insert mN_X2 mC_X2_insert) (by decide +kernel) rfl rfl ⟨Nat.le_of_ble_eq_true rfl, Nat.le_of_ble_eq_true rfl⟩ hG hP9 hD9 rfl hl.1 rfl (Nat.le_of_ble_eq_true rfl) dX4_lay_50 ⟨Nat.le_of_ble_eq_true rfl, Nat.le_of_ble_eq_true rfl⟩) hP hD hS hA [1, 4] [0, 2, 3, 5, 6] rfl rfl (by decide) (by decide) (fun u50 H locs h50 hP hD hS hz hfr => ?_)
  have hP : va_P D cls [oO t 4 [.ref r1, .ref r2, .ref r3], oO r2 2 [.ref a2, .int (nI sz)], oO r3 2 [.ref a3, .int (nI sz)], aI D a2 16 fv, aI D a3 16 fe, oO r1 2 [.ref a1, .int (nI (sz + 1))], aI D a1 16 (insF ft (cntLe ft x sz) sz x)] H := hP
  have hD : va_D A [oO t 4 [.ref r1, .ref r2, .ref r3], oO r2 2 [.ref a2, .int (nI sz)], oO r3 2 [.ref a3, .int (nI sz)], aI D a2 16 fv, aI D a3 16 fe, oO r1 2 [.ref a1, .int (nI (sz + 1))], aI D a1 16 (insF ft (cntLe ft x sz) sz x)] := hD
  refine lv_aload_n hx hb dX4_lay_53 rfl (lv_at hl 1 rfl) ?_
  refine va_get (D := D) (ci := 4) (v := .ref r2) (C := RX4) (T := TX4) (N := 3) hx hb hts inlX4 hown hG.K hP 0 rfl rfl 1 (by decide) (hts _ mF_X4_20) (fun _ h9 => h9) rfl dX4_lay_54 ?_
  refine lv_iload hx hb dX4_lay_57 (lv_at hl 0 rfl) ?_
  refine lv_iload_n hx hb dX4_lay_59 rfl (lv_at hl 3 rfl) ?_
  have hP9 := hP.sub (ws' := [oO r2 2 [.ref a2, .int (nI sz)], aI D a2 16 fv]) [1, 3] rfl
  have hD9 := (hD.sub (ws' := [oO r2 2 [.ref a2, .int (nI sz)], aI D a2 16 fv]) [1, 3] (by decide) rfl).weaken (B := fun _ => True) (fun _ _ _ _ => trivial)
  refine kv (wr := [oO t 4 [.ref r1, .ref r2, .ref r3], oO r3 2 [.ref a3, .int (nI sz)], aI D a3 16 fe, oO r1 2 [.ref a1, .int (nI (sz + 1))], aI D a1 16 (insF ft (cntLe ft x sz) sz x)]) (rV (rest := []) (qc := (RX2, TX2, 2)) [.int (nI (cntLe ft x sz)), .int y] 2 0 0 hC (c_insert l D (r := r2) (j := cntLe ft x sz) (x := y) (a := a2) (sz := sz) (n := 16) (f := fv) (hz0 := H.size) (by omega) (by omega) (by omega)) rfl (hP 1 _ rfl) (gV mM_X4_45 mI_X2_insert mS_X2_insert mN_X2 mC_X2_insert) (by decide +kernel) rfl rfl ⟨Nat.le_of_ble_eq_true rfl, Nat.le_of_ble_eq_true rfl⟩ hG hP9 hD9 rfl hl.1 rfl (Nat.le_of_ble_eq_true rfl) dX4_lay_60 ⟨Nat.le_of_ble_eq_true rfl, Nat.le_of_ble_eq_true rfl⟩) hP hD hS hA [1, 3] [0, 2, 4, 5, 6] rfl rfl (by decide) (by decide) (fun u60 H locs h60 hP hD hS hz hfr => ?_)
  have hP : va_P D cls [oO t 4 [.ref r1, .ref r2, .ref r3], oO r3 2 [.ref a3, .int (nI sz)], aI D a3 16 fe, oO r1 2 [.ref a1, .int (nI (sz + 1))], aI D a1 16 (insF ft (cntLe ft x sz) sz x), oO r2 2 [.ref a2, .int (nI (sz + 1))], aI D a2 16 (insF fv (cntLe ft x sz) sz y)] H := hP
  have hD : va_D A [oO t 4 [.ref r1, .ref r2, .ref r3], oO r3 2 [.ref a3, .int (nI sz)], aI D a3 16 fe, oO r1 2 [.ref a1, .int (nI (sz + 1))], aI D a1 16 (insF ft (cntLe ft x sz) sz x), oO r2 2 [.ref a2, .int (nI (sz + 1))], aI D a2 16 (insF fv (cntLe ft x sz) sz y)] := hD
  refine lv_aload_n hx hb dX4_lay_63 rfl (lv_at hl 1 rfl) ?_
  refine va_get (D := D) (ci := 4) (v := .ref r3) (C := RX4) (T := TX4) (N := 3) hx hb hts inlX4 hown hG.K hP 0 rfl rfl 2 (by decide) (hts _ mF_X4_23) (fun _ h9 => h9) rfl dX4_lay_64 ?_
  refine lv_iload hx hb dX4_lay_67 (lv_at hl 0 rfl) ?_
  refine lv_iload_n hx hb dX4_lay_69 rfl (lv_at hl 4 rfl) ?_
  have hP9 := hP.sub (ws' := [oO r3 2 [.ref a3, .int (nI sz)], aI D a3 16 fe]) [1, 2] rfl
  have hD9 := (hD.sub (ws' := [oO r3 2 [.ref a3, .int (nI sz)], aI D a3 16 fe]) [1, 2] (by decide) rfl).weaken (B := fun _ => True) (fun _ _ _ _ => trivial)
  refine kv (wr := [oO t 4 [.ref r1, .ref r2, .ref r3], oO r1 2 [.ref a1, .int (nI (sz + 1))], aI D a1 16 (insF ft (cntLe ft x sz) sz x), oO r2 2 [.ref a2, .int (nI (sz + 1))], aI D a2 16 (insF fv (cntLe ft x sz) sz y)]) (rV (rest := []) (qc := (RX2, TX2, 2)) [.int (nI (cntLe ft x sz)), .int z] 2 0 0 hC (c_insert l D (r := r3) (j := cntLe ft x sz) (x := z) (a := a3) (sz := sz) (n := 16) (f := fe) (hz0 := H.size) (by omega) (by omega) (by omega)) rfl (hP 1 _ rfl) (gV mM_X4_45 mI_X2_insert mS_X2_insert mN_X2 mC_X2_insert) (by decide +kernel) rfl rfl ⟨Nat.le_of_ble_eq_true rfl, Nat.le_of_ble_eq_true rfl⟩ hG hP9 hD9 rfl hl.1 rfl (Nat.le_of_ble_eq_true rfl) dX4_lay_70 ⟨Nat.le_of_ble_eq_true rfl, Nat.le_of_ble_eq_true rfl⟩) hP hD hS hA [1, 2] [0, 3, 4, 5, 6] rfl rfl (by decide) (by decide) (fun u70 H locs h70 hP hD hS hz hfr => ?_)
  have hP : va_P D cls [oO t 4 [.ref r1, .ref r2, .ref r3], oO r1 2 [.ref a1, .int (nI (sz + 1))], aI D a1 16 (insF ft (cntLe ft x sz) sz x), oO r2 2 [.ref a2, .int (nI (sz + 1))], aI D a2 16 (insF fv (cntLe ft x sz) sz y), oO r3 2 [.ref a3, .int (nI (sz + 1))], aI D a3 16 (insF fe (cntLe ft x sz) sz z)] H := hP
  have hD : va_D A [oO t 4 [.ref r1, .ref r2, .ref r3], oO r1 2 [.ref a1, .int (nI (sz + 1))], aI D a1 16 (insF ft (cntLe ft x sz) sz x), oO r2 2 [.ref a2, .int (nI (sz + 1))], aI D a2 16 (insF fv (cntLe ft x sz) sz y), oO r3 2 [.ref a3, .int (nI (sz + 1))], aI D a3 16 (insF fe (cntLe ft x sz) sz z)] := hD
  refine Wv () hx hb hr hlk ?_ (hP.sub [0, 1, 3, 5, 2, 4, 6] rfl) (hD.sub [0, 1, 3, 5, 2, 4, 6] (by decide) rfl) hS (Nat.le_of_ble_eq_true rfl) (by first | exact Nat.le_of_ble_eq_true rfl | exact Nat.le_of_eq (Nat.zero_add _)) dX4_lay_73
  exact trivial
set_option maxHeartbeats 4000000 in
set_option maxRecDepth 100000 in
theorem c_valueBetween (l : Launch) (D : va_G) {t r1 r2 r3 a1 a2 a3 sz : Nat} {ft fv fe : Nat → Int32} {i j : Nat} {x : Int32} (hs : sz ≤ 16) (hi : i < sz) (hj : j < sz) (hd : dOK (ft j - ft i)) : Met l yX4_valueBetween (ws_ yX4_valueBetween cX4_valueBetween 11 (some .int)) ({ frames := 2, cells := 0, slots := 0, locals := 48 } : Room) (va_Pc [.ref t, .int (nI i), .int (nI j), .int x] (PW D [oO t 4 [.ref r1, .ref r2, .ref r3], oO r1 2 [.ref a1, .int (nI sz)], oO r2 2 [.ref a2, .int (nI sz)], oO r3 2 [.ref a3, .int (nI sz)], aI D a1 16 ft, aI D a2 16 fv, aI D a3 16 fe])) (vp_Si (fun v => v = vb ft fv fe i j x)) 0 0 (fun _ => False) := by
  refine Met.ofW (cc := cX4_valueBetween) (maxL := 11) (ret := (some .int)) (by decide) rfl ?_
  intro p e s m args below meth c s₁ B hml hv
  obtain ⟨rfl, hG, hP⟩ := hv
  have hx := B.exec
  have hb := B.bytes
  have hr := B.returns
  have hts : ∀ w ∈ wsL_law, w.before _ s = true := fun w h => atoms_spec (ws := (ws_ yX4_valueBetween cX4_valueBetween 11 (some .int))) B.pre w (List.mem_cons_of_mem _ h)
  have hown : s.vm.findClass RX4 = some m.cls := findClass_of_methodNamed B.named
  have hlk := B.notSynchronized
  have hC : CallFix p m c cX4_valueBetween 11 s _ wsL_law RX4 := ⟨hx, hb, hml, hown, hts⟩
  have hl := lv_entry ([.ref t, .int (nI i), .int (nI j), .int x]) (n := 11) (Nat.le_of_ble_eq_true rfl)
  rw [lg_entry_eq]
  generalize (lg_sl ([.ref t, .int (nI i), .int (nI j), .int x]) ++ List.replicate (11 - (lg_sl ([.ref t, .int (nI i), .int (nI j), .int x])).length) Slot.unset).toArray = ls at hl ⊢
  have hl : lv_has ls 11 [(0, .ref t), (1, .int (nI i)), (2, .int (nI j)), (3, .int x)] := hl
  refine lv_iload_n hx hb dX4_valueBetween_0 rfl (lv_at hl 3 rfl) ?_
  refine lv_aload_n hx hb dX4_valueBetween_1 rfl (lv_at hl 0 rfl) ?_
  refine va_get (D := D) (ci := 4) (v := .ref r1) (C := RX4) (T := TX4) (N := 3) hx hb hts inlX4 hown hG.K hP 0 rfl rfl 0 (by decide) (hts _ mF_X4_14) (fun _ h9 => h9) rfl dX4_valueBetween_2 ?_
  refine lv_iload_n hx hb dX4_valueBetween_5 rfl (lv_at hl 1 rfl) ?_
  have hP9 := hP.sub (ws' := [oO r1 2 [.ref a1, .int (nI sz)], aI D a1 16 ft]) [1, 4] rfl
  refine vp_callSi (pV (rest := [.int x]) (qc := (RX2, TX2, 2)) [.int (nI i)] 1 hC (c_get l D (r := r1) (j := i) (a := a1) (sz := sz) (n := 16) (f := ft) (by omega) (by omega) (by omega)) rfl (hP 1 _ rfl) (gV mM_X4_30 mI_X2_get mS_X2_get mN_X2 mC_X2_get) (by decide +kernel) rfl rfl ⟨Nat.le_of_ble_eq_true rfl, Nat.le_of_ble_eq_true rfl⟩ hG hP9 rfl hl.1 rfl (Nat.le_of_ble_eq_true rfl) dX4_valueBetween_6 ⟨Nat.le_of_ble_eq_true rfl, Nat.le_of_ble_eq_true rfl⟩) (fun r6 h6 => ?_)
  obtain rfl : r6 = (ft i) := h6
  refine lv_isub hx hb dX4_valueBetween_9 ?_
  refine lv_i2l hx hb dX4_valueBetween_10 rfl ?_
  refine lv_lstore (lv' := [(4, .long ((x - (ft i)).toInt64)), (0, .ref t), (1, .int (nI i)), (2, .int (nI j)), (3, .int x)]) hx hb dX4_valueBetween_11 hl (by decide) rfl (fun ls hl => ?_)
  refine lv_aload_n hx hb dX4_valueBetween_13 rfl (lv_at hl 1 rfl) ?_
  refine va_get (D := D) (ci := 4) (v := .ref r1) (C := RX4) (T := TX4) (N := 3) hx hb hts inlX4 hown hG.K hP 0 rfl rfl 0 (by decide) (hts _ mF_X4_14) (fun _ h9 => h9) rfl dX4_valueBetween_14 ?_
  refine lv_iload_n hx hb dX4_valueBetween_17 rfl (lv_at hl 3 rfl) ?_
  have hP9 := hP.sub (ws' := [oO r1 2 [.ref a1, .int (nI sz)], aI D a1 16 ft]) [1, 4] rfl
  refine vp_callSi (pV (rest := []) (qc := (RX2, TX2, 2)) [.int (nI j)] 1 hC (c_get l D (r := r1) (j := j) (a := a1) (sz := sz) (n := 16) (f := ft) (by omega) (by omega) (by omega)) rfl (hP 1 _ rfl) (gV mM_X4_30 mI_X2_get mS_X2_get mN_X2 mC_X2_get) (by decide +kernel) rfl rfl ⟨Nat.le_of_ble_eq_true rfl, Nat.le_of_ble_eq_true rfl⟩ hG hP9 rfl hl.1 rfl (Nat.le_of_ble_eq_true rfl) dX4_valueBetween_18 ⟨Nat.le_of_ble_eq_true rfl, Nat.le_of_ble_eq_true rfl⟩) (fun r18 h18 => ?_)
  obtain rfl : r18 = (ft j) := h18
  refine lv_aload_n hx hb dX4_valueBetween_21 rfl (lv_at hl 1 rfl) ?_
  refine va_get (D := D) (ci := 4) (v := .ref r1) (C := RX4) (T := TX4) (N := 3) hx hb hts inlX4 hown hG.K hP 0 rfl rfl 0 (by decide) (hts _ mF_X4_14) (fun _ h9 => h9) rfl dX4_valueBetween_22 ?_
  refine lv_iload_n hx hb dX4_valueBetween_25 rfl (lv_at hl 2 rfl) ?_
  have hP9 := hP.sub (ws' := [oO r1 2 [.ref a1, .int (nI sz)], aI D a1 16 ft]) [1, 4] rfl
  refine vp_callSi (pV (rest := [.int (ft j)]) (qc := (RX2, TX2, 2)) [.int (nI i)] 1 hC (c_get l D (r := r1) (j := i) (a := a1) (sz := sz) (n := 16) (f := ft) (by omega) (by omega) (by omega)) rfl (hP 1 _ rfl) (gV mM_X4_30 mI_X2_get mS_X2_get mN_X2 mC_X2_get) (by decide +kernel) rfl rfl ⟨Nat.le_of_ble_eq_true rfl, Nat.le_of_ble_eq_true rfl⟩ hG hP9 rfl hl.1 rfl (Nat.le_of_ble_eq_true rfl) dX4_valueBetween_26 ⟨Nat.le_of_ble_eq_true rfl, Nat.le_of_ble_eq_true rfl⟩) (fun r26 h26 => ?_)
  obtain rfl : r26 = (ft i) := h26
  refine lv_isub hx hb dX4_valueBetween_29 ?_
  refine lv_i2l hx hb dX4_valueBetween_30 rfl ?_
  refine lv_lstore (lv' := [(6, .long (((ft j) - (ft i)).toInt64)), (4, .long ((x - (ft i)).toInt64)), (0, .ref t), (1, .int (nI i)), (2, .int (nI j)), (3, .int x)]) hx hb dX4_valueBetween_31 hl (by decide) rfl (fun ls hl => ?_)
  refine lv_aload_n hx hb dX4_valueBetween_33 rfl (lv_at hl 2 rfl) ?_
  refine va_get (D := D) (ci := 4) (v := .ref r2) (C := RX4) (T := TX4) (N := 3) hx hb hts inlX4 hown hG.K hP 0 rfl rfl 1 (by decide) (hts _ mF_X4_20) (fun _ h9 => h9) rfl dX4_valueBetween_34 ?_
  refine lv_iload_n hx hb dX4_valueBetween_37 rfl (lv_at hl 3 rfl) ?_
  have hP9 := hP.sub (ws' := [oO r2 2 [.ref a2, .int (nI sz)], aI D a2 16 fv]) [2, 5] rfl
  refine vp_callSi (pV (rest := []) (qc := (RX2, TX2, 2)) [.int (nI i)] 1 hC (c_get l D (r := r2) (j := i) (a := a2) (sz := sz) (n := 16) (f := fv) (by omega) (by omega) (by omega)) rfl (hP 2 _ rfl) (gV mM_X4_30 mI_X2_get mS_X2_get mN_X2 mC_X2_get) (by decide +kernel) rfl rfl ⟨Nat.le_of_ble_eq_true rfl, Nat.le_of_ble_eq_true rfl⟩ hG hP9 rfl hl.1 rfl (Nat.le_of_ble_eq_true rfl) dX4_valueBetween_38 ⟨Nat.le_of_ble_eq_true rfl, Nat.le_of_ble_eq_true rfl⟩) (fun r38 h38 => ?_)
  obtain rfl : r38 = (fv i) := h38
  refine lv_istore (lv' := [(8, .int (fv i)), (6, .long (((ft j) - (ft i)).toInt64)), (4, .long ((x - (ft i)).toInt64)), (0, .ref t), (1, .int (nI i)), (2, .int (nI j)), (3, .int x)]) hx hb dX4_valueBetween_41 hl (by decide) rfl (fun ls hl => ?_)
  refine lv_aload_n hx hb dX4_valueBetween_43 rfl (lv_at hl 3 rfl) ?_
  refine va_get (D := D) (ci := 4) (v := .ref r2) (C := RX4) (T := TX4) (N := 3) hx hb hts inlX4 hown hG.K hP 0 rfl rfl 1 (by decide) (hts _ mF_X4_20) (fun _ h9 => h9) rfl dX4_valueBetween_44 ?_
  refine lv_iload_n hx hb dX4_valueBetween_47 rfl (lv_at hl 5 rfl) ?_
  have hP9 := hP.sub (ws' := [oO r2 2 [.ref a2, .int (nI sz)], aI D a2 16 fv]) [2, 5] rfl
  refine vp_callSi (pV (rest := []) (qc := (RX2, TX2, 2)) [.int (nI j)] 1 hC (c_get l D (r := r2) (j := j) (a := a2) (sz := sz) (n := 16) (f := fv) (by omega) (by omega) (by omega)) rfl (hP 2 _ rfl) (gV mM_X4_30 mI_X2_get mS_X2_get mN_X2 mC_X2_get) (by decide +kernel) rfl rfl ⟨Nat.le_of_ble_eq_true rfl, Nat.le_of_ble_eq_true rfl⟩ hG hP9 rfl hl.1 rfl (Nat.le_of_ble_eq_true rfl) dX4_valueBetween_48 ⟨Nat.le_of_ble_eq_true rfl, Nat.le_of_ble_eq_true rfl⟩) (fun r48 h48 => ?_)
  obtain rfl : r48 = (fv j) := h48
  refine lv_iload hx hb dX4_valueBetween_51 (lv_at hl 0 rfl) ?_
  refine lv_isub hx hb dX4_valueBetween_53 ?_
  refine lv_i2l hx hb dX4_valueBetween_54 rfl ?_
  refine lv_lstore (lv' := [(9, .long (((fv j) - (fv i)).toInt64)), (8, .int (fv i)), (6, .long (((ft j) - (ft i)).toInt64)), (4, .long ((x - (ft i)).toInt64)), (0, .ref t), (1, .int (nI i)), (2, .int (nI j)), (3, .int x)]) hx hb dX4_valueBetween_55 hl (by decide) rfl (fun ls hl => ?_)
  refine lv_aload_n hx hb dX4_valueBetween_57 rfl (lv_at hl 4 rfl) ?_
  refine va_get (D := D) (ci := 4) (v := .ref r3) (C := RX4) (T := TX4) (N := 3) hx hb hts inlX4 hown hG.K hP 0 rfl rfl 2 (by decide) (hts _ mF_X4_23) (fun _ h9 => h9) rfl dX4_valueBetween_58 ?_
  refine lv_iload_n hx hb dX4_valueBetween_61 rfl (lv_at hl 5 rfl) ?_
  have hP9 := hP.sub (ws' := [oO r3 2 [.ref a3, .int (nI sz)], aI D a3 16 fe]) [3, 6] rfl
  refine vp_callSi (pV (rest := []) (qc := (RX2, TX2, 2)) [.int (nI i)] 1 hC (c_get l D (r := r3) (j := i) (a := a3) (sz := sz) (n := 16) (f := fe) (by omega) (by omega) (by omega)) rfl (hP 3 _ rfl) (gV mM_X4_30 mI_X2_get mS_X2_get mN_X2 mC_X2_get) (by decide +kernel) rfl rfl ⟨Nat.le_of_ble_eq_true rfl, Nat.le_of_ble_eq_true rfl⟩ hG hP9 rfl hl.1 rfl (Nat.le_of_ble_eq_true rfl) dX4_valueBetween_62 ⟨Nat.le_of_ble_eq_true rfl, Nat.le_of_ble_eq_true rfl⟩) (fun r62 h62 => ?_)
  obtain rfl : r62 = (fe i) := h62
  rcases sw4 (fe i) with h0 | h1 | h2 | h3 | hsw
  · skip
    refine tpi (y := 0) (h0) ?_
    refine lv_tableIn (off := 31) (tgt := 96) hx hb dX4_valueBetween_65 (by decide) (by decide) (by decide) (by decide) ?_
    refine lv_iload hx hb dX4_valueBetween_96 (lv_at hl 1 rfl) ?_
    refine Ri hx hb hr hlk ?_ dX4_valueBetween_98
    show _ = ezed _ _ _ _ _
    rw [ezed, if_pos h0]
  · skip
    refine tpi (y := 1) (h1) ?_
    refine lv_tableIn (off := 34) (tgt := 99) hx hb dX4_valueBetween_65 (by decide) (by decide) (by decide) (by decide) ?_
    refine lv_iload hx hb dX4_valueBetween_99 (lv_at hl 1 rfl) ?_
    refine lv_lload hx hb dX4_valueBetween_101 (lv_at hl 0 rfl) ?_
    refine lv_lload hx hb dX4_valueBetween_103 (lv_at hl 3 rfl) ?_
    refine lv_lmul hx hb dX4_valueBetween_105 ?_
    refine lv_lload hx hb dX4_valueBetween_106 (lv_at hl 2 rfl) ?_
    have hP9 : va_P D cls [] s.heap := fun k q h => by simp at h
    refine vp_callSi (pSN (rest := [.int (fv i)]) [.long ((((fv j) - (fv i)).toInt64) * ((x - (ft i)).toInt64)), .long (((ft j) - (ft i)).toInt64)] 2 hC (c_rounded l D (x := (((fv j) - (fv i)).toInt64) * ((x - (ft i)).toInt64)) (y := ((ft j) - (ft i)).toInt64) ((dp1 hd).1) ((dp1 hd).2)) (nM_KeyStage_Track_55 hG) mT_X5_rounded mN_X5 mC_X5_rounded (by decide +kernel) rfl rfl ⟨Nat.le_of_ble_eq_true rfl, Nat.le_of_ble_eq_true rfl⟩ hG hP9 rfl hl.1 rfl (Nat.le_of_ble_eq_true rfl) dX4_valueBetween_108 ⟨Nat.le_of_ble_eq_true rfl, Nat.le_of_ble_eq_true rfl⟩) (fun r108 h108 => ?_)
    obtain rfl : r108 = (rnd ((((fv j) - (fv i)).toInt64) * ((x - (ft i)).toInt64)) (((ft j) - (ft i)).toInt64)) := h108
    refine lv_iadd hx hb dX4_valueBetween_111 ?_
    refine Ri hx hb hr hlk ?_ dX4_valueBetween_112
    show _ = ezed _ _ _ _ _
    rw [ezed, if_neg (by rw [h1]; decide), if_pos h1]
  · skip
    refine tpi (y := 2) (h2) ?_
    refine lv_tableIn (off := 48) (tgt := 113) hx hb dX4_valueBetween_65 (by decide) (by decide) (by decide) (by decide) ?_
    refine lv_iload hx hb dX4_valueBetween_113 (lv_at hl 1 rfl) ?_
    refine lv_lload hx hb dX4_valueBetween_115 (lv_at hl 0 rfl) ?_
    refine lv_lload hx hb dX4_valueBetween_117 (lv_at hl 3 rfl) ?_
    refine lv_lmul hx hb dX4_valueBetween_119 ?_
    refine lv_lload hx hb dX4_valueBetween_120 (lv_at hl 3 rfl) ?_
    refine lv_lmul hx hb dX4_valueBetween_122 ?_
    refine lv_lload hx hb dX4_valueBetween_123 (lv_at hl 2 rfl) ?_
    refine lv_lload hx hb dX4_valueBetween_125 (lv_at hl 2 rfl) ?_
    refine lv_lmul hx hb dX4_valueBetween_127 ?_
    have hP9 : va_P D cls [] s.heap := fun k q h => by simp at h
    refine vp_callSi (pSN (rest := [.int (fv i)]) [.long (((((fv j) - (fv i)).toInt64) * ((x - (ft i)).toInt64)) * ((x - (ft i)).toInt64)), .long ((((ft j) - (ft i)).toInt64) * (((ft j) - (ft i)).toInt64))] 2 hC (c_rounded l D (x := ((((fv j) - (fv i)).toInt64) * ((x - (ft i)).toInt64)) * ((x - (ft i)).toInt64)) (y := (((ft j) - (ft i)).toInt64) * (((ft j) - (ft i)).toInt64)) ((dp2 hd).1) ((dp2 hd).2)) (nM_KeyStage_Track_55 hG) mT_X5_rounded mN_X5 mC_X5_rounded (by decide +kernel) rfl rfl ⟨Nat.le_of_ble_eq_true rfl, Nat.le_of_ble_eq_true rfl⟩ hG hP9 rfl hl.1 rfl (Nat.le_of_ble_eq_true rfl) dX4_valueBetween_128 ⟨Nat.le_of_ble_eq_true rfl, Nat.le_of_ble_eq_true rfl⟩) (fun r128 h128 => ?_)
    obtain rfl : r128 = (rnd (((((fv j) - (fv i)).toInt64) * ((x - (ft i)).toInt64)) * ((x - (ft i)).toInt64)) ((((ft j) - (ft i)).toInt64) * (((ft j) - (ft i)).toInt64))) := h128
    refine lv_iadd hx hb dX4_valueBetween_131 ?_
    refine Ri hx hb hr hlk ?_ dX4_valueBetween_132
    show _ = ezed _ _ _ _ _
    rw [ezed, if_neg (by rw [h2]; decide), if_neg (by rw [h2]; decide), if_pos h2]
  · skip
    refine tpi (y := 3) (h3) ?_
    refine lv_tableIn (off := 68) (tgt := 133) hx hb dX4_valueBetween_65 (by decide) (by decide) (by decide) (by decide) ?_
    refine lv_iload hx hb dX4_valueBetween_133 (lv_at hl 1 rfl) ?_
    refine lv_lload hx hb dX4_valueBetween_135 (lv_at hl 0 rfl) ?_
    refine lv_lload hx hb dX4_valueBetween_137 (lv_at hl 3 rfl) ?_
    refine lv_lmul hx hb dX4_valueBetween_139 ?_
    refine lv_ldc2 hx hb hown (hts _ mH_X4_59) dX4_valueBetween_140 ?_
    refine lv_lload hx hb dX4_valueBetween_143 (lv_at hl 2 rfl) ?_
    refine lv_lmul hx hb dX4_valueBetween_145 ?_
    refine lv_lload hx hb dX4_valueBetween_146 (lv_at hl 3 rfl) ?_
    refine lv_lsub hx hb dX4_valueBetween_148 ?_
    refine lv_lmul hx hb dX4_valueBetween_149 ?_
    refine lv_lload hx hb dX4_valueBetween_150 (lv_at hl 2 rfl) ?_
    refine lv_lload hx hb dX4_valueBetween_152 (lv_at hl 2 rfl) ?_
    refine lv_lmul hx hb dX4_valueBetween_154 ?_
    have hP9 : va_P D cls [] s.heap := fun k q h => by simp at h
    refine vp_callSi (pSN (rest := [.int (fv i)]) [.long (((((fv j) - (fv i)).toInt64) * ((x - (ft i)).toInt64)) * ((2 * (((ft j) - (ft i)).toInt64)) - ((x - (ft i)).toInt64))), .long ((((ft j) - (ft i)).toInt64) * (((ft j) - (ft i)).toInt64))] 2 hC (c_rounded l D (x := ((((fv j) - (fv i)).toInt64) * ((x - (ft i)).toInt64)) * ((2 * (((ft j) - (ft i)).toInt64)) - ((x - (ft i)).toInt64))) (y := (((ft j) - (ft i)).toInt64) * (((ft j) - (ft i)).toInt64)) ((dp2 hd).1) ((dp2 hd).2)) (nM_KeyStage_Track_55 hG) mT_X5_rounded mN_X5 mC_X5_rounded (by decide +kernel) rfl rfl ⟨Nat.le_of_ble_eq_true rfl, Nat.le_of_ble_eq_true rfl⟩ hG hP9 rfl hl.1 rfl (Nat.le_of_ble_eq_true rfl) dX4_valueBetween_155 ⟨Nat.le_of_ble_eq_true rfl, Nat.le_of_ble_eq_true rfl⟩) (fun r155 h155 => ?_)
    obtain rfl : r155 = (rnd (((((fv j) - (fv i)).toInt64) * ((x - (ft i)).toInt64)) * ((2 * (((ft j) - (ft i)).toInt64)) - ((x - (ft i)).toInt64))) ((((ft j) - (ft i)).toInt64) * (((ft j) - (ft i)).toInt64))) := h155
    refine lv_iadd hx hb dX4_valueBetween_158 ?_
    refine Ri hx hb hr hlk ?_ dX4_valueBetween_159
    show _ = ezed _ _ _ _ _
    rw [ezed, if_neg (by rw [h3]; decide), if_neg (by rw [h3]; decide), if_neg (by rw [h3]; decide), if_pos h3]
  · skip
    refine lv_tableOut (tgt := 160) hx hb dX4_valueBetween_65 (hsw) (by decide) ?_
    refine lv_iload hx hb dX4_valueBetween_160 (lv_at hl 1 rfl) ?_
    refine lv_lload hx hb dX4_valueBetween_162 (lv_at hl 0 rfl) ?_
    refine lv_lload hx hb dX4_valueBetween_164 (lv_at hl 3 rfl) ?_
    refine lv_lmul hx hb dX4_valueBetween_166 ?_
    refine lv_lload hx hb dX4_valueBetween_167 (lv_at hl 3 rfl) ?_
    refine lv_lmul hx hb dX4_valueBetween_169 ?_
    refine lv_ldc2 hx hb hown (hts _ mH_X4_61) dX4_valueBetween_170 ?_
    refine lv_lload hx hb dX4_valueBetween_173 (lv_at hl 2 rfl) ?_
    refine lv_lmul hx hb dX4_valueBetween_175 ?_
    refine lv_ldc2 hx hb hown (hts _ mH_X4_59) dX4_valueBetween_176 ?_
    refine lv_lload hx hb dX4_valueBetween_179 (lv_at hl 3 rfl) ?_
    refine lv_lmul hx hb dX4_valueBetween_181 ?_
    refine lv_lsub hx hb dX4_valueBetween_182 ?_
    refine lv_lmul hx hb dX4_valueBetween_183 ?_
    refine lv_lload hx hb dX4_valueBetween_184 (lv_at hl 2 rfl) ?_
    refine lv_lload hx hb dX4_valueBetween_186 (lv_at hl 2 rfl) ?_
    refine lv_lmul hx hb dX4_valueBetween_188 ?_
    refine lv_lload hx hb dX4_valueBetween_189 (lv_at hl 2 rfl) ?_
    refine lv_lmul hx hb dX4_valueBetween_191 ?_
    have hP9 : va_P D cls [] s.heap := fun k q h => by simp at h
    refine vp_callSi (pSN (rest := [.int (fv i)]) [.long ((((((fv j) - (fv i)).toInt64) * ((x - (ft i)).toInt64)) * ((x - (ft i)).toInt64)) * ((3 * (((ft j) - (ft i)).toInt64)) - (2 * ((x - (ft i)).toInt64)))), .long (((((ft j) - (ft i)).toInt64) * (((ft j) - (ft i)).toInt64)) * (((ft j) - (ft i)).toInt64))] 2 hC (c_rounded l D (x := (((((fv j) - (fv i)).toInt64) * ((x - (ft i)).toInt64)) * ((x - (ft i)).toInt64)) * ((3 * (((ft j) - (ft i)).toInt64)) - (2 * ((x - (ft i)).toInt64)))) (y := ((((ft j) - (ft i)).toInt64) * (((ft j) - (ft i)).toInt64)) * (((ft j) - (ft i)).toInt64)) ((dp3 hd).1) ((dp3 hd).2)) (nM_KeyStage_Track_55 hG) mT_X5_rounded mN_X5 mC_X5_rounded (by decide +kernel) rfl rfl ⟨Nat.le_of_ble_eq_true rfl, Nat.le_of_ble_eq_true rfl⟩ hG hP9 rfl hl.1 rfl (Nat.le_of_ble_eq_true rfl) dX4_valueBetween_192 ⟨Nat.le_of_ble_eq_true rfl, Nat.le_of_ble_eq_true rfl⟩) (fun r192 h192 => ?_)
    obtain rfl : r192 = (rnd ((((((fv j) - (fv i)).toInt64) * ((x - (ft i)).toInt64)) * ((x - (ft i)).toInt64)) * ((3 * (((ft j) - (ft i)).toInt64)) - (2 * ((x - (ft i)).toInt64)))) (((((ft j) - (ft i)).toInt64) * (((ft j) - (ft i)).toInt64)) * (((ft j) - (ft i)).toInt64))) := h192
    refine lv_iadd hx hb dX4_valueBetween_195 ?_
    refine Ri hx hb hr hlk ?_ dX4_valueBetween_196
    show _ = ezed _ _ _ _ _
    rw [ezed, if_neg (fun h => by rw [h] at hsw; exact absurd hsw (by decide)), if_neg (fun h => by rw [h] at hsw; exact absurd hsw (by decide)), if_neg (fun h => by rw [h] at hsw; exact absurd hsw (by decide)), if_neg (fun h => by rw [h] at hsw; exact absurd hsw (by decide))]
set_option maxHeartbeats 4000000 in
set_option maxRecDepth 100000 in
theorem c_valueAt (l : Launch) (D : va_G) {t r1 r2 r3 a1 a2 a3 sz : Nat} {ft fv fe : Nat → Int32} {x : Int32} (hs : sz ≤ 16) (h0 : 0 < sz) (hT : tOK ft sz) : Met l yX4_valueAt (ws_ yX4_valueAt cX4_valueAt 4 (some .int)) ({ frames := 3, cells := 0, slots := 0, locals := 78 } : Room) (va_Pc [.ref t, .int x] (PW D [oO t 4 [.ref r1, .ref r2, .ref r3], oO r1 2 [.ref a1, .int (nI sz)], oO r2 2 [.ref a2, .int (nI sz)], oO r3 2 [.ref a3, .int (nI sz)], aI D a1 16 ft, aI D a2 16 fv, aI D a3 16 fe])) (vp_Si (fun v => v = evT sz ft fv fe x)) 0 0 (fun _ => False) := by
  refine Met.ofW (cc := cX4_valueAt) (maxL := 4) (ret := (some .int)) (by decide) rfl ?_
  intro p e s m args below meth c s₁ B hml hv
  obtain ⟨rfl, hG, hP⟩ := hv
  have hx := B.exec
  have hb := B.bytes
  have hr := B.returns
  have hts : ∀ w ∈ wsL_law, w.before _ s = true := fun w h => atoms_spec (ws := (ws_ yX4_valueAt cX4_valueAt 4 (some .int))) B.pre w (List.mem_cons_of_mem _ h)
  have hown : s.vm.findClass RX4 = some m.cls := findClass_of_methodNamed B.named
  have hlk := B.notSynchronized
  have hC : CallFix p m c cX4_valueAt 4 s _ wsL_law RX4 := ⟨hx, hb, hml, hown, hts⟩
  have hl := lv_entry ([.ref t, .int x]) (n := 4) (Nat.le_of_ble_eq_true rfl)
  rw [lg_entry_eq]
  generalize (lg_sl ([.ref t, .int x]) ++ List.replicate (4 - (lg_sl ([.ref t, .int x])).length) Slot.unset).toArray = ls at hl ⊢
  have hl : lv_has ls 4 [(0, .ref t), (1, .int x)] := hl
  have hcl := cntLe_le ft x sz
  refine lv_aload_n hx hb dX4_valueAt_0 rfl (lv_at hl 0 rfl) ?_
  refine va_get (D := D) (ci := 4) (v := .ref r1) (C := RX4) (T := TX4) (N := 3) hx hb hts inlX4 hown hG.K hP 0 rfl rfl 0 (by decide) (hts _ mF_X4_14) (fun _ h9 => h9) rfl dX4_valueAt_1 ?_
  have hP9 := hP.sub (ws' := [oO r1 2 [.ref a1, .int (nI sz)], aI D a1 16 ft]) [1, 4] rfl
  refine vp_callSi (pV (rest := []) (qc := (RX2, TX2, 2)) [] 0 hC (c_size l D (r := r1) (a := a1) (sz := sz) (n := 16) (f := ft) ) rfl (hP 1 _ rfl) (gV mM_X4_26 mI_X2_size mS_X2_size mN_X2 mC_X2_size) (by decide +kernel) rfl rfl ⟨Nat.le_of_ble_eq_true rfl, Nat.le_of_ble_eq_true rfl⟩ hG hP9 rfl hl.1 rfl (Nat.le_of_ble_eq_true rfl) dX4_valueAt_4 ⟨Nat.le_of_ble_eq_true rfl, Nat.le_of_ble_eq_true rfl⟩) (fun r4 h4 => ?_)
  obtain rfl : r4 = (nI sz) := h4
  refine lv_istore_n (lv' := [(2, .int (nI sz)), (0, .ref t), (1, .int x)]) hx hb dX4_valueAt_7 rfl hl (by decide) rfl (fun ls hl => ?_)
  refine lv_aload_n hx hb dX4_valueAt_8 rfl (lv_at hl 1 rfl) ?_
  refine va_get (D := D) (ci := 4) (v := .ref r1) (C := RX4) (T := TX4) (N := 3) hx hb hts inlX4 hown hG.K hP 0 rfl rfl 0 (by decide) (hts _ mF_X4_14) (fun _ h9 => h9) rfl dX4_valueAt_9 ?_
  refine lv_iload_n hx hb dX4_valueAt_12 rfl (lv_at hl 2 rfl) ?_
  have hP9 := hP.sub (ws' := [oO r1 2 [.ref a1, .int (nI sz)], aI D a1 16 ft]) [1, 4] rfl
  refine vp_callSi (pV (rest := []) (qc := (RX2, TX2, 2)) [.int x] 1 hC (c_countUpTo l D (r := r1) (x := x) (a := a1) (sz := sz) (n := 16) (f := ft) (by omega) (by omega)) rfl (hP 1 _ rfl) (gV mM_X4_34 mI_X2_countUpTo mS_X2_countUpTo mN_X2 mC_X2_countUpTo) (by decide +kernel) rfl rfl ⟨Nat.le_of_ble_eq_true rfl, Nat.le_of_ble_eq_true rfl⟩ hG hP9 rfl hl.1 rfl (Nat.le_of_ble_eq_true rfl) dX4_valueAt_13 ⟨Nat.le_of_ble_eq_true rfl, Nat.le_of_ble_eq_true rfl⟩) (fun r13 h13 => ?_)
  obtain rfl : r13 = (nI (cntLe ft x sz)) := h13
  refine lv_istore_n (lv' := [(3, .int (nI (cntLe ft x sz))), (2, .int (nI sz)), (0, .ref t), (1, .int x)]) hx hb dX4_valueAt_16 rfl hl (by decide) rfl (fun ls hl => ?_)
  refine lv_iload_n hx hb dX4_valueAt_17 rfl (lv_at hl 0 rfl) ?_
  refine lv_if_ne (tgt := 30) hx hb dX4_valueAt_18 (by decide) (fun c18 => ?_) (fun c18 => ?_)
  · skip
    have n18 := mt (nI_eq (a := cntLe ft x sz) (b := 0) (by omega) (by omega)).mpr c18
    refine lv_iload_n hx hb dX4_valueAt_30 rfl (lv_at hl 0 rfl) ?_
    refine lv_iload_n hx hb dX4_valueAt_31 rfl (lv_at hl 1 rfl) ?_
    refine lv_icmp_ne (tgt := 46) hx hb dX4_valueAt_32 (by decide) (fun c32 => ?_) (fun c32 => ?_)
    · skip
      have n32 := mt (nI_eq (a := cntLe ft x sz) (b := sz) (by omega) (by omega)).mpr c32
      refine lv_aload_n hx hb dX4_valueAt_46 rfl (lv_at hl 2 rfl) ?_
      refine lv_iload_n hx hb dX4_valueAt_47 rfl (lv_at hl 0 rfl) ?_
      refine lv_iconst (v := 1) hx hb dX4_valueAt_48 (by decide) ?_
      refine lv_isub hx hb dX4_valueAt_49 ?_
      refine tpi (y := nI ((cntLe ft x sz) - 1)) (pk_sub (a := (cntLe ft x sz)) (b := 1) (by omega)) ?_
      refine lv_iload_n hx hb dX4_valueAt_50 rfl (lv_at hl 0 rfl) ?_
      refine lv_iload_n hx hb dX4_valueAt_51 rfl (lv_at hl 3 rfl) ?_
      have hP9 := hP
      refine vp_callSi (pV (rest := []) (qc := (RX4, TX4, 3)) [.int (nI ((cntLe ft x sz) - 1)), .int (nI (cntLe ft x sz)), .int x] 3 hC (c_valueBetween l D (t := t) (i := (cntLe ft x sz) - 1) (j := cntLe ft x sz) (x := x) (r1 := r1) (r2 := r2) (r3 := r3) (a1 := a1) (sz := sz) (a2 := a2) (a3 := a3) (ft := ft) (fv := fv) (fe := fe) (by omega) (by omega) (by omega) (hT.d (by omega) (by omega))) rfl (hP 0 _ rfl) (gV mM_X4_51 mI_X4_valueBetween mS_X4_valueBetween mN_X4 mC_X4_valueBetween) (by decide +kernel) rfl rfl ⟨Nat.le_of_ble_eq_true rfl, Nat.le_of_ble_eq_true rfl⟩ hG hP9 rfl hl.1 rfl (Nat.le_of_ble_eq_true rfl) dX4_valueAt_52 ⟨Nat.le_of_ble_eq_true rfl, Nat.le_of_ble_eq_true rfl⟩) (fun r52 h52 => ?_)
      obtain rfl : r52 = (vb ft fv fe ((cntLe ft x sz) - 1) (cntLe ft x sz) x) := h52
      refine Ri hx hb hr hlk ?_ dX4_valueAt_55
      show _ = evT _ _ _ _ _
      rw [evT, if_neg n18, if_neg n32]
    · skip
      have n32 := (nI_eq (a := cntLe ft x sz) (b := sz) (by omega) (by omega)).mp c32
      refine lv_aload_n hx hb dX4_valueAt_35 rfl (lv_at hl 2 rfl) ?_
      refine va_get (D := D) (ci := 4) (v := .ref r2) (C := RX4) (T := TX4) (N := 3) hx hb hts inlX4 hown hG.K hP 0 rfl rfl 1 (by decide) (hts _ mF_X4_20) (fun _ h9 => h9) rfl dX4_valueAt_36 ?_
      refine lv_iload_n hx hb dX4_valueAt_39 rfl (lv_at hl 1 rfl) ?_
      refine lv_iconst (v := 1) hx hb dX4_valueAt_40 (by decide) ?_
      refine lv_isub hx hb dX4_valueAt_41 ?_
      refine tpi (y := nI (sz - 1)) (pk_sub (a := sz) (b := 1) (by omega)) ?_
      have hP9 := hP.sub (ws' := [oO r2 2 [.ref a2, .int (nI sz)], aI D a2 16 fv]) [2, 5] rfl
      refine vp_callSi (pV (rest := []) (qc := (RX2, TX2, 2)) [.int (nI (sz - 1))] 1 hC (c_get l D (r := r2) (j := sz - 1) (a := a2) (sz := sz) (n := 16) (f := fv) (by omega) (by omega) (by omega)) rfl (hP 2 _ rfl) (gV mM_X4_30 mI_X2_get mS_X2_get mN_X2 mC_X2_get) (by decide +kernel) rfl rfl ⟨Nat.le_of_ble_eq_true rfl, Nat.le_of_ble_eq_true rfl⟩ hG hP9 rfl hl.1 rfl (Nat.le_of_ble_eq_true rfl) dX4_valueAt_42 ⟨Nat.le_of_ble_eq_true rfl, Nat.le_of_ble_eq_true rfl⟩) (fun r42 h42 => ?_)
      obtain rfl : r42 = (fv (sz - 1)) := h42
      refine Ri hx hb hr hlk ?_ dX4_valueAt_45
      show _ = evT _ _ _ _ _
      rw [evT, if_neg n18, if_pos n32]
  · skip
    have n18 := (nI_eq (a := cntLe ft x sz) (b := 0) (by omega) (by omega)).mp c18
    refine lv_aload_n hx hb dX4_valueAt_21 rfl (lv_at hl 2 rfl) ?_
    refine va_get (D := D) (ci := 4) (v := .ref r2) (C := RX4) (T := TX4) (N := 3) hx hb hts inlX4 hown hG.K hP 0 rfl rfl 1 (by decide) (hts _ mF_X4_20) (fun _ h9 => h9) rfl dX4_valueAt_22 ?_
    refine lv_iconst (v := 0) hx hb dX4_valueAt_25 (by decide) ?_
    have hP9 := hP.sub (ws' := [oO r2 2 [.ref a2, .int (nI sz)], aI D a2 16 fv]) [2, 5] rfl
    refine vp_callSi (pV (rest := []) (qc := (RX2, TX2, 2)) [.int 0] 1 hC (c_get l D (r := r2) (j := 0) (a := a2) (sz := sz) (n := 16) (f := fv) (by omega) (by omega) (by omega)) rfl (hP 2 _ rfl) (gV mM_X4_30 mI_X2_get mS_X2_get mN_X2 mC_X2_get) (by decide +kernel) rfl rfl ⟨Nat.le_of_ble_eq_true rfl, Nat.le_of_ble_eq_true rfl⟩ hG hP9 rfl hl.1 rfl (Nat.le_of_ble_eq_true rfl) dX4_valueAt_26 ⟨Nat.le_of_ble_eq_true rfl, Nat.le_of_ble_eq_true rfl⟩) (fun r26 h26 => ?_)
    obtain rfl : r26 = (fv 0) := h26
    refine Ri hx hb hr hlk ?_ dX4_valueAt_29
    show _ = evT _ _ _ _ _
    rw [evT, if_pos n18]
set_option maxHeartbeats 4000000 in
set_option maxRecDepth 100000 in
theorem c_mirroredEase (l : Launch) (D : va_G) {x : Int32}  : Met l yX4_mirroredEase (ws_ yX4_mirroredEase cX4_mirroredEase 1 (some .int)) ({ frames := 0, cells := 0, slots := 0, locals := 0 } : Room) (va_Pc [.int x] (PW D [])) (vp_Si (fun v => v = mirE x)) 0 0 (fun _ => False) := by
  refine Met.ofW (cc := cX4_mirroredEase) (maxL := 1) (ret := (some .int)) (by decide) rfl ?_
  intro p e s m args below meth c s₁ B hml hv
  obtain ⟨rfl, hG, hP⟩ := hv
  have hx := B.exec
  have hb := B.bytes
  have hr := B.returns
  have hts : ∀ w ∈ wsL_law, w.before _ s = true := fun w h => atoms_spec (ws := (ws_ yX4_mirroredEase cX4_mirroredEase 1 (some .int))) B.pre w (List.mem_cons_of_mem _ h)
  have hown : s.vm.findClass RX4 = some m.cls := findClass_of_methodNamed B.named
  have hlk := B.notSynchronized
  have hC : CallFix p m c cX4_mirroredEase 1 s _ wsL_law RX4 := ⟨hx, hb, hml, hown, hts⟩
  have hl := lv_entry ([.int x]) (n := 1) (Nat.le_of_ble_eq_true rfl)
  rw [lg_entry_eq]
  generalize (lg_sl ([.int x]) ++ List.replicate (1 - (lg_sl ([.int x])).length) Slot.unset).toArray = ls at hl ⊢
  have hl : lv_has ls 1 [(0, .int x)] := hl
  refine lv_iload_n hx hb dX4_mirroredEase_0 rfl (lv_at hl 0 rfl) ?_
  refine lv_iconst (v := 2) hx hb dX4_mirroredEase_1 (by decide) ?_
  refine lv_icmp_ne (tgt := 7) hx hb dX4_mirroredEase_2 (by decide) (fun c2 => ?_) (fun c2 => ?_)
  · skip
    refine lv_iload_n hx hb dX4_mirroredEase_7 rfl (lv_at hl 0 rfl) ?_
    refine lv_iconst (v := 3) hx hb dX4_mirroredEase_8 (by decide) ?_
    refine lv_icmp_ne (tgt := 16) hx hb dX4_mirroredEase_9 (by decide) (fun c9 => ?_) (fun c9 => ?_)
    · skip
      refine lv_iload_n hx hb dX4_mirroredEase_16 rfl (lv_at hl 0 rfl) ?_
      refine Ri hx hb hr hlk ?_ dX4_mirroredEase_17
      show _ = mirE _
      first | rw [mirE, if_neg c2, if_pos c9] | rw [mirE, if_neg c2, if_neg c9]
    · skip
      refine lv_iconst (v := 2) hx hb dX4_mirroredEase_12 (by decide) ?_
      refine lv_goto (tgt := 17) hx hb dX4_mirroredEase_13 (by decide) ?_
      refine Ri hx hb hr hlk ?_ dX4_mirroredEase_17
      show _ = mirE _
      first | rw [mirE, if_neg c2, if_pos c9] | rw [mirE, if_neg c2, if_neg c9]
  · skip
    refine lv_iconst (v := 3) hx hb dX4_mirroredEase_5 (by decide) ?_
    refine Ri hx hb hr hlk ?_ dX4_mirroredEase_6
    show _ = mirE _
    rw [mirE, if_pos c2]
set_option maxHeartbeats 4000000 in
set_option maxRecDepth 100000 in
theorem c_turnAround (l : Launch) (D : va_G) {t r1 r2 r3 a1 a2 a3 sz : Nat} {ft fv fe : Nat → Int32} {x : Int32} (hz0 : Nat) (hs : sz ≤ 16) : Met l yX4_turnAround (ws_ yX4_turnAround cX4_turnAround 4 none) ({ frames := 4, cells := 0, slots := 0, locals := 87 } : Room) (va_Pc [.ref t, .int x] (SW D [oO t 4 [.ref r1, .ref r2, .ref r3], oO r1 2 [.ref a1, .int (nI sz)], oO r2 2 [.ref a2, .int (nI sz)], oO r3 2 [.ref a3, .int (nI sz)], aI D a1 16 ft, aI D a2 16 fv, aI D a3 16 fe] hz0)) (va_Qv (fun _ => True) (AT D (va_A [oO t 4 [.ref r1, .ref r2, .ref r3], oO r1 2 [.ref a1, .int (nI sz)], oO r2 2 [.ref a2, .int (nI sz)], oO r3 2 [.ref a3, .int (nI sz)], aI D a1 16 ft, aI D a2 16 fv, aI D a3 16 fe] hz0) (fun _ : Unit => [oO t 4 [.ref r1, .ref r2, .ref r3], oO r1 2 [.ref a1, .int (nI sz)], oO r2 2 [.ref a2, .int (nI sz)], oO r3 2 [.ref a3, .int (nI sz)], aI D a1 16 (rvF (mpF (fun z => x - z) ft sz) sz), aI D a2 16 (rvF fv sz), aI D a3 16 (teF fe sz)])) (va_A [oO t 4 [.ref r1, .ref r2, .ref r3], oO r1 2 [.ref a1, .int (nI sz)], oO r2 2 [.ref a2, .int (nI sz)], oO r3 2 [.ref a3, .int (nI sz)], aI D a1 16 ft, aI D a2 16 fv, aI D a3 16 fe] hz0)) 0 0 (va_A [oO t 4 [.ref r1, .ref r2, .ref r3], oO r1 2 [.ref a1, .int (nI sz)], oO r2 2 [.ref a2, .int (nI sz)], oO r3 2 [.ref a3, .int (nI sz)], aI D a1 16 ft, aI D a2 16 fv, aI D a3 16 fe] hz0) := by
  refine Met.ofW (cc := cX4_turnAround) (maxL := 4) (ret := none) (by decide) rfl ?_
  intro p e s m args below meth c s₁ B hml hv
  obtain ⟨rfl, hsz, hG, hP, hD0⟩ := hv
  have hx := B.exec
  have hb := B.bytes
  have hr := B.returns
  have hts : ∀ w ∈ wsL_law, w.before _ s = true := fun w h => atoms_spec (ws := (ws_ yX4_turnAround cX4_turnAround 4 none)) B.pre w (List.mem_cons_of_mem _ h)
  have hown : s.vm.findClass RX4 = some m.cls := findClass_of_methodNamed B.named
  have hlk := B.notSynchronized
  have hC : CallFix p m c cX4_turnAround 4 s _ wsL_law RX4 := ⟨hx, hb, hml, hown, hts⟩
  subst hsz
  have hD := hD0.self (sz := s.heap.size)
  generalize hAe : va_A [oO t 4 [.ref r1, .ref r2, .ref r3], oO r1 2 [.ref a1, .int (nI sz)], oO r2 2 [.ref a2, .int (nI sz)], oO r3 2 [.ref a3, .int (nI sz)], aI D a1 16 ft, aI D a2 16 fv, aI D a3 16 fe] s.heap.size = A at hD ⊢
  have hA : ∀ q : Nat, s.heap.size ≤ q → A q := fun q h => by rw [← hAe]; exact Or.inr h
  have hS : va_S A s.heap s.heap [] := va_S.rf
  obtain ⟨H, hHe⟩ : ∃ H, H = s.heap := ⟨_, rfl⟩
  rw [← hHe] at hP
  have hS : va_S A s.heap H [] := by rw [hHe]; exact hS
  have hl := lv_entry ([.ref t, .int x]) (n := 4) (Nat.le_of_ble_eq_true rfl)
  rw [lg_entry_eq]
  generalize (lg_sl ([.ref t, .int x]) ++ List.replicate (4 - (lg_sl ([.ref t, .int x])).length) Slot.unset).toArray = ls at hl ⊢
  have hl : lv_has ls 4 [(0, .ref t), (1, .int x)] := hl
  rw [← hHe]
  refine lv_aload_n hx hb dX4_turnAround_0 rfl (lv_at hl 0 rfl) ?_
  refine va_get (D := D) (ci := 4) (v := .ref r1) (C := RX4) (T := TX4) (N := 3) hx hb hts inlX4 hown hG.K hP 0 rfl rfl 0 (by decide) (hts _ mF_X4_14) (fun _ h9 => h9) rfl dX4_turnAround_1 ?_
  have hP9 := hP.sub (ws' := [oO r1 2 [.ref a1, .int (nI sz)], aI D a1 16 ft]) [1, 4] rfl
  refine vp_callSi (pV (rest := []) (qc := (RX2, TX2, 2)) [] 0 hC (c_size l D (r := r1) (a := a1) (sz := sz) (n := 16) (f := ft) ) rfl (hP 1 _ rfl) (gV mM_X4_26 mI_X2_size mS_X2_size mN_X2 mC_X2_size) (by decide +kernel) rfl rfl ⟨Nat.le_of_ble_eq_true rfl, Nat.le_of_ble_eq_true rfl⟩ hG hP9 rfl hl.1 rfl (Nat.le_of_ble_eq_true rfl) dX4_turnAround_4 ⟨Nat.le_of_ble_eq_true rfl, Nat.le_of_ble_eq_true rfl⟩) (fun r4 h4 => ?_)
  obtain rfl : r4 = (nI sz) := h4
  refine lv_istore_n (lv' := [(2, .int (nI sz)), (0, .ref t), (1, .int x)]) hx hb dX4_turnAround_7 rfl hl (by decide) rfl (fun ls hl => ?_)
  refine lv_iload_n hx hb dX4_turnAround_8 rfl (lv_at hl 0 rfl) ?_
  refine lv_if_ne (tgt := 13) hx hb dX4_turnAround_9 (by decide) (fun c9 => ?_) (fun c9 => ?_)
  · skip
    have n9 := mt (nI_eq (a := sz) (b := 0) (by omega) (by omega)).mpr c9
    refine lv_aload_n hx hb dX4_turnAround_13 rfl (lv_at hl 1 rfl) ?_
    refine va_get (D := D) (ci := 4) (v := .ref r1) (C := RX4) (T := TX4) (N := 3) hx hb hts inlX4 hown hG.K hP 0 rfl rfl 0 (by decide) (hts _ mF_X4_14) (fun _ h9 => h9) rfl dX4_turnAround_14 ?_
    refine lv_iload_n hx hb dX4_turnAround_17 rfl (lv_at hl 2 rfl) ?_
    have hP9 := hP.sub (ws' := [oO r1 2 [.ref a1, .int (nI sz)], aI D a1 16 ft]) [1, 4] rfl
    have hD9 := (hD.sub (ws' := [oO r1 2 [.ref a1, .int (nI sz)], aI D a1 16 ft]) [1, 4] (by decide) rfl).weaken (B := fun _ => True) (fun _ _ _ _ => trivial)
    refine kv (wr := [oO t 4 [.ref r1, .ref r2, .ref r3], oO r2 2 [.ref a2, .int (nI sz)], oO r3 2 [.ref a3, .int (nI sz)], aI D a2 16 fv, aI D a3 16 fe]) (rV (rest := []) (qc := (RX2, TX2, 2)) [.int x] 1 0 0 hC (c_mirrorTimes l D (r := r1) (x := x) (a := a1) (sz := sz) (n := 16) (f := ft) (hz0 := H.size) (by omega) (by omega)) rfl (hP 1 _ rfl) (gV mM_X4_63 mI_X2_mirrorTimes mS_X2_mirrorTimes mN_X2 mC_X2_mirrorTimes) (by decide +kernel) rfl rfl ⟨Nat.le_of_ble_eq_true rfl, Nat.le_of_ble_eq_true rfl⟩ hG hP9 hD9 rfl hl.1 rfl (Nat.le_of_ble_eq_true rfl) dX4_turnAround_18 ⟨Nat.le_of_ble_eq_true rfl, Nat.le_of_ble_eq_true rfl⟩) hP hD hS hA [1, 4] [0, 2, 3, 5, 6] rfl rfl (by decide) (by decide) (fun u18 H locs h18 hP hD hS hz hfr => ?_)
    have hP : va_P D cls [oO t 4 [.ref r1, .ref r2, .ref r3], oO r2 2 [.ref a2, .int (nI sz)], oO r3 2 [.ref a3, .int (nI sz)], aI D a2 16 fv, aI D a3 16 fe, oO r1 2 [.ref a1, .int (nI sz)], aI D a1 16 (rvF (mpF (fun z => x - z) ft sz) sz)] H := hP
    have hD : va_D A [oO t 4 [.ref r1, .ref r2, .ref r3], oO r2 2 [.ref a2, .int (nI sz)], oO r3 2 [.ref a3, .int (nI sz)], aI D a2 16 fv, aI D a3 16 fe, oO r1 2 [.ref a1, .int (nI sz)], aI D a1 16 (rvF (mpF (fun z => x - z) ft sz) sz)] := hD
    refine lv_aload_n hx hb dX4_turnAround_21 rfl (lv_at hl 1 rfl) ?_
    refine va_get (D := D) (ci := 4) (v := .ref r2) (C := RX4) (T := TX4) (N := 3) hx hb hts inlX4 hown hG.K hP 0 rfl rfl 1 (by decide) (hts _ mF_X4_20) (fun _ h9 => h9) rfl dX4_turnAround_22 ?_
    have hP9 := hP.sub (ws' := [oO r2 2 [.ref a2, .int (nI sz)], aI D a2 16 fv]) [1, 3] rfl
    have hD9 := (hD.sub (ws' := [oO r2 2 [.ref a2, .int (nI sz)], aI D a2 16 fv]) [1, 3] (by decide) rfl).weaken (B := fun _ => True) (fun _ _ _ _ => trivial)
    refine kv (wr := [oO t 4 [.ref r1, .ref r2, .ref r3], oO r3 2 [.ref a3, .int (nI sz)], aI D a3 16 fe, oO r1 2 [.ref a1, .int (nI sz)], aI D a1 16 (rvF (mpF (fun z => x - z) ft sz) sz)]) (rV (rest := []) (qc := (RX2, TX2, 2)) [] 0 0 0 hC (c_reverse l D (r := r2) (a := a2) (sz := sz) (n := 16) (f := fv) (hz0 := H.size) (by omega) (by omega)) rfl (hP 1 _ rfl) (gV mM_X4_66 mI_X2_reverse mS_X2_reverse mN_X2 mC_X2_reverse) (by decide +kernel) rfl rfl ⟨Nat.le_of_ble_eq_true rfl, Nat.le_of_ble_eq_true rfl⟩ hG hP9 hD9 rfl hl.1 rfl (Nat.le_of_ble_eq_true rfl) dX4_turnAround_25 ⟨Nat.le_of_ble_eq_true rfl, Nat.le_of_ble_eq_true rfl⟩) hP hD hS hA [1, 3] [0, 2, 4, 5, 6] rfl rfl (by decide) (by decide) (fun u25 H locs h25 hP hD hS hz hfr => ?_)
    have hP : va_P D cls [oO t 4 [.ref r1, .ref r2, .ref r3], oO r3 2 [.ref a3, .int (nI sz)], aI D a3 16 fe, oO r1 2 [.ref a1, .int (nI sz)], aI D a1 16 (rvF (mpF (fun z => x - z) ft sz) sz), oO r2 2 [.ref a2, .int (nI sz)], aI D a2 16 (rvF fv sz)] H := hP
    have hD : va_D A [oO t 4 [.ref r1, .ref r2, .ref r3], oO r3 2 [.ref a3, .int (nI sz)], aI D a3 16 fe, oO r1 2 [.ref a1, .int (nI sz)], aI D a1 16 (rvF (mpF (fun z => x - z) ft sz) sz), oO r2 2 [.ref a2, .int (nI sz)], aI D a2 16 (rvF fv sz)] := hD
    refine lv_aload_n hx hb dX4_turnAround_28 rfl (lv_at hl 1 rfl) ?_
    refine va_get (D := D) (ci := 4) (v := .ref r3) (C := RX4) (T := TX4) (N := 3) hx hb hts inlX4 hown hG.K hP 0 rfl rfl 2 (by decide) (hts _ mF_X4_23) (fun _ h9 => h9) rfl dX4_turnAround_29 ?_
    have hP9 := hP.sub (ws' := [oO r3 2 [.ref a3, .int (nI sz)], aI D a3 16 fe]) [1, 2] rfl
    have hD9 := (hD.sub (ws' := [oO r3 2 [.ref a3, .int (nI sz)], aI D a3 16 fe]) [1, 2] (by decide) rfl).weaken (B := fun _ => True) (fun _ _ _ _ => trivial)
    refine kv (wr := [oO t 4 [.ref r1, .ref r2, .ref r3], oO r1 2 [.ref a1, .int (nI sz)], aI D a1 16 (rvF (mpF (fun z => x - z) ft sz) sz), oO r2 2 [.ref a2, .int (nI sz)], aI D a2 16 (rvF fv sz)]) (rV (rest := []) (qc := (RX2, TX2, 2)) [] 0 0 0 hC (c_reverse l D (r := r3) (a := a3) (sz := sz) (n := 16) (f := fe) (hz0 := H.size) (by omega) (by omega)) rfl (hP 1 _ rfl) (gV mM_X4_66 mI_X2_reverse mS_X2_reverse mN_X2 mC_X2_reverse) (by decide +kernel) rfl rfl ⟨Nat.le_of_ble_eq_true rfl, Nat.le_of_ble_eq_true rfl⟩ hG hP9 hD9 rfl hl.1 rfl (Nat.le_of_ble_eq_true rfl) dX4_turnAround_32 ⟨Nat.le_of_ble_eq_true rfl, Nat.le_of_ble_eq_true rfl⟩) hP hD hS hA [1, 2] [0, 3, 4, 5, 6] rfl rfl (by decide) (by decide) (fun u32 H locs h32 hP hD hS hz hfr => ?_)
    have hP : va_P D cls [oO t 4 [.ref r1, .ref r2, .ref r3], oO r1 2 [.ref a1, .int (nI sz)], aI D a1 16 (rvF (mpF (fun z => x - z) ft sz) sz), oO r2 2 [.ref a2, .int (nI sz)], aI D a2 16 (rvF fv sz), oO r3 2 [.ref a3, .int (nI sz)], aI D a3 16 (rvF fe sz)] H := hP
    have hD : va_D A [oO t 4 [.ref r1, .ref r2, .ref r3], oO r1 2 [.ref a1, .int (nI sz)], aI D a1 16 (rvF (mpF (fun z => x - z) ft sz) sz), oO r2 2 [.ref a2, .int (nI sz)], aI D a2 16 (rvF fv sz), oO r3 2 [.ref a3, .int (nI sz)], aI D a3 16 (rvF fe sz)] := hD
    refine lv_aload_n hx hb dX4_turnAround_35 rfl (lv_at hl 1 rfl) ?_
    refine va_get (D := D) (ci := 4) (v := .ref r3) (C := RX4) (T := TX4) (N := 3) hx hb hts inlX4 hown hG.K hP 0 rfl rfl 2 (by decide) (hts _ mF_X4_23) (fun _ h9 => h9) rfl dX4_turnAround_36 ?_
    refine lv_iconst (v := 0) hx hb dX4_turnAround_39 (by decide) ?_
    have hP9 := hP.sub (ws' := [oO r3 2 [.ref a3, .int (nI sz)], aI D a3 16 (rvF fe sz)]) [5, 6] rfl
    have hD9 := (hD.sub (ws' := [oO r3 2 [.ref a3, .int (nI sz)], aI D a3 16 (rvF fe sz)]) [5, 6] (by decide) rfl).weaken (B := fun _ => True) (fun _ _ _ _ => trivial)
    refine kv (wr := [oO t 4 [.ref r1, .ref r2, .ref r3], oO r1 2 [.ref a1, .int (nI sz)], aI D a1 16 (rvF (mpF (fun z => x - z) ft sz) sz), oO r2 2 [.ref a2, .int (nI sz)], aI D a2 16 (rvF fv sz)]) (rV (rest := []) (qc := (RX2, TX2, 2)) [.int 0] 1 0 0 hC (c_delete l D (r := r3) (j := 0) (a := a3) (sz := sz) (n := 16) (f := rvF fe sz) (hz0 := H.size) (by omega) (by omega) (by omega)) rfl (hP 5 _ rfl) (gV mM_X4_48 mI_X2_delete mS_X2_delete mN_X2 mC_X2_delete) (by decide +kernel) rfl rfl ⟨Nat.le_of_ble_eq_true rfl, Nat.le_of_ble_eq_true rfl⟩ hG hP9 hD9 rfl hl.1 rfl (Nat.le_of_ble_eq_true rfl) dX4_turnAround_40 ⟨Nat.le_of_ble_eq_true rfl, Nat.le_of_ble_eq_true rfl⟩) hP hD hS hA [5, 6] [0, 1, 2, 3, 4] rfl rfl (by decide) (by decide) (fun u40 H locs h40 hP hD hS hz hfr => ?_)
    have hP : va_P D cls [oO t 4 [.ref r1, .ref r2, .ref r3], oO r1 2 [.ref a1, .int (nI sz)], aI D a1 16 (rvF (mpF (fun z => x - z) ft sz) sz), oO r2 2 [.ref a2, .int (nI sz)], aI D a2 16 (rvF fv sz), oO r3 2 [.ref a3, .int (nI (sz - 1))], aI D a3 16 (dlF (rvF fe sz) 0 sz)] H := hP
    have hD : va_D A [oO t 4 [.ref r1, .ref r2, .ref r3], oO r1 2 [.ref a1, .int (nI sz)], aI D a1 16 (rvF (mpF (fun z => x - z) ft sz) sz), oO r2 2 [.ref a2, .int (nI sz)], aI D a2 16 (rvF fv sz), oO r3 2 [.ref a3, .int (nI (sz - 1))], aI D a3 16 (dlF (rvF fe sz) 0 sz)] := hD
    refine lv_aload_n hx hb dX4_turnAround_43 rfl (lv_at hl 1 rfl) ?_
    refine va_get (D := D) (ci := 4) (v := .ref r3) (C := RX4) (T := TX4) (N := 3) hx hb hts inlX4 hown hG.K hP 0 rfl rfl 2 (by decide) (hts _ mF_X4_23) (fun _ h9 => h9) rfl dX4_turnAround_44 ?_
    refine lv_iconst (v := 1) hx hb dX4_turnAround_47 (by decide) ?_
    have hP9 := hP.sub (ws' := [oO r3 2 [.ref a3, .int (nI (sz - 1))], aI D a3 16 (dlF (rvF fe sz) 0 sz)]) [5, 6] rfl
    have hD9 := (hD.sub (ws' := [oO r3 2 [.ref a3, .int (nI (sz - 1))], aI D a3 16 (dlF (rvF fe sz) 0 sz)]) [5, 6] (by decide) rfl).weaken (B := fun _ => True) (fun _ _ _ _ => trivial)
    refine kv (wr := [oO t 4 [.ref r1, .ref r2, .ref r3], oO r1 2 [.ref a1, .int (nI sz)], aI D a1 16 (rvF (mpF (fun z => x - z) ft sz) sz), oO r2 2 [.ref a2, .int (nI sz)], aI D a2 16 (rvF fv sz)]) (rV (rest := []) (qc := (RX2, TX2, 2)) [.int 1] 1 0 0 hC (c_append l D (r := r3) (x := 1) (a := a3) (sz := sz - 1) (n := 16) (f := dlF (rvF fe sz) 0 sz) (hz0 := H.size) (by omega) (by omega)) rfl (hP 5 _ rfl) (gV mM_X4_69 mI_X2_append mS_X2_append mN_X2 mC_X2_append) (by decide +kernel) rfl rfl ⟨Nat.le_of_ble_eq_true rfl, Nat.le_of_ble_eq_true rfl⟩ hG hP9 hD9 rfl hl.1 rfl (Nat.le_of_ble_eq_true rfl) dX4_turnAround_48 ⟨Nat.le_of_ble_eq_true rfl, Nat.le_of_ble_eq_true rfl⟩) hP hD hS hA [5, 6] [0, 1, 2, 3, 4] rfl rfl (by decide) (by decide) (fun u48 H locs h48 hP hD hS hz hfr => ?_)
    have hP : va_P D cls [oO t 4 [.ref r1, .ref r2, .ref r3], oO r1 2 [.ref a1, .int (nI sz)], aI D a1 16 (rvF (mpF (fun z => x - z) ft sz) sz), oO r2 2 [.ref a2, .int (nI sz)], aI D a2 16 (rvF fv sz), oO r3 2 [.ref a3, .int (nI ((sz - 1) + 1))], aI D a3 16 (insF (dlF (rvF fe sz) 0 sz) (sz - 1) (sz - 1) 1)] H := hP
    have hD : va_D A [oO t 4 [.ref r1, .ref r2, .ref r3], oO r1 2 [.ref a1, .int (nI sz)], aI D a1 16 (rvF (mpF (fun z => x - z) ft sz) sz), oO r2 2 [.ref a2, .int (nI sz)], aI D a2 16 (rvF fv sz), oO r3 2 [.ref a3, .int (nI ((sz - 1) + 1))], aI D a3 16 (insF (dlF (rvF fe sz) 0 sz) (sz - 1) (sz - 1) 1)] := hD
    have hcv1 : (.int (nI sz) : Value) = (.int (nI ((sz - 1) + 1))) := by rw [Nat.sub_add_cancel (by omega)]
    have hP := Eq.mpr (congrArg (fun z9 => va_P D cls [oO t 4 [.ref r1, .ref r2, .ref r3], oO r1 2 [.ref a1, .int (nI sz)], aI D a1 16 (rvF (mpF (fun z => x - z) ft sz) sz), oO r2 2 [.ref a2, .int (nI sz)], aI D a2 16 (rvF fv sz), oO r3 2 [.ref a3, z9], aI D a3 16 (insF (dlF (rvF fe sz) 0 sz) (sz - 1) (sz - 1) 1)] H) hcv1) hP
    have hD := Eq.mpr (congrArg (fun z9 => va_D A [oO t 4 [.ref r1, .ref r2, .ref r3], oO r1 2 [.ref a1, .int (nI sz)], aI D a1 16 (rvF (mpF (fun z => x - z) ft sz) sz), oO r2 2 [.ref a2, .int (nI sz)], aI D a2 16 (rvF fv sz), oO r3 2 [.ref a3, z9], aI D a3 16 (insF (dlF (rvF fe sz) 0 sz) (sz - 1) (sz - 1) 1)]) hcv1) hD
    have hP : va_P D cls [oO t 4 [.ref r1, .ref r2, .ref r3], oO r1 2 [.ref a1, .int (nI sz)], aI D a1 16 (rvF (mpF (fun z => x - z) ft sz) sz), oO r2 2 [.ref a2, .int (nI sz)], aI D a2 16 (rvF fv sz), oO r3 2 [.ref a3, .int (nI sz)], aI D a3 16 (insF (dlF (rvF fe sz) 0 sz) (sz - 1) (sz - 1) 1)] H := hP
    have hD : va_D A [oO t 4 [.ref r1, .ref r2, .ref r3], oO r1 2 [.ref a1, .int (nI sz)], aI D a1 16 (rvF (mpF (fun z => x - z) ft sz) sz), oO r2 2 [.ref a2, .int (nI sz)], aI D a2 16 (rvF fv sz), oO r3 2 [.ref a3, .int (nI sz)], aI D a3 16 (insF (dlF (rvF fe sz) 0 sz) (sz - 1) (sz - 1) 1)] := hD
    refine lv_iconst (v := 0) hx hb dX4_turnAround_51 (by decide) ?_
    refine lv_istore_n (lv' := [(3, .int 0), (2, .int (nI sz)), (0, .ref t), (1, .int x)]) hx hb dX4_turnAround_52 rfl hl (by decide) rfl (fun ls hl => ?_)
    have loop53 : ∀ (d9 : Nat) (k : Nat), (sz - k) < d9 → (k ≤ sz) → ∀ (H : Heap) (locs : List Loc) (ls : Array Slot), va_P D cls [oO t 4 [.ref r1, .ref r2, .ref r3], oO r1 2 [.ref a1, .int (nI sz)], oO r2 2 [.ref a2, .int (nI sz)], oO r3 2 [.ref a3, .int (nI sz)], aI D a1 16 (rvF (mpF (fun z => x - z) ft sz) sz), aI D a2 16 (rvF fv sz), aI D a3 16 (mpF mirE (insF (dlF (rvF fe sz) 0 sz) (sz - 1) (sz - 1) 1) k)] H → va_D A [oO t 4 [.ref r1, .ref r2, .ref r3], oO r1 2 [.ref a1, .int (nI sz)], oO r2 2 [.ref a2, .int (nI sz)], oO r3 2 [.ref a3, .int (nI sz)], aI D a1 16 (rvF (mpF (fun z => x - z) ft sz) sz), aI D a2 16 (rvF fv sz), aI D a3 16 (mpF mirE (insF (dlF (rvF fe sz) 0 sz) (sz - 1) (sz - 1) 1) k)] → va_S A s.heap H locs → lv_has ls 4 [(0, .ref t), (1, .int x), (2, .int (nI sz)), (3, .int (nI k))] → W p l e ({ frames := 4, cells := 0, slots := 0, locals := 87 } : Room) s m ([.ref t, .int x] : List Value).toArray below meth c H locs 0 0 (MQ below (va_Qv (fun _ => True) (AT D A (fun _ : Unit => [oO t 4 [.ref r1, .ref r2, .ref r3], oO r1 2 [.ref a1, .int (nI sz)], oO r2 2 [.ref a2, .int (nI sz)], oO r3 2 [.ref a3, .int (nI sz)], aI D a1 16 (rvF (mpF (fun z => x - z) ft sz) sz), aI D a2 16 (rvF fv sz), aI D a3 16 (teF fe sz)])) A) ([.ref t, .int x] : List Value).toArray s 0 0 A) (F0 m 53 ls []) := by
      intro d9
      induction d9 with
      | zero => intro k hd; exact absurd hd (Nat.not_lt_zero _)
      | succ d9 ih53 =>
        intro k hd53 hk H locs ls hP hD hS hl
        refine lv_iload_n hx hb dX4_turnAround_53 rfl (lv_at hl 3 rfl) ?_
        refine lv_iload_n hx hb dX4_turnAround_54 rfl (lv_at hl 2 rfl) ?_
        refine lv_icmp_ge (tgt := 83) hx hb dX4_turnAround_55 (by decide) (fun c55 => ?_) (fun c55 => ?_)
        · skip
          have n55 := (nI_leI (a := sz) (b := k) (by omega) (by omega)).mp c55
          have hcv2 : (teF fe sz) = (mpF mirE (insF (dlF (rvF fe sz) 0 sz) (sz - 1) (sz - 1) 1) k) := by
            have e : k = sz := by omega
            subst e
            rw [teF, if_neg n9]
          have hP := Eq.mpr (congrArg (fun z9 => va_P D cls [oO t 4 [.ref r1, .ref r2, .ref r3], oO r1 2 [.ref a1, .int (nI sz)], oO r2 2 [.ref a2, .int (nI sz)], oO r3 2 [.ref a3, .int (nI sz)], aI D a1 16 (rvF (mpF (fun z => x - z) ft sz) sz), aI D a2 16 (rvF fv sz), aI D a3 16 z9] H) hcv2) hP
          have hD := Eq.mpr (congrArg (fun z9 => va_D A [oO t 4 [.ref r1, .ref r2, .ref r3], oO r1 2 [.ref a1, .int (nI sz)], oO r2 2 [.ref a2, .int (nI sz)], oO r3 2 [.ref a3, .int (nI sz)], aI D a1 16 (rvF (mpF (fun z => x - z) ft sz) sz), aI D a2 16 (rvF fv sz), aI D a3 16 z9]) hcv2) hD
          have hP : va_P D cls [oO t 4 [.ref r1, .ref r2, .ref r3], oO r1 2 [.ref a1, .int (nI sz)], oO r2 2 [.ref a2, .int (nI sz)], oO r3 2 [.ref a3, .int (nI sz)], aI D a1 16 (rvF (mpF (fun z => x - z) ft sz) sz), aI D a2 16 (rvF fv sz), aI D a3 16 (teF fe sz)] H := hP
          have hD : va_D A [oO t 4 [.ref r1, .ref r2, .ref r3], oO r1 2 [.ref a1, .int (nI sz)], oO r2 2 [.ref a2, .int (nI sz)], oO r3 2 [.ref a3, .int (nI sz)], aI D a1 16 (rvF (mpF (fun z => x - z) ft sz) sz), aI D a2 16 (rvF fv sz), aI D a3 16 (teF fe sz)] := hD
          refine Wv () hx hb hr hlk ?_ hP hD hS (Nat.le_of_ble_eq_true rfl) (by first | exact Nat.le_of_ble_eq_true rfl | exact Nat.le_of_eq (Nat.zero_add _)) dX4_turnAround_83
          exact trivial
        · skip
          have n55 := mt (nI_leI (a := sz) (b := k) (by omega) (by omega)).mpr c55
          refine lv_aload_n hx hb dX4_turnAround_58 rfl (lv_at hl 0 rfl) ?_
          refine va_get (D := D) (ci := 4) (v := .ref r3) (C := RX4) (T := TX4) (N := 3) hx hb hts inlX4 hown hG.K hP 0 rfl rfl 2 (by decide) (hts _ mF_X4_23) (fun _ h9 => h9) rfl dX4_turnAround_59 ?_
          refine lv_iload_n hx hb dX4_turnAround_62 rfl (lv_at hl 3 rfl) ?_
          refine lv_aload_n hx hb dX4_turnAround_63 rfl (lv_at hl 0 rfl) ?_
          refine va_get (D := D) (ci := 4) (v := .ref r3) (C := RX4) (T := TX4) (N := 3) hx hb hts inlX4 hown hG.K hP 0 rfl rfl 2 (by decide) (hts _ mF_X4_23) (fun _ h9 => h9) rfl dX4_turnAround_64 ?_
          refine lv_iload_n hx hb dX4_turnAround_67 rfl (lv_at hl 3 rfl) ?_
          have hP9 := hP.sub (ws' := [oO r3 2 [.ref a3, .int (nI sz)], aI D a3 16 (mpF mirE (insF (dlF (rvF fe sz) 0 sz) (sz - 1) (sz - 1) 1) k)]) [3, 6] rfl
          refine vp_callSi (pV (rest := [.int (nI k), .ref r3]) (qc := (RX2, TX2, 2)) [.int (nI k)] 1 hC (c_get l D (r := r3) (j := k) (a := a3) (sz := sz) (n := 16) (f := mpF mirE (insF (dlF (rvF fe sz) 0 sz) (sz - 1) (sz - 1) 1) k) (by omega) (by omega) (by omega)) rfl (hP 3 _ rfl) (gV mM_X4_30 mI_X2_get mS_X2_get mN_X2 mC_X2_get) (by decide +kernel) rfl rfl ⟨Nat.le_of_ble_eq_true rfl, Nat.le_of_ble_eq_true rfl⟩ hG hP9 rfl hl.1 rfl (Nat.le_of_ble_eq_true rfl) dX4_turnAround_68 ⟨Nat.le_of_ble_eq_true rfl, Nat.le_of_ble_eq_true rfl⟩) (fun r68 h68 => ?_)
          obtain rfl : r68 = ((mpF mirE (insF (dlF (rvF fe sz) 0 sz) (sz - 1) (sz - 1) 1) k) k) := h68
          have hP9 : va_P D cls [] H := fun k q h => by simp at h
          refine vp_callSi (pS (rest := [.int (nI k), .ref r3]) [.int ((mpF mirE (insF (dlF (rvF fe sz) 0 sz) (sz - 1) (sz - 1) 1) k) k)] 1 hC (c_mirroredEase l D (x := (mpF mirE (insF (dlF (rvF fe sz) 0 sz) (sz - 1) (sz - 1) 1) k) k) ) (gS mM_X4_72 mT_X4_mirroredEase mN_X4 mC_X4_mirroredEase) (by decide +kernel) rfl rfl ⟨Nat.le_of_ble_eq_true rfl, Nat.le_of_ble_eq_true rfl⟩ hG hP9 rfl hl.1 rfl (Nat.le_of_ble_eq_true rfl) dX4_turnAround_71 ⟨Nat.le_of_ble_eq_true rfl, Nat.le_of_ble_eq_true rfl⟩) (fun r71 h71 => ?_)
          obtain rfl : r71 = (mirE ((mpF mirE (insF (dlF (rvF fe sz) 0 sz) (sz - 1) (sz - 1) 1) k) k)) := h71
          have hP9 := hP.sub (ws' := [oO r3 2 [.ref a3, .int (nI sz)], aI D a3 16 (mpF mirE (insF (dlF (rvF fe sz) 0 sz) (sz - 1) (sz - 1) 1) k)]) [3, 6] rfl
          have hD9 := (hD.sub (ws' := [oO r3 2 [.ref a3, .int (nI sz)], aI D a3 16 (mpF mirE (insF (dlF (rvF fe sz) 0 sz) (sz - 1) (sz - 1) 1) k)]) [3, 6] (by decide) rfl).weaken (B := fun _ => True) (fun _ _ _ _ => trivial)
          refine kv (wr := [oO t 4 [.ref r1, .ref r2, .ref r3], oO r1 2 [.ref a1, .int (nI sz)], oO r2 2 [.ref a2, .int (nI sz)], aI D a1 16 (rvF (mpF (fun z => x - z) ft sz) sz), aI D a2 16 (rvF fv sz)]) (rV (rest := []) (qc := (RX2, TX2, 2)) [.int (nI k), .int (mirE ((mpF mirE (insF (dlF (rvF fe sz) 0 sz) (sz - 1) (sz - 1) 1) k) k))] 2 0 0 hC (c_set l D (r := r3) (j := k) (x := mirE ((mpF mirE (insF (dlF (rvF fe sz) 0 sz) (sz - 1) (sz - 1) 1) k) k)) (a := a3) (sz := sz) (n := 16) (f := mpF mirE (insF (dlF (rvF fe sz) 0 sz) (sz - 1) (sz - 1) 1) k) (hz0 := H.size) (by omega) (by omega) (by omega)) rfl (hP 3 _ rfl) (gV mM_X4_41 mI_X2_set mS_X2_set mN_X2 mC_X2_set) (by decide +kernel) rfl rfl ⟨Nat.le_of_ble_eq_true rfl, Nat.le_of_ble_eq_true rfl⟩ hG hP9 hD9 rfl hl.1 rfl (Nat.le_of_ble_eq_true rfl) dX4_turnAround_74 ⟨Nat.le_of_ble_eq_true rfl, Nat.le_of_ble_eq_true rfl⟩) hP hD hS hA [3, 6] [0, 1, 2, 4, 5] rfl rfl (by decide) (by decide) (fun u74 H locs h74 hP hD hS hz hfr => ?_)
          have hP : va_P D cls [oO t 4 [.ref r1, .ref r2, .ref r3], oO r1 2 [.ref a1, .int (nI sz)], oO r2 2 [.ref a2, .int (nI sz)], aI D a1 16 (rvF (mpF (fun z => x - z) ft sz) sz), aI D a2 16 (rvF fv sz), oO r3 2 [.ref a3, .int (nI sz)], aI D a3 16 (upd (mpF mirE (insF (dlF (rvF fe sz) 0 sz) (sz - 1) (sz - 1) 1) k) k (mirE ((mpF mirE (insF (dlF (rvF fe sz) 0 sz) (sz - 1) (sz - 1) 1) k) k)))] H := hP
          have hD : va_D A [oO t 4 [.ref r1, .ref r2, .ref r3], oO r1 2 [.ref a1, .int (nI sz)], oO r2 2 [.ref a2, .int (nI sz)], aI D a1 16 (rvF (mpF (fun z => x - z) ft sz) sz), aI D a2 16 (rvF fv sz), oO r3 2 [.ref a3, .int (nI sz)], aI D a3 16 (upd (mpF mirE (insF (dlF (rvF fe sz) 0 sz) (sz - 1) (sz - 1) 1) k) k (mirE ((mpF mirE (insF (dlF (rvF fe sz) 0 sz) (sz - 1) (sz - 1) 1) k) k)))] := hD
          have hcv3 : (mpF mirE (insF (dlF (rvF fe sz) 0 sz) (sz - 1) (sz - 1) 1) (k + 1)) = (upd (mpF mirE (insF (dlF (rvF fe sz) 0 sz) (sz - 1) (sz - 1) 1) k) k (mirE ((mpF mirE (insF (dlF (rvF fe sz) 0 sz) (sz - 1) (sz - 1) 1) k) k))) := by rw [mpF_at]; exact (mpF_step mirE _ k).symm
          have hP := Eq.mpr (congrArg (fun z9 => va_P D cls [oO t 4 [.ref r1, .ref r2, .ref r3], oO r1 2 [.ref a1, .int (nI sz)], oO r2 2 [.ref a2, .int (nI sz)], aI D a1 16 (rvF (mpF (fun z => x - z) ft sz) sz), aI D a2 16 (rvF fv sz), oO r3 2 [.ref a3, .int (nI sz)], aI D a3 16 z9] H) hcv3) hP
          have hD := Eq.mpr (congrArg (fun z9 => va_D A [oO t 4 [.ref r1, .ref r2, .ref r3], oO r1 2 [.ref a1, .int (nI sz)], oO r2 2 [.ref a2, .int (nI sz)], aI D a1 16 (rvF (mpF (fun z => x - z) ft sz) sz), aI D a2 16 (rvF fv sz), oO r3 2 [.ref a3, .int (nI sz)], aI D a3 16 z9]) hcv3) hD
          have hP : va_P D cls [oO t 4 [.ref r1, .ref r2, .ref r3], oO r1 2 [.ref a1, .int (nI sz)], oO r2 2 [.ref a2, .int (nI sz)], aI D a1 16 (rvF (mpF (fun z => x - z) ft sz) sz), aI D a2 16 (rvF fv sz), oO r3 2 [.ref a3, .int (nI sz)], aI D a3 16 (mpF mirE (insF (dlF (rvF fe sz) 0 sz) (sz - 1) (sz - 1) 1) (k + 1))] H := hP
          have hD : va_D A [oO t 4 [.ref r1, .ref r2, .ref r3], oO r1 2 [.ref a1, .int (nI sz)], oO r2 2 [.ref a2, .int (nI sz)], aI D a1 16 (rvF (mpF (fun z => x - z) ft sz) sz), aI D a2 16 (rvF fv sz), oO r3 2 [.ref a3, .int (nI sz)], aI D a3 16 (mpF mirE (insF (dlF (rvF fe sz) 0 sz) (sz - 1) (sz - 1) 1) (k + 1))] := hD
          refine lv_iinc (v := nI (k + 1)) (lv' := [(3, .int (nI (k + 1))), (0, .ref t), (1, .int x), (2, .int (nI sz))]) hx hb dX4_turnAround_77 hl (k := 3) rfl (nI_1 _) (by decide) rfl (fun ls hl => ?_)
          refine lv_goto (tgt := 53) hx hb dX4_turnAround_80 (by decide) ?_
          exact ih53 (k + 1) (by omega) (by omega) _ _ _ (hP.sub [0, 1, 2, 5, 3, 4, 6] rfl) (hD.sub [0, 1, 2, 5, 3, 4, 6] (by decide) rfl) hS (lv_sub hl [1, 2, 3, 0] rfl)
    have hcv4 : (mpF mirE (insF (dlF (rvF fe sz) 0 sz) (sz - 1) (sz - 1) 1) 0) = (insF (dlF (rvF fe sz) 0 sz) (sz - 1) (sz - 1) 1) := mpF_0 _ _
    have hP := Eq.mpr (congrArg (fun z9 => va_P D cls [oO t 4 [.ref r1, .ref r2, .ref r3], oO r1 2 [.ref a1, .int (nI sz)], aI D a1 16 (rvF (mpF (fun z => x - z) ft sz) sz), oO r2 2 [.ref a2, .int (nI sz)], aI D a2 16 (rvF fv sz), oO r3 2 [.ref a3, .int (nI sz)], aI D a3 16 z9] H) hcv4) hP
    have hD := Eq.mpr (congrArg (fun z9 => va_D A [oO t 4 [.ref r1, .ref r2, .ref r3], oO r1 2 [.ref a1, .int (nI sz)], aI D a1 16 (rvF (mpF (fun z => x - z) ft sz) sz), oO r2 2 [.ref a2, .int (nI sz)], aI D a2 16 (rvF fv sz), oO r3 2 [.ref a3, .int (nI sz)], aI D a3 16 z9]) hcv4) hD
    have hP : va_P D cls [oO t 4 [.ref r1, .ref r2, .ref r3], oO r1 2 [.ref a1, .int (nI sz)], aI D a1 16 (rvF (mpF (fun z => x - z) ft sz) sz), oO r2 2 [.ref a2, .int (nI sz)], aI D a2 16 (rvF fv sz), oO r3 2 [.ref a3, .int (nI sz)], aI D a3 16 (mpF mirE (insF (dlF (rvF fe sz) 0 sz) (sz - 1) (sz - 1) 1) 0)] H := hP
    have hD : va_D A [oO t 4 [.ref r1, .ref r2, .ref r3], oO r1 2 [.ref a1, .int (nI sz)], aI D a1 16 (rvF (mpF (fun z => x - z) ft sz) sz), oO r2 2 [.ref a2, .int (nI sz)], aI D a2 16 (rvF fv sz), oO r3 2 [.ref a3, .int (nI sz)], aI D a3 16 (mpF mirE (insF (dlF (rvF fe sz) 0 sz) (sz - 1) (sz - 1) 1) 0)] := hD
    exact loop53 _ 0 (Nat.lt_succ_self _) (by omega) _ _ _ (hP.sub [0, 1, 3, 5, 2, 4, 6] rfl) (hD.sub [0, 1, 3, 5, 2, 4, 6] (by decide) rfl) hS (lv_sub hl [2, 3, 1, 0] rfl)
  · skip
    have n9 := (nI_eq (a := sz) (b := 0) (by omega) (by omega)).mp c9
    have hcv5 : (rvF (mpF (fun z => x - z) ft sz) sz) = ft := by
      have e : sz = 0 := n9
      subst e
      first | rw [rvF_0, mpF_0] | rw [rvF_0] | rw [teF, if_pos rfl]
    have hP := Eq.mpr (congrArg (fun z9 => va_P D cls [oO t 4 [.ref r1, .ref r2, .ref r3], oO r1 2 [.ref a1, .int (nI sz)], oO r2 2 [.ref a2, .int (nI sz)], oO r3 2 [.ref a3, .int (nI sz)], aI D a1 16 z9, aI D a2 16 fv, aI D a3 16 fe] H) hcv5) hP
    have hD := Eq.mpr (congrArg (fun z9 => va_D A [oO t 4 [.ref r1, .ref r2, .ref r3], oO r1 2 [.ref a1, .int (nI sz)], oO r2 2 [.ref a2, .int (nI sz)], oO r3 2 [.ref a3, .int (nI sz)], aI D a1 16 z9, aI D a2 16 fv, aI D a3 16 fe]) hcv5) hD
    have hP : va_P D cls [oO t 4 [.ref r1, .ref r2, .ref r3], oO r1 2 [.ref a1, .int (nI sz)], oO r2 2 [.ref a2, .int (nI sz)], oO r3 2 [.ref a3, .int (nI sz)], aI D a1 16 (rvF (mpF (fun z => x - z) ft sz) sz), aI D a2 16 fv, aI D a3 16 fe] H := hP
    have hD : va_D A [oO t 4 [.ref r1, .ref r2, .ref r3], oO r1 2 [.ref a1, .int (nI sz)], oO r2 2 [.ref a2, .int (nI sz)], oO r3 2 [.ref a3, .int (nI sz)], aI D a1 16 (rvF (mpF (fun z => x - z) ft sz) sz), aI D a2 16 fv, aI D a3 16 fe] := hD
    have hcv6 : (rvF fv sz) = fv := by
      have e : sz = 0 := n9
      subst e
      first | rw [rvF_0, mpF_0] | rw [rvF_0] | rw [teF, if_pos rfl]
    have hP := Eq.mpr (congrArg (fun z9 => va_P D cls [oO t 4 [.ref r1, .ref r2, .ref r3], oO r1 2 [.ref a1, .int (nI sz)], oO r2 2 [.ref a2, .int (nI sz)], oO r3 2 [.ref a3, .int (nI sz)], aI D a1 16 (rvF (mpF (fun z => x - z) ft sz) sz), aI D a2 16 z9, aI D a3 16 fe] H) hcv6) hP
    have hD := Eq.mpr (congrArg (fun z9 => va_D A [oO t 4 [.ref r1, .ref r2, .ref r3], oO r1 2 [.ref a1, .int (nI sz)], oO r2 2 [.ref a2, .int (nI sz)], oO r3 2 [.ref a3, .int (nI sz)], aI D a1 16 (rvF (mpF (fun z => x - z) ft sz) sz), aI D a2 16 z9, aI D a3 16 fe]) hcv6) hD
    have hP : va_P D cls [oO t 4 [.ref r1, .ref r2, .ref r3], oO r1 2 [.ref a1, .int (nI sz)], oO r2 2 [.ref a2, .int (nI sz)], oO r3 2 [.ref a3, .int (nI sz)], aI D a1 16 (rvF (mpF (fun z => x - z) ft sz) sz), aI D a2 16 (rvF fv sz), aI D a3 16 fe] H := hP
    have hD : va_D A [oO t 4 [.ref r1, .ref r2, .ref r3], oO r1 2 [.ref a1, .int (nI sz)], oO r2 2 [.ref a2, .int (nI sz)], oO r3 2 [.ref a3, .int (nI sz)], aI D a1 16 (rvF (mpF (fun z => x - z) ft sz) sz), aI D a2 16 (rvF fv sz), aI D a3 16 fe] := hD
    have hcv7 : (teF fe sz) = fe := by
      have e : sz = 0 := n9
      subst e
      first | rw [rvF_0, mpF_0] | rw [rvF_0] | rw [teF, if_pos rfl]
    have hP := Eq.mpr (congrArg (fun z9 => va_P D cls [oO t 4 [.ref r1, .ref r2, .ref r3], oO r1 2 [.ref a1, .int (nI sz)], oO r2 2 [.ref a2, .int (nI sz)], oO r3 2 [.ref a3, .int (nI sz)], aI D a1 16 (rvF (mpF (fun z => x - z) ft sz) sz), aI D a2 16 (rvF fv sz), aI D a3 16 z9] H) hcv7) hP
    have hD := Eq.mpr (congrArg (fun z9 => va_D A [oO t 4 [.ref r1, .ref r2, .ref r3], oO r1 2 [.ref a1, .int (nI sz)], oO r2 2 [.ref a2, .int (nI sz)], oO r3 2 [.ref a3, .int (nI sz)], aI D a1 16 (rvF (mpF (fun z => x - z) ft sz) sz), aI D a2 16 (rvF fv sz), aI D a3 16 z9]) hcv7) hD
    have hP : va_P D cls [oO t 4 [.ref r1, .ref r2, .ref r3], oO r1 2 [.ref a1, .int (nI sz)], oO r2 2 [.ref a2, .int (nI sz)], oO r3 2 [.ref a3, .int (nI sz)], aI D a1 16 (rvF (mpF (fun z => x - z) ft sz) sz), aI D a2 16 (rvF fv sz), aI D a3 16 (teF fe sz)] H := hP
    have hD : va_D A [oO t 4 [.ref r1, .ref r2, .ref r3], oO r1 2 [.ref a1, .int (nI sz)], oO r2 2 [.ref a2, .int (nI sz)], oO r3 2 [.ref a3, .int (nI sz)], aI D a1 16 (rvF (mpF (fun z => x - z) ft sz) sz), aI D a2 16 (rvF fv sz), aI D a3 16 (teF fe sz)] := hD
    refine Wv () hx hb hr hlk ?_ hP hD hS (Nat.le_of_ble_eq_true rfl) (by first | exact Nat.le_of_ble_eq_true rfl | exact Nat.le_of_eq (Nat.zero_add _)) dX4_turnAround_12
    exact trivial
set_option maxHeartbeats 4000000 in
set_option maxRecDepth 100000 in
theorem c_Track_init (l : Launch) (D : va_G) {t : Nat} (hz0 : Nat)  : Met l yX4_init (ws_ yX4_init cX4_init 1 none) ({ frames := 2, cells := 6, slots := 54, locals := 41 } : Room) (va_Pc [.ref t] (SW D [oO t 4 [.null, .null, .null]] hz0)) (va_Qv (fun _ => True) (AT D (va_A [oO t 4 [.null, .null, .null]] hz0) (fun ((r1, a1, r2, a2, r3, a3) : Nat × Nat × Nat × Nat × Nat × Nat) => [oO t 4 [.ref r1, .ref r2, .ref r3], oO r1 2 [.ref a1, .int (nI 0)], oO r2 2 [.ref a2, .int (nI 0)], oO r3 2 [.ref a3, .int (nI 0)], aI D a1 16 (fun _ => 0), aI D a2 16 (fun _ => 0), aI D a3 16 (fun _ => 0)])) (va_A [oO t 4 [.null, .null, .null]] hz0)) 6 54 (va_A [oO t 4 [.null, .null, .null]] hz0) := by
  refine Met.ofW (cc := cX4_init) (maxL := 1) (ret := none) (by decide) rfl ?_
  intro p e s m args below meth c s₁ B hml hv
  obtain ⟨rfl, hsz, hG, hP, hD0⟩ := hv
  have hx := B.exec
  have hb := B.bytes
  have hr := B.returns
  have hts : ∀ w ∈ wsL_law, w.before _ s = true := fun w h => atoms_spec (ws := (ws_ yX4_init cX4_init 1 none)) B.pre w (List.mem_cons_of_mem _ h)
  have hown : s.vm.findClass RX4 = some m.cls := findClass_of_methodNamed B.named
  have hlk := B.notSynchronized
  have hC : CallFix p m c cX4_init 1 s _ wsL_law RX4 := ⟨hx, hb, hml, hown, hts⟩
  have hin : meth.name = "<init>" := (name_of_methodNamed B.named B.method).1
  subst hsz
  have hD := hD0.self (sz := s.heap.size)
  generalize hAe : va_A [oO t 4 [.null, .null, .null]] s.heap.size = A at hD ⊢
  have hA : ∀ q : Nat, s.heap.size ≤ q → A q := fun q h => by rw [← hAe]; exact Or.inr h
  have hS : va_S A s.heap s.heap [] := va_S.rf
  obtain ⟨H, hHe⟩ : ∃ H, H = s.heap := ⟨_, rfl⟩
  rw [← hHe] at hP
  have hS : va_S A s.heap H [] := by rw [hHe]; exact hS
  have hl := lv_entry ([.ref t]) (n := 1) (Nat.le_of_ble_eq_true rfl)
  rw [lg_entry_eq]
  generalize (lg_sl ([.ref t]) ++ List.replicate (1 - (lg_sl ([.ref t])).length) Slot.unset).toArray = ls at hl ⊢
  have hl : lv_has ls 1 [(0, .ref t)] := hl
  rw [← hHe]
  refine lv_aload_n hx hb dX4_init_0 rfl (lv_at hl 0 rfl) ?_
  refine W.objInit hx hb hown (hts _ mM_X4_3) (hts _ mI_objectInit) (hts _ mC_objectInit) rfl (by rw [hml]; exact hl.1) rfl dX4_init_1 (Nat.le_of_ble_eq_true rfl) (Nat.le_of_ble_eq_true rfl) ?_
  refine W.eq (g2 := F0 m 4 ls []) rfl ?_
  refine lv_aload_n hx hb dX4_init_4 rfl (lv_at hl 0 rfl) ?_
  refine va_new (ci := 2) (fs := [.null, .int 0]) (C := RX2) (T := TX2) (N := 2) hx hb hts inlX2 tyX2 tyX2_ok hown (hts _ mK_X4_9) (hts _ mB_X2) (hts _ mN_X2) hG.K hP hD hS hA rfl (fun j hj => by rcases (show j = 0 ∨ j = 1 by omega) with rfl | rfl <;> rfl) (Nat.le_of_ble_eq_true rfl) (Nat.le_of_ble_eq_true rfl) dX4_init_5 (fun r1 H hP hD hS => ?_)
  have hP : va_P D cls [oO t 4 [.null, .null, .null], oO r1 2 [.null, .int 0]] H := hP
  have hD : va_D A [oO t 4 [.null, .null, .null], oO r1 2 [.null, .int 0]] := hD
  refine lv_dup hx hb dX4_init_8 rfl ?_
  refine lv_bipush (v := 16) hx hb dX4_init_9 (by decide) ?_
  have hP9 := hP.sub (ws' := [oO r1 2 [.null, .int 0]]) [1] rfl
  have hD9 := (hD.sub (ws' := [oO r1 2 [.null, .int 0]]) [1] (by decide) rfl).weaken (B := fun _ => True) (fun _ _ _ _ => trivial)
  refine kv (wr := [oO t 4 [.null, .null, .null]]) (rI (rest := [.ref r1, .ref t]) [.int 16] 1 1 16 hC (c_Row_init l D (r := r1) (n := 16) (hz0 := H.size) (by omega) (by omega)) mM_X4_11 mI_X2_init mN_X2 mC_X2_init rfl (by decide +kernel) rfl rfl ⟨Nat.le_of_ble_eq_true rfl, Nat.le_of_ble_eq_true rfl⟩ hG hP9 hD9 rfl hl.1 rfl (Nat.le_of_ble_eq_true rfl) dX4_init_11 ⟨Nat.le_of_ble_eq_true rfl, Nat.le_of_ble_eq_true rfl⟩) hP hD hS hA [1] [0] rfl rfl (by decide) (by decide) (fun u11 H locs h11 hP hD hS hz hfr => ?_)
  obtain ⟨a1, rfl⟩ : ∃ z, z = u11 := ⟨_, rfl⟩
  have hP : va_P D cls [oO t 4 [.null, .null, .null], oO r1 2 [.ref a1, .int (nI 0)], aI D a1 16 (fun _ => 0)] H := hP
  have hD : va_D A [oO t 4 [.null, .null, .null], oO r1 2 [.ref a1, .int (nI 0)], aI D a1 16 (fun _ => 0)] := hD
  refine va_putF (D := D) (ci := 4) (v := .ref r1) (ty := .object "KeyStage$Row") (C := RX4) (T := TX4) (N := 3) hx hb hts inlX4 tyX4 tyX4_ok nmX4 hown hG.K hP hD hS 0 rfl rfl 0 (by decide) (hts _ mF_X4_14) (fun _ h9 => h9) rfl hin rfl (by decide +kernel) rfl rfl (Nat.le_of_ble_eq_true rfl) dX4_init_14 (fun H locs hP hD hS => ?_)
  have hP : va_P D cls [oO t 4 [.ref r1, .null, .null], oO r1 2 [.ref a1, .int (nI 0)], aI D a1 16 (fun _ => 0)] H := hP
  have hD : va_D A [oO t 4 [.ref r1, .null, .null], oO r1 2 [.ref a1, .int (nI 0)], aI D a1 16 (fun _ => 0)] := hD
  refine lv_aload_n hx hb dX4_init_17 rfl (lv_at hl 0 rfl) ?_
  refine va_new (ci := 2) (fs := [.null, .int 0]) (C := RX2) (T := TX2) (N := 2) hx hb hts inlX2 tyX2 tyX2_ok hown (hts _ mK_X4_9) (hts _ mB_X2) (hts _ mN_X2) hG.K hP hD hS hA rfl (fun j hj => by rcases (show j = 0 ∨ j = 1 by omega) with rfl | rfl <;> rfl) (Nat.le_of_ble_eq_true rfl) (Nat.le_of_ble_eq_true rfl) dX4_init_18 (fun r2 H hP hD hS => ?_)
  have hP : va_P D cls [oO t 4 [.ref r1, .null, .null], oO r1 2 [.ref a1, .int (nI 0)], aI D a1 16 (fun _ => 0), oO r2 2 [.null, .int 0]] H := hP
  have hD : va_D A [oO t 4 [.ref r1, .null, .null], oO r1 2 [.ref a1, .int (nI 0)], aI D a1 16 (fun _ => 0), oO r2 2 [.null, .int 0]] := hD
  refine lv_dup hx hb dX4_init_21 rfl ?_
  refine lv_bipush (v := 16) hx hb dX4_init_22 (by decide) ?_
  have hP9 := hP.sub (ws' := [oO r2 2 [.null, .int 0]]) [3] rfl
  have hD9 := (hD.sub (ws' := [oO r2 2 [.null, .int 0]]) [3] (by decide) rfl).weaken (B := fun _ => True) (fun _ _ _ _ => trivial)
  refine kv (wr := [oO t 4 [.ref r1, .null, .null], oO r1 2 [.ref a1, .int (nI 0)], aI D a1 16 (fun _ => 0)]) (rI (rest := [.ref r2, .ref t]) [.int 16] 1 1 16 hC (c_Row_init l D (r := r2) (n := 16) (hz0 := H.size) (by omega) (by omega)) mM_X4_11 mI_X2_init mN_X2 mC_X2_init rfl (by decide +kernel) rfl rfl ⟨Nat.le_of_ble_eq_true rfl, Nat.le_of_ble_eq_true rfl⟩ hG hP9 hD9 rfl hl.1 rfl (Nat.le_of_ble_eq_true rfl) dX4_init_24 ⟨Nat.le_of_ble_eq_true rfl, Nat.le_of_ble_eq_true rfl⟩) hP hD hS hA [3] [0, 1, 2] rfl rfl (by decide) (by decide) (fun u24 H locs h24 hP hD hS hz hfr => ?_)
  obtain ⟨a2, rfl⟩ : ∃ z, z = u24 := ⟨_, rfl⟩
  have hP : va_P D cls [oO t 4 [.ref r1, .null, .null], oO r1 2 [.ref a1, .int (nI 0)], aI D a1 16 (fun _ => 0), oO r2 2 [.ref a2, .int (nI 0)], aI D a2 16 (fun _ => 0)] H := hP
  have hD : va_D A [oO t 4 [.ref r1, .null, .null], oO r1 2 [.ref a1, .int (nI 0)], aI D a1 16 (fun _ => 0), oO r2 2 [.ref a2, .int (nI 0)], aI D a2 16 (fun _ => 0)] := hD
  refine va_putF (D := D) (ci := 4) (v := .ref r2) (ty := .object "KeyStage$Row") (C := RX4) (T := TX4) (N := 3) hx hb hts inlX4 tyX4 tyX4_ok nmX4 hown hG.K hP hD hS 0 rfl rfl 1 (by decide) (hts _ mF_X4_20) (fun _ h9 => h9) rfl hin rfl (by decide +kernel) rfl rfl (Nat.le_of_ble_eq_true rfl) dX4_init_27 (fun H locs hP hD hS => ?_)
  have hP : va_P D cls [oO t 4 [.ref r1, .ref r2, .null], oO r1 2 [.ref a1, .int (nI 0)], aI D a1 16 (fun _ => 0), oO r2 2 [.ref a2, .int (nI 0)], aI D a2 16 (fun _ => 0)] H := hP
  have hD : va_D A [oO t 4 [.ref r1, .ref r2, .null], oO r1 2 [.ref a1, .int (nI 0)], aI D a1 16 (fun _ => 0), oO r2 2 [.ref a2, .int (nI 0)], aI D a2 16 (fun _ => 0)] := hD
  refine lv_aload_n hx hb dX4_init_30 rfl (lv_at hl 0 rfl) ?_
  refine va_new (ci := 2) (fs := [.null, .int 0]) (C := RX2) (T := TX2) (N := 2) hx hb hts inlX2 tyX2 tyX2_ok hown (hts _ mK_X4_9) (hts _ mB_X2) (hts _ mN_X2) hG.K hP hD hS hA rfl (fun j hj => by rcases (show j = 0 ∨ j = 1 by omega) with rfl | rfl <;> rfl) (Nat.le_of_ble_eq_true rfl) (Nat.le_of_ble_eq_true rfl) dX4_init_31 (fun r3 H hP hD hS => ?_)
  have hP : va_P D cls [oO t 4 [.ref r1, .ref r2, .null], oO r1 2 [.ref a1, .int (nI 0)], aI D a1 16 (fun _ => 0), oO r2 2 [.ref a2, .int (nI 0)], aI D a2 16 (fun _ => 0), oO r3 2 [.null, .int 0]] H := hP
  have hD : va_D A [oO t 4 [.ref r1, .ref r2, .null], oO r1 2 [.ref a1, .int (nI 0)], aI D a1 16 (fun _ => 0), oO r2 2 [.ref a2, .int (nI 0)], aI D a2 16 (fun _ => 0), oO r3 2 [.null, .int 0]] := hD
  refine lv_dup hx hb dX4_init_34 rfl ?_
  refine lv_bipush (v := 16) hx hb dX4_init_35 (by decide) ?_
  have hP9 := hP.sub (ws' := [oO r3 2 [.null, .int 0]]) [5] rfl
  have hD9 := (hD.sub (ws' := [oO r3 2 [.null, .int 0]]) [5] (by decide) rfl).weaken (B := fun _ => True) (fun _ _ _ _ => trivial)
  refine kv (wr := [oO t 4 [.ref r1, .ref r2, .null], oO r1 2 [.ref a1, .int (nI 0)], aI D a1 16 (fun _ => 0), oO r2 2 [.ref a2, .int (nI 0)], aI D a2 16 (fun _ => 0)]) (rI (rest := [.ref r3, .ref t]) [.int 16] 1 1 16 hC (c_Row_init l D (r := r3) (n := 16) (hz0 := H.size) (by omega) (by omega)) mM_X4_11 mI_X2_init mN_X2 mC_X2_init rfl (by decide +kernel) rfl rfl ⟨Nat.le_of_ble_eq_true rfl, Nat.le_of_ble_eq_true rfl⟩ hG hP9 hD9 rfl hl.1 rfl (Nat.le_of_ble_eq_true rfl) dX4_init_37 ⟨Nat.le_of_ble_eq_true rfl, Nat.le_of_ble_eq_true rfl⟩) hP hD hS hA [5] [0, 1, 2, 3, 4] rfl rfl (by decide) (by decide) (fun u37 H locs h37 hP hD hS hz hfr => ?_)
  obtain ⟨a3, rfl⟩ : ∃ z, z = u37 := ⟨_, rfl⟩
  have hP : va_P D cls [oO t 4 [.ref r1, .ref r2, .null], oO r1 2 [.ref a1, .int (nI 0)], aI D a1 16 (fun _ => 0), oO r2 2 [.ref a2, .int (nI 0)], aI D a2 16 (fun _ => 0), oO r3 2 [.ref a3, .int (nI 0)], aI D a3 16 (fun _ => 0)] H := hP
  have hD : va_D A [oO t 4 [.ref r1, .ref r2, .null], oO r1 2 [.ref a1, .int (nI 0)], aI D a1 16 (fun _ => 0), oO r2 2 [.ref a2, .int (nI 0)], aI D a2 16 (fun _ => 0), oO r3 2 [.ref a3, .int (nI 0)], aI D a3 16 (fun _ => 0)] := hD
  refine va_putF (D := D) (ci := 4) (v := .ref r3) (ty := .object "KeyStage$Row") (C := RX4) (T := TX4) (N := 3) hx hb hts inlX4 tyX4 tyX4_ok nmX4 hown hG.K hP hD hS 0 rfl rfl 2 (by decide) (hts _ mF_X4_23) (fun _ h9 => h9) rfl hin rfl (by decide +kernel) rfl rfl (Nat.le_of_ble_eq_true rfl) dX4_init_40 (fun H locs hP hD hS => ?_)
  have hP : va_P D cls [oO t 4 [.ref r1, .ref r2, .ref r3], oO r1 2 [.ref a1, .int (nI 0)], aI D a1 16 (fun _ => 0), oO r2 2 [.ref a2, .int (nI 0)], aI D a2 16 (fun _ => 0), oO r3 2 [.ref a3, .int (nI 0)], aI D a3 16 (fun _ => 0)] H := hP
  have hD : va_D A [oO t 4 [.ref r1, .ref r2, .ref r3], oO r1 2 [.ref a1, .int (nI 0)], aI D a1 16 (fun _ => 0), oO r2 2 [.ref a2, .int (nI 0)], aI D a2 16 (fun _ => 0), oO r3 2 [.ref a3, .int (nI 0)], aI D a3 16 (fun _ => 0)] := hD
  refine Wv (r1, a1, r2, a2, r3, a3) hx hb hr hlk ?_ (hP.sub [0, 1, 3, 5, 2, 4, 6] rfl) (hD.sub [0, 1, 3, 5, 2, 4, 6] (by decide) rfl) hS (Nat.le_of_ble_eq_true rfl) (by first | exact Nat.le_of_ble_eq_true rfl | exact Nat.le_of_eq (Nat.zero_add _)) dX4_init_43
  exact trivial
