set_option maxHeartbeats 4000000 in
set_option maxRecDepth 100000 in
theorem c_count (l : Launch) (D : va_G) {t r1 r2 r3 a1 a2 a3 sz : Nat} {ft fv fe : Nat → Int32}  : Met l yX4_count (ws_ yX4_count cX4_count 1 (some .int)) ({ frames := 1, cells := 0, slots := 0, locals := 20 } : Room) (va_Pc [.ref t] (PW D [oO t 4 [.ref r1, .ref r2, .ref r3], oO r1 2 [.ref a1, .int (nI sz)], oO r2 2 [.ref a2, .int (nI sz)], oO r3 2 [.ref a3, .int (nI sz)], aI D a1 16 ft, aI D a2 16 fv, aI D a3 16 fe])) (vp_Si (fun v => v = nI sz)) 0 0 (fun _ => False) := by
  refine Met.ofW (cc := cX4_count) (maxL := 1) (ret := (some .int)) (by decide) rfl ?_
  intro p e s m args below meth c s₁ B hml hv
  obtain ⟨rfl, hG, hP⟩ := hv
  have hx := B.exec
  have hb := B.bytes
  have hr := B.returns
  have hts : ∀ w ∈ wsL_law, w.before _ s = true := fun w h => atoms_spec (ws := (ws_ yX4_count cX4_count 1 (some .int))) B.pre w (List.mem_cons_of_mem _ h)
  have hown : s.vm.findClass RX4 = some m.cls := findClass_of_methodNamed B.named
  have hlk := B.notSynchronized
  have hC : CallFix p m c cX4_count 1 s _ wsL_law RX4 := ⟨hx, hb, hml, hown, hts⟩
  have hl := lv_entry ([.ref t]) (n := 1) (Nat.le_of_ble_eq_true rfl)
  rw [lg_entry_eq]
  generalize (lg_sl ([.ref t]) ++ List.replicate (1 - (lg_sl ([.ref t])).length) Slot.unset).toArray = ls at hl ⊢
  have hl : lv_has ls 1 [(0, .ref t)] := hl
  refine lv_aload_n hx hb dX4_count_0 rfl (lv_at hl 0 rfl) ?_
  refine va_get (D := D) (ci := 4) (v := .ref r1) (C := RX4) (T := TX4) (N := 3) hx hb hts inlX4 hown hG.K hP 0 rfl rfl 0 (by decide) (hts _ mF_X4_14) (fun _ h9 => h9) rfl dX4_count_1 ?_
  have hP9 := hP.sub (ws' := [oO r1 2 [.ref a1, .int (nI sz)], aI D a1 16 ft]) [1, 4] rfl
  refine vp_callSi (pV (rest := []) (qc := (RX2, TX2, 2)) [] 0 hC (c_size l D (r := r1) (a := a1) (sz := sz) (n := 16) (f := ft) ) rfl (hP 1 _ rfl) (gV mM_X4_26 mI_X2_size mS_X2_size mN_X2 mC_X2_size) (by decide +kernel) rfl rfl ⟨Nat.le_of_ble_eq_true rfl, Nat.le_of_ble_eq_true rfl⟩ hG hP9 rfl hl.1 rfl (Nat.le_of_ble_eq_true rfl) dX4_count_4 ⟨Nat.le_of_ble_eq_true rfl, Nat.le_of_ble_eq_true rfl⟩) (fun r4 h4 => ?_)
  obtain rfl : r4 = (nI sz) := h4
  refine Ri hx hb hr hlk ?_ dX4_count_7
  exact rfl
set_option maxHeartbeats 4000000 in
set_option maxRecDepth 100000 in
theorem c_fact (l : Launch) (D : va_G) {t r1 r2 r3 a1 a2 a3 sz : Nat} {ft fv fe : Nat → Int32} {j : Nat} {w : Int32} (hs : sz ≤ 16) (hj : j < sz) : Met l yX4_fact (ws_ yX4_fact cX4_fact 3 (some .int)) ({ frames := 2, cells := 0, slots := 0, locals := 42 } : Room) (va_Pc [.ref t, .int (nI j), .int w] (PW D [oO t 4 [.ref r1, .ref r2, .ref r3], oO r1 2 [.ref a1, .int (nI sz)], oO r2 2 [.ref a2, .int (nI sz)], oO r3 2 [.ref a3, .int (nI sz)], aI D a1 16 ft, aI D a2 16 fv, aI D a3 16 fe])) (vp_Si (fun v => v = if w = 0 then ft j else if w = 1 then fv j else fe j)) 0 0 (fun _ => False) := by
  refine Met.ofW (cc := cX4_fact) (maxL := 3) (ret := (some .int)) (by decide) rfl ?_
  intro p e s m args below meth c s₁ B hml hv
  obtain ⟨rfl, hG, hP⟩ := hv
  have hx := B.exec
  have hb := B.bytes
  have hr := B.returns
  have hts : ∀ w ∈ wsL_law, w.before _ s = true := fun w h => atoms_spec (ws := (ws_ yX4_fact cX4_fact 3 (some .int))) B.pre w (List.mem_cons_of_mem _ h)
  have hown : s.vm.findClass RX4 = some m.cls := findClass_of_methodNamed B.named
  have hlk := B.notSynchronized
  have hC : CallFix p m c cX4_fact 3 s _ wsL_law RX4 := ⟨hx, hb, hml, hown, hts⟩
  have hl := lv_entry ([.ref t, .int (nI j), .int w]) (n := 3) (Nat.le_of_ble_eq_true rfl)
  rw [lg_entry_eq]
  generalize (lg_sl ([.ref t, .int (nI j), .int w]) ++ List.replicate (3 - (lg_sl ([.ref t, .int (nI j), .int w])).length) Slot.unset).toArray = ls at hl ⊢
  have hl : lv_has ls 3 [(0, .ref t), (1, .int (nI j)), (2, .int w)] := hl
  refine lv_iload_n hx hb dX4_fact_0 rfl (lv_at hl 2 rfl) ?_
  rcases sw2 w with h0 | h1 | ⟨h0, h1⟩
  · skip
    refine tpi (y := 0) (h0) ?_
    refine lv_lookup (off := 27) (tgt := 28) hx hb dX4_fact_1 (by decide) (by decide) (by decide) ?_
    refine lv_aload_n hx hb dX4_fact_28 rfl (lv_at hl 0 rfl) ?_
    refine va_get (D := D) (ci := 4) (v := .ref r1) (C := RX4) (T := TX4) (N := 3) hx hb hts inlX4 hown hG.K hP 0 rfl rfl 0 (by decide) (hts _ mF_X4_14) (fun _ h9 => h9) rfl dX4_fact_29 ?_
    refine lv_iload_n hx hb dX4_fact_32 rfl (lv_at hl 1 rfl) ?_
    have hP9 := hP.sub (ws' := [oO r1 2 [.ref a1, .int (nI sz)], aI D a1 16 ft]) [1, 4] rfl
    refine vp_callSi (pV (rest := []) (qc := (RX2, TX2, 2)) [.int (nI j)] 1 hC (c_get l D (r := r1) (j := j) (a := a1) (sz := sz) (n := 16) (f := ft) (by omega) (by omega) (by omega)) rfl (hP 1 _ rfl) (gV mM_X4_30 mI_X2_get mS_X2_get mN_X2 mC_X2_get) (by decide +kernel) rfl rfl ⟨Nat.le_of_ble_eq_true rfl, Nat.le_of_ble_eq_true rfl⟩ hG hP9 rfl hl.1 rfl (Nat.le_of_ble_eq_true rfl) dX4_fact_33 ⟨Nat.le_of_ble_eq_true rfl, Nat.le_of_ble_eq_true rfl⟩) (fun r33 h33 => ?_)
    obtain rfl : r33 = (ft j) := h33
    refine Ri hx hb hr hlk ?_ dX4_fact_36
    show _ = _
    first | (rw [if_pos h0]; done) | (rw [if_neg h0, if_neg h1]; done) | (rw [h1]; rfl)
  · skip
    refine tpi (y := 1) (h1) ?_
    refine lv_lookup (off := 36) (tgt := 37) hx hb dX4_fact_1 (by decide) (by decide) (by decide) ?_
    refine lv_aload_n hx hb dX4_fact_37 rfl (lv_at hl 0 rfl) ?_
    refine va_get (D := D) (ci := 4) (v := .ref r2) (C := RX4) (T := TX4) (N := 3) hx hb hts inlX4 hown hG.K hP 0 rfl rfl 1 (by decide) (hts _ mF_X4_20) (fun _ h9 => h9) rfl dX4_fact_38 ?_
    refine lv_iload_n hx hb dX4_fact_41 rfl (lv_at hl 1 rfl) ?_
    have hP9 := hP.sub (ws' := [oO r2 2 [.ref a2, .int (nI sz)], aI D a2 16 fv]) [2, 5] rfl
    refine vp_callSi (pV (rest := []) (qc := (RX2, TX2, 2)) [.int (nI j)] 1 hC (c_get l D (r := r2) (j := j) (a := a2) (sz := sz) (n := 16) (f := fv) (by omega) (by omega) (by omega)) rfl (hP 2 _ rfl) (gV mM_X4_30 mI_X2_get mS_X2_get mN_X2 mC_X2_get) (by decide +kernel) rfl rfl ⟨Nat.le_of_ble_eq_true rfl, Nat.le_of_ble_eq_true rfl⟩ hG hP9 rfl hl.1 rfl (Nat.le_of_ble_eq_true rfl) dX4_fact_42 ⟨Nat.le_of_ble_eq_true rfl, Nat.le_of_ble_eq_true rfl⟩) (fun r42 h42 => ?_)
    obtain rfl : r42 = (fv j) := h42
    refine Ri hx hb hr hlk ?_ dX4_fact_45
    show _ = _
    first | (rw [if_pos h0]; done) | (rw [if_neg h0, if_neg h1]; done) | (rw [h1]; rfl)
  · skip
    refine lv_lookup (off := 45) (tgt := 46) hx hb dX4_fact_1 (by decide) ((lv_osw h0 rfl).trans ((lv_osw h1 rfl).trans rfl)) (by decide) ?_
    refine lv_aload_n hx hb dX4_fact_46 rfl (lv_at hl 0 rfl) ?_
    refine va_get (D := D) (ci := 4) (v := .ref r3) (C := RX4) (T := TX4) (N := 3) hx hb hts inlX4 hown hG.K hP 0 rfl rfl 2 (by decide) (hts _ mF_X4_23) (fun _ h9 => h9) rfl dX4_fact_47 ?_
    refine lv_iload_n hx hb dX4_fact_50 rfl (lv_at hl 1 rfl) ?_
    have hP9 := hP.sub (ws' := [oO r3 2 [.ref a3, .int (nI sz)], aI D a3 16 fe]) [3, 6] rfl
    refine vp_callSi (pV (rest := []) (qc := (RX2, TX2, 2)) [.int (nI j)] 1 hC (c_get l D (r := r3) (j := j) (a := a3) (sz := sz) (n := 16) (f := fe) (by omega) (by omega) (by omega)) rfl (hP 3 _ rfl) (gV mM_X4_30 mI_X2_get mS_X2_get mN_X2 mC_X2_get) (by decide +kernel) rfl rfl ⟨Nat.le_of_ble_eq_true rfl, Nat.le_of_ble_eq_true rfl⟩ hG hP9 rfl hl.1 rfl (Nat.le_of_ble_eq_true rfl) dX4_fact_51 ⟨Nat.le_of_ble_eq_true rfl, Nat.le_of_ble_eq_true rfl⟩) (fun r51 h51 => ?_)
    obtain rfl : r51 = (fe j) := h51
    refine Ri hx hb hr hlk ?_ dX4_fact_54
    show _ = _
    first | (rw [if_pos h0]; done) | (rw [if_neg h0, if_neg h1]; done) | (rw [h1]; rfl)
set_option maxHeartbeats 4000000 in
set_option maxRecDepth 100000 in
theorem c_hasKeyAt (l : Launch) (D : va_G) {t r1 r2 r3 a1 a2 a3 sz : Nat} {ft fv fe : Nat → Int32} {x : Int32} (hs : sz ≤ 16) : Met l yX4_hasKeyAt (ws_ yX4_hasKeyAt cX4_hasKeyAt 3 (some .boolean)) ({ frames := 3, cells := 0, slots := 0, locals := 64 } : Room) (va_Pc [.ref t, .int x] (PW D [oO t 4 [.ref r1, .ref r2, .ref r3], oO r1 2 [.ref a1, .int (nI sz)], oO r2 2 [.ref a2, .int (nI sz)], oO r3 2 [.ref a3, .int (nI sz)], aI D a1 16 ft, aI D a2 16 fv, aI D a3 16 fe])) (vp_Si (fun v => (v = 1 ∧ (0 < cntLe ft x sz ∧ ft (cntLe ft x sz - 1) = x)) ∨ (v = 0 ∧ ¬ (0 < cntLe ft x sz ∧ ft (cntLe ft x sz - 1) = x)))) 0 0 (fun _ => False) := by
  refine Met.ofW (cc := cX4_hasKeyAt) (maxL := 3) (ret := (some .boolean)) (by decide) rfl ?_
  intro p e s m args below meth c s₁ B hml hv
  obtain ⟨rfl, hG, hP⟩ := hv
  have hx := B.exec
  have hb := B.bytes
  have hr := B.returns
  have hts : ∀ w ∈ wsL_law, w.before _ s = true := fun w h => atoms_spec (ws := (ws_ yX4_hasKeyAt cX4_hasKeyAt 3 (some .boolean))) B.pre w (List.mem_cons_of_mem _ h)
  have hown : s.vm.findClass RX4 = some m.cls := findClass_of_methodNamed B.named
  have hlk := B.notSynchronized
  have hC : CallFix p m c cX4_hasKeyAt 3 s _ wsL_law RX4 := ⟨hx, hb, hml, hown, hts⟩
  have hl := lv_entry ([.ref t, .int x]) (n := 3) (Nat.le_of_ble_eq_true rfl)
  rw [lg_entry_eq]
  generalize (lg_sl ([.ref t, .int x]) ++ List.replicate (3 - (lg_sl ([.ref t, .int x])).length) Slot.unset).toArray = ls at hl ⊢
  have hl : lv_has ls 3 [(0, .ref t), (1, .int x)] := hl
  have hcl := cntLe_le ft x sz
  refine lv_aload_n hx hb dX4_hasKeyAt_0 rfl (lv_at hl 0 rfl) ?_
  refine va_get (D := D) (ci := 4) (v := .ref r1) (C := RX4) (T := TX4) (N := 3) hx hb hts inlX4 hown hG.K hP 0 rfl rfl 0 (by decide) (hts _ mF_X4_14) (fun _ h9 => h9) rfl dX4_hasKeyAt_1 ?_
  refine lv_iload_n hx hb dX4_hasKeyAt_4 rfl (lv_at hl 1 rfl) ?_
  have hP9 := hP.sub (ws' := [oO r1 2 [.ref a1, .int (nI sz)], aI D a1 16 ft]) [1, 4] rfl
  refine vp_callSi (pV (rest := []) (qc := (RX2, TX2, 2)) [.int x] 1 hC (c_countUpTo l D (r := r1) (x := x) (a := a1) (sz := sz) (n := 16) (f := ft) (by omega) (by omega)) rfl (hP 1 _ rfl) (gV mM_X4_34 mI_X2_countUpTo mS_X2_countUpTo mN_X2 mC_X2_countUpTo) (by decide +kernel) rfl rfl ⟨Nat.le_of_ble_eq_true rfl, Nat.le_of_ble_eq_true rfl⟩ hG hP9 rfl hl.1 rfl (Nat.le_of_ble_eq_true rfl) dX4_hasKeyAt_5 ⟨Nat.le_of_ble_eq_true rfl, Nat.le_of_ble_eq_true rfl⟩) (fun r5 h5 => ?_)
  obtain rfl : r5 = (nI (cntLe ft x sz)) := h5
  refine lv_istore_n (lv' := [(2, .int (nI (cntLe ft x sz))), (0, .ref t), (1, .int x)]) hx hb dX4_hasKeyAt_8 rfl hl (by decide) rfl (fun ls hl => ?_)
  refine lv_iload_n hx hb dX4_hasKeyAt_9 rfl (lv_at hl 0 rfl) ?_
  refine lv_if_le (tgt := 31) hx hb dX4_hasKeyAt_10 (by decide) (fun c10 => ?_) (fun c10 => ?_)
  · skip
    have n10 := (nI_leI (a := cntLe ft x sz) (b := 0) (by omega) (by omega)).mp c10
    refine lv_iconst (v := 0) hx hb dX4_hasKeyAt_31 (by decide) ?_
    refine Rz hx hb hr hlk (by first | rfl | decide) ?_ dX4_hasKeyAt_32
    first
    | exact Or.inl ⟨rfl, by omega, c24⟩
    | exact Or.inr ⟨rfl, fun h => c24 h.2⟩
    | exact Or.inr ⟨rfl, fun h => by have := h.1; omega⟩
  · skip
    have n10 := mt (nI_leI (a := cntLe ft x sz) (b := 0) (by omega) (by omega)).mpr c10
    refine lv_aload_n hx hb dX4_hasKeyAt_13 rfl (lv_at hl 1 rfl) ?_
    refine va_get (D := D) (ci := 4) (v := .ref r1) (C := RX4) (T := TX4) (N := 3) hx hb hts inlX4 hown hG.K hP 0 rfl rfl 0 (by decide) (hts _ mF_X4_14) (fun _ h9 => h9) rfl dX4_hasKeyAt_14 ?_
    refine lv_iload_n hx hb dX4_hasKeyAt_17 rfl (lv_at hl 0 rfl) ?_
    refine lv_iconst (v := 1) hx hb dX4_hasKeyAt_18 (by decide) ?_
    refine lv_isub hx hb dX4_hasKeyAt_19 ?_
    refine tpi (y := nI ((cntLe ft x sz) - 1)) (pk_sub (a := (cntLe ft x sz)) (b := 1) (by omega)) ?_
    have hP9 := hP.sub (ws' := [oO r1 2 [.ref a1, .int (nI sz)], aI D a1 16 ft]) [1, 4] rfl
    refine vp_callSi (pV (rest := []) (qc := (RX2, TX2, 2)) [.int (nI ((cntLe ft x sz) - 1))] 1 hC (c_get l D (r := r1) (j := (cntLe ft x sz) - 1) (a := a1) (sz := sz) (n := 16) (f := ft) (by omega) (by omega) (by omega)) rfl (hP 1 _ rfl) (gV mM_X4_30 mI_X2_get mS_X2_get mN_X2 mC_X2_get) (by decide +kernel) rfl rfl ⟨Nat.le_of_ble_eq_true rfl, Nat.le_of_ble_eq_true rfl⟩ hG hP9 rfl hl.1 rfl (Nat.le_of_ble_eq_true rfl) dX4_hasKeyAt_20 ⟨Nat.le_of_ble_eq_true rfl, Nat.le_of_ble_eq_true rfl⟩) (fun r20 h20 => ?_)
    obtain rfl : r20 = (ft ((cntLe ft x sz) - 1)) := h20
    refine lv_iload_n hx hb dX4_hasKeyAt_23 rfl (lv_at hl 2 rfl) ?_
    refine lv_icmp_ne (tgt := 31) hx hb dX4_hasKeyAt_24 (by decide) (fun c24 => ?_) (fun c24 => ?_)
    · skip
      refine lv_iconst (v := 0) hx hb dX4_hasKeyAt_31 (by decide) ?_
      refine Rz hx hb hr hlk (by first | rfl | decide) ?_ dX4_hasKeyAt_32
      first
      | exact Or.inl ⟨rfl, by omega, c24⟩
      | exact Or.inr ⟨rfl, fun h => c24 h.2⟩
      | exact Or.inr ⟨rfl, fun h => by have := h.1; omega⟩
    · skip
      refine lv_iconst (v := 1) hx hb dX4_hasKeyAt_27 (by decide) ?_
      refine lv_goto (tgt := 32) hx hb dX4_hasKeyAt_28 (by decide) ?_
      refine Rz hx hb hr hlk (by first | rfl | decide) ?_ dX4_hasKeyAt_32
      first
      | exact Or.inl ⟨rfl, by omega, c24⟩
      | exact Or.inr ⟨rfl, fun h => c24 h.2⟩
      | exact Or.inr ⟨rfl, fun h => by have := h.1; omega⟩
set_option maxHeartbeats 4000000 in
set_option maxRecDepth 100000 in
theorem c_lay_set (l : Launch) (D : va_G) {t r1 r2 r3 a1 a2 a3 sz : Nat} {ft fv fe : Nat → Int32} {x y z : Int32} (hz0 : Nat) (hs : sz ≤ 16) (hp : 0 < cntLe ft x sz ∧ ft (cntLe ft x sz - 1) = x) : Met l yX4_lay (ws_ yX4_lay cX4_lay 5 none) ({ frames := 4, cells := 0, slots := 0, locals := 86 } : Room) (va_Pc [.ref t, .int x, .int y, .int z] (SW D [oO t 4 [.ref r1, .ref r2, .ref r3], oO r1 2 [.ref a1, .int (nI sz)], oO r2 2 [.ref a2, .int (nI sz)], oO r3 2 [.ref a3, .int (nI sz)], aI D a1 16 ft, aI D a2 16 fv, aI D a3 16 fe] hz0)) (va_Qv (fun _ => True) (AT D (va_A [oO t 4 [.ref r1, .ref r2, .ref r3], oO r1 2 [.ref a1, .int (nI sz)], oO r2 2 [.ref a2, .int (nI sz)], oO r3 2 [.ref a3, .int (nI sz)], aI D a1 16 ft, aI D a2 16 fv, aI D a3 16 fe] hz0) (fun _ : Unit => [oO t 4 [.ref r1, .ref r2, .ref r3], oO r1 2 [.ref a1, .int (nI sz)], oO r2 2 [.ref a2, .int (nI sz)], oO r3 2 [.ref a3, .int (nI sz)], aI D a1 16 ft, aI D a2 16 (upd fv (cntLe ft x sz - 1) y), aI D a3 16 (upd fe (cntLe ft x sz - 1) z)])) (va_A [oO t 4 [.ref r1, .ref r2, .ref r3], oO r1 2 [.ref a1, .int (nI sz)], oO r2 2 [.ref a2, .int (nI sz)], oO r3 2 [.ref a3, .int (nI sz)], aI D a1 16 ft, aI D a2 16 fv, aI D a3 16 fe] hz0)) 0 0 (va_A [oO t 4 [.ref r1, .ref r2, .ref r3], oO r1 2 [.ref a1, .int (nI sz)], oO r2 2 [.ref a2, .int (nI sz)], oO r3 2 [.ref a3, .int (nI sz)], aI D a1 16 ft, aI D a2 16 fv, aI D a3 16 fe] hz0) := by
  refine Met.ofW (cc := cX4_lay) (maxL := 5) (ret := none) (by decide) rfl ?_
  intro p e s m args below meth c s₁ B hml hv
  obtain ⟨rfl, hsz, hG, hP, hD0⟩ := hv
  have hx := B.exec
  have hb := B.bytes
  have hr := B.returns
  have hts : ∀ w ∈ wsL_law, w.before _ s = true := fun w h => atoms_spec (ws := (ws_ yX4_lay cX4_lay 5 none)) B.pre w (List.mem_cons_of_mem _ h)
  have hown : s.vm.findClass RX4 = some m.cls := findClass_of_methodNamed B.named
  have hlk := B.notSynchronized
  have hC : CallFix p m c cX4_lay 5 s _ wsL_law RX4 := ⟨hx, hb, hml, hown, hts⟩
  subst hsz
  have hD := hD0.self (sz := s.heap.size)
  generalize hAe : va_A [oO t 4 [.ref r1, .ref r2, .ref r3], oO r1 2 [.ref a1, .int (nI sz)], oO r2 2 [.ref a2, .int (nI sz)], oO r3 2 [.ref a3, .int (nI sz)], aI D a1 16 ft, aI D a2 16 fv, aI D a3 16 fe] s.heap.size = A at hD ⊢
  have hA : ∀ q : Nat, s.heap.size ≤ q → A q := fun q h => by rw [← hAe]; exact Or.inr h
  have hS : va_S A s.heap s.heap [] := va_S.rf
  obtain ⟨H, hHe⟩ : ∃ H, H = s.heap := ⟨_, rfl⟩
  rw [← hHe] at hP
  have hS : va_S A s.heap H [] := by rw [hHe]; exact hS
  have hl := lv_entry ([.ref t, .int x, .int y, .int z]) (n := 5) (Nat.le_of_ble_eq_true rfl)
  rw [lg_entry_eq]
  generalize (lg_sl ([.ref t, .int x, .int y, .int z]) ++ List.replicate (5 - (lg_sl ([.ref t, .int x, .int y, .int z])).length) Slot.unset).toArray = ls at hl ⊢
  have hl : lv_has ls 5 [(0, .ref t), (1, .int x), (2, .int y), (3, .int z)] := hl
  rw [← hHe]
  have hcl := cntLe_le ft x sz
  refine lv_aload_n hx hb dX4_lay_0 rfl (lv_at hl 0 rfl) ?_
  refine va_get (D := D) (ci := 4) (v := .ref r1) (C := RX4) (T := TX4) (N := 3) hx hb hts inlX4 hown hG.K hP 0 rfl rfl 0 (by decide) (hts _ mF_X4_14) (fun _ h9 => h9) rfl dX4_lay_1 ?_
  refine lv_iload_n hx hb dX4_lay_4 rfl (lv_at hl 1 rfl) ?_
  have hP9 := hP.sub (ws' := [oO r1 2 [.ref a1, .int (nI sz)], aI D a1 16 ft]) [1, 4] rfl
  refine vp_callSi (pV (rest := []) (qc := (RX2, TX2, 2)) [.int x] 1 hC (c_countUpTo l D (r := r1) (x := x) (a := a1) (sz := sz) (n := 16) (f := ft) (by omega) (by omega)) rfl (hP 1 _ rfl) (gV mM_X4_34 mI_X2_countUpTo mS_X2_countUpTo mN_X2 mC_X2_countUpTo) (by decide +kernel) rfl rfl ⟨Nat.le_of_ble_eq_true rfl, Nat.le_of_ble_eq_true rfl⟩ hG hP9 rfl hl.1 rfl (Nat.le_of_ble_eq_true rfl) dX4_lay_5 ⟨Nat.le_of_ble_eq_true rfl, Nat.le_of_ble_eq_true rfl⟩) (fun r5 h5 => ?_)
  obtain rfl : r5 = (nI (cntLe ft x sz)) := h5
  refine lv_istore (lv' := [(4, .int (nI (cntLe ft x sz))), (0, .ref t), (1, .int x), (2, .int y), (3, .int z)]) hx hb dX4_lay_8 hl (by decide) rfl (fun ls hl => ?_)
  refine lv_aload_n hx hb dX4_lay_10 rfl (lv_at hl 1 rfl) ?_
  refine lv_iload_n hx hb dX4_lay_11 rfl (lv_at hl 2 rfl) ?_
  have hP9 := hP
  refine vp_callSi (pV (rest := []) (qc := (RX4, TX4, 3)) [.int x] 1 hC (c_hasKeyAt l D (t := t) (x := x) (r1 := r1) (r2 := r2) (r3 := r3) (a1 := a1) (sz := sz) (a2 := a2) (a3 := a3) (ft := ft) (fv := fv) (fe := fe) (by omega)) rfl (hP 0 _ rfl) (gV mM_X4_37 mI_X4_hasKeyAt mS_X4_hasKeyAt mN_X4 mC_X4_hasKeyAt) (by decide +kernel) rfl rfl ⟨Nat.le_of_ble_eq_true rfl, Nat.le_of_ble_eq_true rfl⟩ hG hP9 rfl hl.1 rfl (Nat.le_of_ble_eq_true rfl) dX4_lay_12 ⟨Nat.le_of_ble_eq_true rfl, Nat.le_of_ble_eq_true rfl⟩) (fun r12 h12 => ?_)
  rcases h12 with ⟨rfl, hb12⟩ | ⟨rfl, hb12⟩
  rotate_left
  · exact absurd (hp) hb12
  refine lv_if_eq (tgt := 43) hx hb dX4_lay_15 (by decide) (fun h9 => absurd h9 (by decide)) (fun _ => ?_)
  refine lv_aload_n hx hb dX4_lay_18 rfl (lv_at hl 1 rfl) ?_
  refine va_get (D := D) (ci := 4) (v := .ref r2) (C := RX4) (T := TX4) (N := 3) hx hb hts inlX4 hown hG.K hP 0 rfl rfl 1 (by decide) (hts _ mF_X4_20) (fun _ h9 => h9) rfl dX4_lay_19 ?_
  refine lv_iload hx hb dX4_lay_22 (lv_at hl 0 rfl) ?_
  refine lv_iconst (v := 1) hx hb dX4_lay_24 (by decide) ?_
  refine lv_isub hx hb dX4_lay_25 ?_
  refine tpi (y := nI ((cntLe ft x sz) - 1)) (pk_sub (a := (cntLe ft x sz)) (b := 1) (by omega)) ?_
  refine lv_iload_n hx hb dX4_lay_26 rfl (lv_at hl 3 rfl) ?_
  have hP9 := hP.sub (ws' := [oO r2 2 [.ref a2, .int (nI sz)], aI D a2 16 fv]) [2, 5] rfl
  have hD9 := (hD.sub (ws' := [oO r2 2 [.ref a2, .int (nI sz)], aI D a2 16 fv]) [2, 5] (by decide) rfl).weaken (B := fun _ => True) (fun _ _ _ _ => trivial)
  refine kv (wr := [oO t 4 [.ref r1, .ref r2, .ref r3], oO r1 2 [.ref a1, .int (nI sz)], oO r3 2 [.ref a3, .int (nI sz)], aI D a1 16 ft, aI D a3 16 fe]) (rV (rest := []) (qc := (RX2, TX2, 2)) [.int (nI ((cntLe ft x sz) - 1)), .int y] 2 0 0 hC (c_set l D (r := r2) (j := (cntLe ft x sz) - 1) (x := y) (a := a2) (sz := sz) (n := 16) (f := fv) (hz0 := H.size) (by omega) (by omega) (by omega)) rfl (hP 2 _ rfl) (gV mM_X4_41 mI_X2_set mS_X2_set mN_X2 mC_X2_set) (by decide +kernel) rfl rfl ⟨Nat.le_of_ble_eq_true rfl, Nat.le_of_ble_eq_true rfl⟩ hG hP9 hD9 rfl hl.1 rfl (Nat.le_of_ble_eq_true rfl) dX4_lay_27 ⟨Nat.le_of_ble_eq_true rfl, Nat.le_of_ble_eq_true rfl⟩) hP hD hS hA [2, 5] [0, 1, 3, 4, 6] rfl rfl (by decide) (by decide) (fun u27 H locs h27 hP hD hS hz hfr => ?_)
  have hP : va_P D cls [oO t 4 [.ref r1, .ref r2, .ref r3], oO r1 2 [.ref a1, .int (nI sz)], oO r3 2 [.ref a3, .int (nI sz)], aI D a1 16 ft, aI D a3 16 fe, oO r2 2 [.ref a2, .int (nI sz)], aI D a2 16 (upd fv ((cntLe ft x sz) - 1) y)] H := hP
  have hD : va_D A [oO t 4 [.ref r1, .ref r2, .ref r3], oO r1 2 [.ref a1, .int (nI sz)], oO r3 2 [.ref a3, .int (nI sz)], aI D a1 16 ft, aI D a3 16 fe, oO r2 2 [.ref a2, .int (nI sz)], aI D a2 16 (upd fv ((cntLe ft x sz) - 1) y)] := hD
  refine lv_aload_n hx hb dX4_lay_30 rfl (lv_at hl 1 rfl) ?_
  refine va_get (D := D) (ci := 4) (v := .ref r3) (C := RX4) (T := TX4) (N := 3) hx hb hts inlX4 hown hG.K hP 0 rfl rfl 2 (by decide) (hts _ mF_X4_23) (fun _ h9 => h9) rfl dX4_lay_31 ?_
  refine lv_iload hx hb dX4_lay_34 (lv_at hl 0 rfl) ?_
  refine lv_iconst (v := 1) hx hb dX4_lay_36 (by decide) ?_
  refine lv_isub hx hb dX4_lay_37 ?_
  refine tpi (y := nI ((cntLe ft x sz) - 1)) (pk_sub (a := (cntLe ft x sz)) (b := 1) (by omega)) ?_
  refine lv_iload_n hx hb dX4_lay_38 rfl (lv_at hl 4 rfl) ?_
  have hP9 := hP.sub (ws' := [oO r3 2 [.ref a3, .int (nI sz)], aI D a3 16 fe]) [2, 4] rfl
  have hD9 := (hD.sub (ws' := [oO r3 2 [.ref a3, .int (nI sz)], aI D a3 16 fe]) [2, 4] (by decide) rfl).weaken (B := fun _ => True) (fun _ _ _ _ => trivial)
  refine kv (wr := [oO t 4 [.ref r1, .ref r2, .ref r3], oO r1 2 [.ref a1, .int (nI sz)], aI D a1 16 ft, oO r2 2 [.ref a2, .int (nI sz)], aI D a2 16 (upd fv ((cntLe ft x sz) - 1) y)]) (rV (rest := []) (qc := (RX2, TX2, 2)) [.int (nI ((cntLe ft x sz) - 1)), .int z] 2 0 0 hC (c_set l D (r := r3) (j := (cntLe ft x sz) - 1) (x := z) (a := a3) (sz := sz) (n := 16) (f := fe) (hz0 := H.size) (by omega) (by omega) (by omega)) rfl (hP 2 _ rfl) (gV mM_X4_41 mI_X2_set mS_X2_set mN_X2 mC_X2_set) (by decide +kernel) rfl rfl ⟨Nat.le_of_ble_eq_true rfl, Nat.le_of_ble_eq_true rfl⟩ hG hP9 hD9 rfl hl.1 rfl (Nat.le_of_ble_eq_true rfl) dX4_lay_39 ⟨Nat.le_of_ble_eq_true rfl, Nat.le_of_ble_eq_true rfl⟩) hP hD hS hA [2, 4] [0, 1, 3, 5, 6] rfl rfl (by decide) (by decide) (fun u39 H locs h39 hP hD hS hz hfr => ?_)
  have hP : va_P D cls [oO t 4 [.ref r1, .ref r2, .ref r3], oO r1 2 [.ref a1, .int (nI sz)], aI D a1 16 ft, oO r2 2 [.ref a2, .int (nI sz)], aI D a2 16 (upd fv ((cntLe ft x sz) - 1) y), oO r3 2 [.ref a3, .int (nI sz)], aI D a3 16 (upd fe ((cntLe ft x sz) - 1) z)] H := hP
  have hD : va_D A [oO t 4 [.ref r1, .ref r2, .ref r3], oO r1 2 [.ref a1, .int (nI sz)], aI D a1 16 ft, oO r2 2 [.ref a2, .int (nI sz)], aI D a2 16 (upd fv ((cntLe ft x sz) - 1) y), oO r3 2 [.ref a3, .int (nI sz)], aI D a3 16 (upd fe ((cntLe ft x sz) - 1) z)] := hD
  refine Wv () hx hb hr hlk ?_ (hP.sub [0, 1, 3, 5, 2, 4, 6] rfl) (hD.sub [0, 1, 3, 5, 2, 4, 6] (by decide) rfl) hS (Nat.le_of_ble_eq_true rfl) (by first | exact Nat.le_of_ble_eq_true rfl | exact Nat.le_of_eq (Nat.zero_add _)) dX4_lay_42
  exact trivial
set_option maxHeartbeats 4000000 in
set_option maxRecDepth 100000 in
theorem c_lay_ins (l : Launch) (D : va_G) {t r1 r2 r3 a1 a2 a3 sz : Nat} {ft fv fe : Nat → Int32} {x y z : Int32} (hz0 : Nat) (hs : sz < 16) (hp : ¬ (0 < cntLe ft x sz ∧ ft (cntLe ft x sz - 1) = x)) : Met l yX4_lay (ws_ yX4_lay cX4_lay 5 none) ({ frames := 4, cells := 0, slots := 0, locals := 86 } : Room) (va_Pc [.ref t, .int x, .int y, .int z] (SW D [oO t 4 [.ref r1, .ref r2, .ref r3], oO r1 2 [.ref a1, .int (nI sz)], oO r2 2 [.ref a2, .int (nI sz)], oO r3 2 [.ref a3, .int (nI sz)], aI D a1 16 ft, aI D a2 16 fv, aI D a3 16 fe] hz0)) (va_Qv (fun _ => True) (AT D (va_A [oO t 4 [.ref r1, .ref r2, .ref r3], oO r1 2 [.ref a1, .int (nI sz)], oO r2 2 [.ref a2, .int (nI sz)], oO r3 2 [.ref a3, .int (nI sz)], aI D a1 16 ft, aI D a2 16 fv, aI D a3 16 fe] hz0) (fun _ : Unit => [oO t 4 [.ref r1, .ref r2, .ref r3], oO r1 2 [.ref a1, .int (nI (sz + 1))], oO r2 2 [.ref a2, .int (nI (sz + 1))], oO r3 2 [.ref a3, .int (nI (sz + 1))], aI D a1 16 (insF ft (cntLe ft x sz) sz x), aI D a2 16 (insF fv (cntLe ft x sz) sz y), aI D a3 16 (insF fe (cntLe ft x sz) sz z)])) (va_A [oO t 4 [.ref r1, .ref r2, .ref r3], oO r1 2 [.ref a1, .int (nI sz)], oO r2 2 [.ref a2, .int (nI sz)], oO r3 2 [.ref a3, .int (nI sz)], aI D a1 16 ft, aI D a2 16 fv, aI D a3 16 fe] hz0)) 0 0 (va_A [oO t 4 [.ref r1, .ref r2, .ref r3], oO r1 2 [.ref a1, .int (nI sz)], oO r2 2 [.ref a2, .int (nI sz)], oO r3 2 [.ref a3, .int (nI sz)], aI D a1 16 ft, aI D a2 16 fv, aI D a3 16 fe] hz0) := by
  refine Met.ofW (cc := cX4_lay) (maxL := 5) (ret := none) (by decide) rfl ?_
  intro p e s m args below meth c s₁ B hml hv
  obtain ⟨rfl, hsz, hG, hP, hD0⟩ := hv
  have hx := B.exec
  have hb := B.bytes
  have hr := B.returns
  have hts : ∀ w ∈ wsL_law, w.before _ s = true := fun w h => atoms_spec (ws := (ws_ yX4_lay cX4_lay 5 none)) B.pre w (List.mem_cons_of_mem _ h)
  have hown : s.vm.findClass RX4 = some m.cls := findClass_of_methodNamed B.named
  have hlk := B.notSynchronized
  have hC : CallFix p m c cX4_lay 5 s _ wsL_law RX4 := ⟨hx, hb, hml, hown, hts⟩
  subst hsz
  have hD := hD0.self (sz := s.heap.size)
  generalize hAe : va_A [oO t 4 [.ref r1, .ref r2, .ref r3], oO r1 2 [.ref a1, .int (nI sz)], oO r2 2 [.ref a2, .int (nI sz)], oO r3 2 [.ref a3, .int (nI sz)], aI D a1 16 ft, aI D a2 16 fv, aI D a3 16 fe] s.heap.size = A at hD ⊢
  have hA : ∀ q : Nat, s.heap.size ≤ q → A q := fun q h => by rw [← hAe]; exact Or.inr h
  have hS : va_S A s.heap s.heap [] := va_S.rf
  obtain ⟨H, hHe⟩ : ∃ H, H = s.heap := ⟨_, rfl⟩
  rw [← hHe] at hP
  have hS : va_S A s.heap H [] := by rw [hHe]; exact hS
  have hl := lv_entry ([.ref t, .int x, .int y, .int z]) (n := 5) (Nat.le_of_ble_eq_true rfl)
  rw [lg_entry_eq]
  generalize (lg_sl ([.ref t, .int x, .int y, .int z]) ++ List.replicate (5 - (lg_sl ([.ref t, .int x, .int y, .int z])).length) Slot.unset).toArray = ls at hl ⊢
  have hl : lv_has ls 5 [(0, .ref t), (1, .int x), (2, .int y), (3, .int z)] := hl
  rw [← hHe]
  have hcl := cntLe_le ft x sz
  refine lv_aload_n hx hb dX4_lay_0 rfl (lv_at hl 0 rfl) ?_
  refine va_get (D := D) (ci := 4) (v := .ref r1) (C := RX4) (T := TX4) (N := 3) hx hb hts inlX4 hown hG.K hP 0 rfl rfl 0 (by decide) (hts _ mF_X4_14) (fun _ h9 => h9) rfl dX4_lay_1 ?_
  refine lv_iload_n hx hb dX4_lay_4 rfl (lv_at hl 1 rfl) ?_
  have hP9 := hP.sub (ws' := [oO r1 2 [.ref a1, .int (nI sz)], aI D a1 16 ft]) [1, 4] rfl
  refine vp_callSi (pV (rest := []) (qc := (RX2, TX2, 2)) [.int x] 1 hC (c_countUpTo l D (r := r1) (x := x) (a := a1) (sz := sz) (n := 16) (f := ft) (by omega) (by omega)) rfl (hP 1 _ rfl) (gV mM_X4_34 mI_X2_countUpTo mS_X2_countUpTo mN_X2 mC_X2_countUpTo) (by decide +kernel) rfl rfl ⟨Nat.le_of_ble_eq_true rfl, Nat.le_of_ble_eq_true rfl⟩ hG hP9 rfl hl.1 rfl (Nat.le_of_ble_eq_true rfl) dX4_lay_5 ⟨Nat.le_of_ble_eq_true rfl, Nat.le_of_ble_eq_true rfl⟩) (fun r5 h5 => ?_)
  obtain rfl : r5 = (nI (cntLe ft x sz)) := h5
  refine lv_istore (lv' := [(4, .int (nI (cntLe ft x sz))), (0, .ref t), (1, .int x), (2, .int y), (3, .int z)]) hx hb dX4_lay_8 hl (by decide) rfl (fun ls hl => ?_)
  refine lv_aload_n hx hb dX4_lay_10 rfl (lv_at hl 1 rfl) ?_
  refine lv_iload_n hx hb dX4_lay_11 rfl (lv_at hl 2 rfl) ?_
  have hP9 := hP
  refine vp_callSi (pV (rest := []) (qc := (RX4, TX4, 3)) [.int x] 1 hC (c_hasKeyAt l D (t := t) (x := x) (r1 := r1) (r2 := r2) (r3 := r3) (a1 := a1) (sz := sz) (a2 := a2) (a3 := a3) (ft := ft) (fv := fv) (fe := fe) (by omega)) rfl (hP 0 _ rfl) (gV mM_X4_37 mI_X4_hasKeyAt mS_X4_hasKeyAt mN_X4 mC_X4_hasKeyAt) (by decide +kernel) rfl rfl ⟨Nat.le_of_ble_eq_true rfl, Nat.le_of_ble_eq_true rfl⟩ hG hP9 rfl hl.1 rfl (Nat.le_of_ble_eq_true rfl) dX4_lay_12 ⟨Nat.le_of_ble_eq_true rfl, Nat.le_of_ble_eq_true rfl⟩) (fun r12 h12 => ?_)
  rcases h12 with ⟨rfl, hb12⟩ | ⟨rfl, hb12⟩
  · exact absurd hb12 (hp)
  refine lv_if_eq (tgt := 43) hx hb dX4_lay_15 (by decide) (fun _ => ?_) (fun h9 => (h9 (by decide)).elim)
  refine lv_aload_n hx hb dX4_lay_43 rfl (lv_at hl 1 rfl) ?_
  refine va_get (D := D) (ci := 4) (v := .ref r1) (C := RX4) (T := TX4) (N := 3) hx hb hts inlX4 hown hG.K hP 0 rfl rfl 0 (by decide) (hts _ mF_X4_14) (fun _ h9 => h9) rfl dX4_lay_44 ?_
  refine lv_iload hx hb dX4_lay_47 (lv_at hl 0 rfl) ?_
  refine lv_iload_n hx hb dX4_lay_49 rfl (lv_at hl 2 rfl) ?_
  have hP9 := hP.sub (ws' := [oO r1 2 [.ref a1, .int (nI sz)], aI D a1 16 ft]) [1, 4] rfl
  have hD9 := (hD.sub (ws' := [oO r1 2 [.ref a1, .int (nI sz)], aI D a1 16 ft]) [1, 4] (by decide) rfl).weaken (B := fun _ => True) (fun _ _ _ _ => trivial)
  refine kv (wr := [oO t 4 [.ref r1, .ref r2, .ref r3], oO r2 2 [.ref a2, .int (nI sz)], oO r3 2 [.ref a3, .int (nI sz)], aI D a2 16 fv, aI D a3 16 fe]) (rV (rest := []) (qc := (RX2, TX2, 2)) [.int (nI (cntLe ft x sz)), .int x] 2 0 0 hC (c_insert l D (r := r1) (j := cntLe ft x sz) (x := x) (a := a1) (sz := sz) (n := 16) (f := ft) (hz0 := H.size) (by omega) (by omega) (by omega)) rfl (hP 1 _ rfl) (gV mM_X4_45 mI_X2_insert mS_X2_insert mN_X2 mC_X2_insert) (by decide +kernel) rfl rfl ⟨Nat.le_of_ble_eq_true rfl, Nat.le_of_ble_eq_true rfl⟩ hG hP9 hD9 rfl hl.1 rfl (Nat.le_of_ble_eq_true rfl) dX4_lay_50 ⟨Nat.le_of_ble_eq_true rfl, Nat.le_of_ble_eq_true rfl⟩) hP hD hS hA [1, 4] [0, 2, 3, 5, 6] rfl rfl (by decide) (by decide) (fun u50 H locs h50 hP hD hS hz hfr => ?_)
  have hP : va_P D cls [oO t 4 [.ref r1, .ref r2, .ref r3], oO r2 2 [.ref a2, .int (nI sz)], oO r3 2 [.ref a3, .int (nI sz)], aI D a2 16 fv, aI D a3 16 fe, oO r1 2 [.ref a1, .int (nI (sz + 1))], aI D a1 16 (insF ft (cntLe ft x sz) sz x)] H := hP
  have hD : va_D A [oO t 4 [.ref r1, .ref r2, .ref r3], oO r2 2 [.ref a2, .int (nI sz)], oO r3 2 [.ref a3, .int (nI sz)], aI D a2 16 fv, aI D a3 16 fe, oO r1 2 [.ref a1, .int (nI (sz + 1))], aI D a1 16 (insF ft (cntLe ft x sz) sz x)] := hD
  refine lv_aload_n hx hb dX4_lay_53 rfl (lv_at hl 1 rfl) ?_
  refine va_get (D := D) (ci := 4) (v := .ref r2) (C := RX4) (T := TX4) (N := 3) hx hb hts inlX4 hown hG.K hP 0 rfl rfl 1 (by decide) (hts _ mF_X4_20) (fun _ h9 => h9) rfl dX4_lay_54 ?_
  refine lv_iload hx hb dX4_lay_57 (lv_at hl 0 rfl) ?_
  refine lv_iload_n hx hb dX4_lay_59 rfl (lv_at hl 3 rfl) ?_
  have hP9 := hP.sub (ws' := [oO r2 2 [.ref a2, .int (nI sz)], aI D a2 16 fv]) [1, 3] rfl
  have hD9 := (hD.sub (ws' := [oO r2 2 [.ref a2, .int (nI sz)], aI D a2 16 fv]) [1, 3] (by decide) rfl).weaken (B := fun _ => True) (fun _ _ _ _ => trivial)
  refine kv (wr := [oO t 4 [.ref r1, .ref r2, .ref r3], oO r3 2 [.ref a3, .int (nI sz)], aI D a3 16 fe, oO r1 2 [.ref a1, .int (nI (sz + 1))], aI D a1 16 (insF ft (cntLe ft x sz) sz x)]) (rV (rest := []) (qc := (RX2, TX2, 2)) [.int (nI (cntLe ft x sz)), .int y] 2 0 0 hC (c_insert l D (r := r2) (j := cntLe ft x sz) (x := y) (a := a2) (sz := sz) (n := 16) (f := fv) (hz0 := H.size) (by omega) (by omega) (by omega)) rfl (hP 1 _ rfl) (gV mM_X4_45 mI_X2_insert mS_X2_insert mN_X2 mC_X2_insert) (by decide +kernel) rfl rfl ⟨Nat.le_of_ble_eq_true rfl, Nat.le_of_ble_eq_true rfl⟩ hG hP9 hD9 rfl hl.1 rfl (Nat.le_of_ble_eq_true rfl) dX4_lay_60 ⟨Nat.le_of_ble_eq_true rfl, Nat.le_of_ble_eq_true rfl⟩) hP hD hS hA [1, 3] [0, 2, 4, 5, 6] rfl rfl (by decide) (by decide) (fun u60 H locs h60 hP hD hS hz hfr => ?_)
  have hP : va_P D cls [oO t 4 [.ref r1, .ref r2, .ref r3], oO r3 2 [.ref a3, .int (nI sz)], aI D a3 16 fe, oO r1 2 [.ref a1, .int (nI (sz + 1))], aI D a1 16 (insF ft (cntLe ft x sz) sz x), oO r2 2 [.ref a2, .int (nI (sz + 1))], aI D a2 16 (insF fv (cntLe ft x sz) sz y)] H := hP
  have hD : va_D A [oO t 4 [.ref r1, .ref r2, .ref r3], oO r3 2 [.ref a3, .int (nI sz)], aI D a3 16 fe, oO r1 2 [.ref a1, .int (nI (sz + 1))], aI D a1 16 (insF ft (cntLe ft x sz) sz x), oO r2 2 [.ref a2, .int (nI (sz + 1))], aI D a2 16 (insF fv (cntLe ft x sz) sz y)] := hD
  refine lv_aload_n hx hb dX4_lay_63 rfl (lv_at hl 1 rfl) ?_
  refine va_get (D := D) (ci := 4) (v := .ref r3) (C := RX4) (T := TX4) (N := 3) hx hb hts inlX4 hown hG.K hP 0 rfl rfl 2 (by decide) (hts _ mF_X4_23) (fun _ h9 => h9) rfl dX4_lay_64 ?_
  refine lv_iload hx hb dX4_lay_67 (lv_at hl 0 rfl) ?_
  refine lv_iload_n hx hb dX4_lay_69 rfl (lv_at hl 4 rfl) ?_
  have hP9 := hP.sub (ws' := [oO r3 2 [.ref a3, .int (nI sz)], aI D a3 16 fe]) [1, 2] rfl
  have hD9 := (hD.sub (ws' := [oO r3 2 [.ref a3, .int (nI sz)], aI D a3 16 fe]) [1, 2] (by decide) rfl).weaken (B := fun _ => True) (fun _ _ _ _ => trivial)
  refine kv (wr := [oO t 4 [.ref r1, .ref r2, .ref r3], oO r1 2 [.ref a1, .int (nI (sz + 1))], aI D a1 16 (insF ft (cntLe ft x sz) sz x), oO r2 2 [.ref a2, .int (nI (sz + 1))], aI D a2 16 (insF fv (cntLe ft x sz) sz y)]) (rV (rest := []) (qc := (RX2, TX2, 2)) [.int (nI (cntLe ft x sz)), .int z] 2 0 0 hC (c_insert l D (r := r3) (j := cntLe ft x sz) (x := z) (a := a3) (sz := sz) (n := 16) (f := fe) (hz0 := H.size) (by omega) (by omega) (by omega)) rfl (hP 1 _ rfl) (gV mM_X4_45 mI_X2_insert mS_X2_insert mN_X2 mC_X2_insert) (by decide +kernel) rfl rfl ⟨Nat.le_of_ble_eq_true rfl, Nat.le_of_ble_eq_true rfl⟩ hG hP9 hD9 rfl hl.1 rfl (Nat.le_of_ble_eq_true rfl) dX4_lay_70 ⟨Nat.le_of_ble_eq_true rfl, Nat.le_of_ble_eq_true rfl⟩) hP hD hS hA [1, 2] [0, 3, 4, 5, 6] rfl rfl (by decide) (by decide) (fun u70 H locs h70 hP hD hS hz hfr => ?_)
  have hP : va_P D cls [oO t 4 [.ref r1, .ref r2, .ref r3], oO r1 2 [.ref a1, .int (nI (sz + 1))], aI D a1 16 (insF ft (cntLe ft x sz) sz x), oO r2 2 [.ref a2, .int (nI (sz + 1))], aI D a2 16 (insF fv (cntLe ft x sz) sz y), oO r3 2 [.ref a3, .int (nI (sz + 1))], aI D a3 16 (insF fe (cntLe ft x sz) sz z)] H := hP
  have hD : va_D A [oO t 4 [.ref r1, .ref r2, .ref r3], oO r1 2 [.ref a1, .int (nI (sz + 1))], aI D a1 16 (insF ft (cntLe ft x sz) sz x), oO r2 2 [.ref a2, .int (nI (sz + 1))], aI D a2 16 (insF fv (cntLe ft x sz) sz y), oO r3 2 [.ref a3, .int (nI (sz + 1))], aI D a3 16 (insF fe (cntLe ft x sz) sz z)] := hD
  refine Wv () hx hb hr hlk ?_ (hP.sub [0, 1, 3, 5, 2, 4, 6] rfl) (hD.sub [0, 1, 3, 5, 2, 4, 6] (by decide) rfl) hS (Nat.le_of_ble_eq_true rfl) (by first | exact Nat.le_of_ble_eq_true rfl | exact Nat.le_of_eq (Nat.zero_add _)) dX4_lay_73
  exact trivial
set_option maxHeartbeats 4000000 in
set_option maxRecDepth 100000 in
theorem c_takeAway (l : Launch) (D : va_G) {t r1 r2 r3 a1 a2 a3 sz : Nat} {ft fv fe : Nat → Int32} {j : Nat} (hz0 : Nat) (hs : sz ≤ 16) (hj : j < sz) : Met l yX4_takeAway (ws_ yX4_takeAway cX4_takeAway 2 none) ({ frames := 2, cells := 0, slots := 0, locals := 43 } : Room) (va_Pc [.ref t, .int (nI j)] (SW D [oO t 4 [.ref r1, .ref r2, .ref r3], oO r1 2 [.ref a1, .int (nI sz)], oO r2 2 [.ref a2, .int (nI sz)], oO r3 2 [.ref a3, .int (nI sz)], aI D a1 16 ft, aI D a2 16 fv, aI D a3 16 fe] hz0)) (va_Qv (fun _ => True) (AT D (va_A [oO t 4 [.ref r1, .ref r2, .ref r3], oO r1 2 [.ref a1, .int (nI sz)], oO r2 2 [.ref a2, .int (nI sz)], oO r3 2 [.ref a3, .int (nI sz)], aI D a1 16 ft, aI D a2 16 fv, aI D a3 16 fe] hz0) (fun _ : Unit => [oO t 4 [.ref r1, .ref r2, .ref r3], oO r1 2 [.ref a1, .int (nI (sz - 1))], oO r2 2 [.ref a2, .int (nI (sz - 1))], oO r3 2 [.ref a3, .int (nI (sz - 1))], aI D a1 16 (dlF ft j sz), aI D a2 16 (dlF fv j sz), aI D a3 16 (dlF fe j sz)])) (va_A [oO t 4 [.ref r1, .ref r2, .ref r3], oO r1 2 [.ref a1, .int (nI sz)], oO r2 2 [.ref a2, .int (nI sz)], oO r3 2 [.ref a3, .int (nI sz)], aI D a1 16 ft, aI D a2 16 fv, aI D a3 16 fe] hz0)) 0 0 (va_A [oO t 4 [.ref r1, .ref r2, .ref r3], oO r1 2 [.ref a1, .int (nI sz)], oO r2 2 [.ref a2, .int (nI sz)], oO r3 2 [.ref a3, .int (nI sz)], aI D a1 16 ft, aI D a2 16 fv, aI D a3 16 fe] hz0) := by
  refine Met.ofW (cc := cX4_takeAway) (maxL := 2) (ret := none) (by decide) rfl ?_
  intro p e s m args below meth c s₁ B hml hv
  obtain ⟨rfl, hsz, hG, hP, hD0⟩ := hv
  have hx := B.exec
  have hb := B.bytes
  have hr := B.returns
  have hts : ∀ w ∈ wsL_law, w.before _ s = true := fun w h => atoms_spec (ws := (ws_ yX4_takeAway cX4_takeAway 2 none)) B.pre w (List.mem_cons_of_mem _ h)
  have hown : s.vm.findClass RX4 = some m.cls := findClass_of_methodNamed B.named
  have hlk := B.notSynchronized
  have hC : CallFix p m c cX4_takeAway 2 s _ wsL_law RX4 := ⟨hx, hb, hml, hown, hts⟩
  subst hsz
  have hD := hD0.self (sz := s.heap.size)
  generalize hAe : va_A [oO t 4 [.ref r1, .ref r2, .ref r3], oO r1 2 [.ref a1, .int (nI sz)], oO r2 2 [.ref a2, .int (nI sz)], oO r3 2 [.ref a3, .int (nI sz)], aI D a1 16 ft, aI D a2 16 fv, aI D a3 16 fe] s.heap.size = A at hD ⊢
  have hA : ∀ q : Nat, s.heap.size ≤ q → A q := fun q h => by rw [← hAe]; exact Or.inr h
  have hS : va_S A s.heap s.heap [] := va_S.rf
  obtain ⟨H, hHe⟩ : ∃ H, H = s.heap := ⟨_, rfl⟩
  rw [← hHe] at hP
  have hS : va_S A s.heap H [] := by rw [hHe]; exact hS
  have hl := lv_entry ([.ref t, .int (nI j)]) (n := 2) (Nat.le_of_ble_eq_true rfl)
  rw [lg_entry_eq]
  generalize (lg_sl ([.ref t, .int (nI j)]) ++ List.replicate (2 - (lg_sl ([.ref t, .int (nI j)])).length) Slot.unset).toArray = ls at hl ⊢
  have hl : lv_has ls 2 [(0, .ref t), (1, .int (nI j))] := hl
  rw [← hHe]
  refine lv_aload_n hx hb dX4_takeAway_0 rfl (lv_at hl 0 rfl) ?_
  refine va_get (D := D) (ci := 4) (v := .ref r1) (C := RX4) (T := TX4) (N := 3) hx hb hts inlX4 hown hG.K hP 0 rfl rfl 0 (by decide) (hts _ mF_X4_14) (fun _ h9 => h9) rfl dX4_takeAway_1 ?_
  refine lv_iload_n hx hb dX4_takeAway_4 rfl (lv_at hl 1 rfl) ?_
  have hP9 := hP.sub (ws' := [oO r1 2 [.ref a1, .int (nI sz)], aI D a1 16 ft]) [1, 4] rfl
  have hD9 := (hD.sub (ws' := [oO r1 2 [.ref a1, .int (nI sz)], aI D a1 16 ft]) [1, 4] (by decide) rfl).weaken (B := fun _ => True) (fun _ _ _ _ => trivial)
  refine kv (wr := [oO t 4 [.ref r1, .ref r2, .ref r3], oO r2 2 [.ref a2, .int (nI sz)], oO r3 2 [.ref a3, .int (nI sz)], aI D a2 16 fv, aI D a3 16 fe]) (rV (rest := []) (qc := (RX2, TX2, 2)) [.int (nI j)] 1 0 0 hC (c_delete l D (r := r1) (j := j) (a := a1) (sz := sz) (n := 16) (f := ft) (hz0 := H.size) (by omega) (by omega) (by omega)) rfl (hP 1 _ rfl) (gV mM_X4_48 mI_X2_delete mS_X2_delete mN_X2 mC_X2_delete) (by decide +kernel) rfl rfl ⟨Nat.le_of_ble_eq_true rfl, Nat.le_of_ble_eq_true rfl⟩ hG hP9 hD9 rfl hl.1 rfl (Nat.le_of_ble_eq_true rfl) dX4_takeAway_5 ⟨Nat.le_of_ble_eq_true rfl, Nat.le_of_ble_eq_true rfl⟩) hP hD hS hA [1, 4] [0, 2, 3, 5, 6] rfl rfl (by decide) (by decide) (fun u5 H locs h5 hP hD hS hz hfr => ?_)
  have hP : va_P D cls [oO t 4 [.ref r1, .ref r2, .ref r3], oO r2 2 [.ref a2, .int (nI sz)], oO r3 2 [.ref a3, .int (nI sz)], aI D a2 16 fv, aI D a3 16 fe, oO r1 2 [.ref a1, .int (nI (sz - 1))], aI D a1 16 (dlF ft j sz)] H := hP
  have hD : va_D A [oO t 4 [.ref r1, .ref r2, .ref r3], oO r2 2 [.ref a2, .int (nI sz)], oO r3 2 [.ref a3, .int (nI sz)], aI D a2 16 fv, aI D a3 16 fe, oO r1 2 [.ref a1, .int (nI (sz - 1))], aI D a1 16 (dlF ft j sz)] := hD
  refine lv_aload_n hx hb dX4_takeAway_8 rfl (lv_at hl 0 rfl) ?_
  refine va_get (D := D) (ci := 4) (v := .ref r2) (C := RX4) (T := TX4) (N := 3) hx hb hts inlX4 hown hG.K hP 0 rfl rfl 1 (by decide) (hts _ mF_X4_20) (fun _ h9 => h9) rfl dX4_takeAway_9 ?_
  refine lv_iload_n hx hb dX4_takeAway_12 rfl (lv_at hl 1 rfl) ?_
  have hP9 := hP.sub (ws' := [oO r2 2 [.ref a2, .int (nI sz)], aI D a2 16 fv]) [1, 3] rfl
  have hD9 := (hD.sub (ws' := [oO r2 2 [.ref a2, .int (nI sz)], aI D a2 16 fv]) [1, 3] (by decide) rfl).weaken (B := fun _ => True) (fun _ _ _ _ => trivial)
  refine kv (wr := [oO t 4 [.ref r1, .ref r2, .ref r3], oO r3 2 [.ref a3, .int (nI sz)], aI D a3 16 fe, oO r1 2 [.ref a1, .int (nI (sz - 1))], aI D a1 16 (dlF ft j sz)]) (rV (rest := []) (qc := (RX2, TX2, 2)) [.int (nI j)] 1 0 0 hC (c_delete l D (r := r2) (j := j) (a := a2) (sz := sz) (n := 16) (f := fv) (hz0 := H.size) (by omega) (by omega) (by omega)) rfl (hP 1 _ rfl) (gV mM_X4_48 mI_X2_delete mS_X2_delete mN_X2 mC_X2_delete) (by decide +kernel) rfl rfl ⟨Nat.le_of_ble_eq_true rfl, Nat.le_of_ble_eq_true rfl⟩ hG hP9 hD9 rfl hl.1 rfl (Nat.le_of_ble_eq_true rfl) dX4_takeAway_13 ⟨Nat.le_of_ble_eq_true rfl, Nat.le_of_ble_eq_true rfl⟩) hP hD hS hA [1, 3] [0, 2, 4, 5, 6] rfl rfl (by decide) (by decide) (fun u13 H locs h13 hP hD hS hz hfr => ?_)
  have hP : va_P D cls [oO t 4 [.ref r1, .ref r2, .ref r3], oO r3 2 [.ref a3, .int (nI sz)], aI D a3 16 fe, oO r1 2 [.ref a1, .int (nI (sz - 1))], aI D a1 16 (dlF ft j sz), oO r2 2 [.ref a2, .int (nI (sz - 1))], aI D a2 16 (dlF fv j sz)] H := hP
  have hD : va_D A [oO t 4 [.ref r1, .ref r2, .ref r3], oO r3 2 [.ref a3, .int (nI sz)], aI D a3 16 fe, oO r1 2 [.ref a1, .int (nI (sz - 1))], aI D a1 16 (dlF ft j sz), oO r2 2 [.ref a2, .int (nI (sz - 1))], aI D a2 16 (dlF fv j sz)] := hD
  refine lv_aload_n hx hb dX4_takeAway_16 rfl (lv_at hl 0 rfl) ?_
  refine va_get (D := D) (ci := 4) (v := .ref r3) (C := RX4) (T := TX4) (N := 3) hx hb hts inlX4 hown hG.K hP 0 rfl rfl 2 (by decide) (hts _ mF_X4_23) (fun _ h9 => h9) rfl dX4_takeAway_17 ?_
  refine lv_iload_n hx hb dX4_takeAway_20 rfl (lv_at hl 1 rfl) ?_
  have hP9 := hP.sub (ws' := [oO r3 2 [.ref a3, .int (nI sz)], aI D a3 16 fe]) [1, 2] rfl
  have hD9 := (hD.sub (ws' := [oO r3 2 [.ref a3, .int (nI sz)], aI D a3 16 fe]) [1, 2] (by decide) rfl).weaken (B := fun _ => True) (fun _ _ _ _ => trivial)
  refine kv (wr := [oO t 4 [.ref r1, .ref r2, .ref r3], oO r1 2 [.ref a1, .int (nI (sz - 1))], aI D a1 16 (dlF ft j sz), oO r2 2 [.ref a2, .int (nI (sz - 1))], aI D a2 16 (dlF fv j sz)]) (rV (rest := []) (qc := (RX2, TX2, 2)) [.int (nI j)] 1 0 0 hC (c_delete l D (r := r3) (j := j) (a := a3) (sz := sz) (n := 16) (f := fe) (hz0 := H.size) (by omega) (by omega) (by omega)) rfl (hP 1 _ rfl) (gV mM_X4_48 mI_X2_delete mS_X2_delete mN_X2 mC_X2_delete) (by decide +kernel) rfl rfl ⟨Nat.le_of_ble_eq_true rfl, Nat.le_of_ble_eq_true rfl⟩ hG hP9 hD9 rfl hl.1 rfl (Nat.le_of_ble_eq_true rfl) dX4_takeAway_21 ⟨Nat.le_of_ble_eq_true rfl, Nat.le_of_ble_eq_true rfl⟩) hP hD hS hA [1, 2] [0, 3, 4, 5, 6] rfl rfl (by decide) (by decide) (fun u21 H locs h21 hP hD hS hz hfr => ?_)
  have hP : va_P D cls [oO t 4 [.ref r1, .ref r2, .ref r3], oO r1 2 [.ref a1, .int (nI (sz - 1))], aI D a1 16 (dlF ft j sz), oO r2 2 [.ref a2, .int (nI (sz - 1))], aI D a2 16 (dlF fv j sz), oO r3 2 [.ref a3, .int (nI (sz - 1))], aI D a3 16 (dlF fe j sz)] H := hP
  have hD : va_D A [oO t 4 [.ref r1, .ref r2, .ref r3], oO r1 2 [.ref a1, .int (nI (sz - 1))], aI D a1 16 (dlF ft j sz), oO r2 2 [.ref a2, .int (nI (sz - 1))], aI D a2 16 (dlF fv j sz), oO r3 2 [.ref a3, .int (nI (sz - 1))], aI D a3 16 (dlF fe j sz)] := hD
  refine Wv () hx hb hr hlk ?_ (hP.sub [0, 1, 3, 5, 2, 4, 6] rfl) (hD.sub [0, 1, 3, 5, 2, 4, 6] (by decide) rfl) hS (Nat.le_of_ble_eq_true rfl) (by first | exact Nat.le_of_ble_eq_true rfl | exact Nat.le_of_eq (Nat.zero_add _)) dX4_takeAway_24
  exact trivial
set_option maxHeartbeats 4000000 in
set_option maxRecDepth 100000 in
theorem c_valueBetween (l : Launch) (D : va_G) {t r1 r2 r3 a1 a2 a3 sz : Nat} {ft fv fe : Nat → Int32} {i j : Nat} {x : Int32} (hs : sz ≤ 16) (hi : i < sz) (hj : j < sz) (hd : dOK (ft j - ft i)) : Met l yX4_valueBetween (ws_ yX4_valueBetween cX4_valueBetween 11 (some .int)) ({ frames := 2, cells := 0, slots := 0, locals := 48 } : Room) (va_Pc [.ref t, .int (nI i), .int (nI j), .int x] (PW D [oO t 4 [.ref r1, .ref r2, .ref r3], oO r1 2 [.ref a1, .int (nI sz)], oO r2 2 [.ref a2, .int (nI sz)], oO r3 2 [.ref a3, .int (nI sz)], aI D a1 16 ft, aI D a2 16 fv, aI D a3 16 fe])) (vp_Si (fun v => v = vb ft fv fe i j x)) 0 0 (fun _ => False) := by
  refine Met.ofW (cc := cX4_valueBetween) (maxL := 11) (ret := (some .int)) (by decide) rfl ?_
  intro p e s m args below meth c s₁ B hml hv
  obtain ⟨rfl, hG, hP⟩ := hv
  have hx := B.exec
  have hb := B.bytes
  have hr := B.returns
  have hts : ∀ w ∈ wsL_law, w.before _ s = true := fun w h => atoms_spec (ws := (ws_ yX4_valueBetween cX4_valueBetween 11 (some .int))) B.pre w (List.mem_cons_of_mem _ h)
  have hown : s.vm.findClass RX4 = some m.cls := findClass_of_methodNamed B.named
  have hlk := B.notSynchronized
  have hC : CallFix p m c cX4_valueBetween 11 s _ wsL_law RX4 := ⟨hx, hb, hml, hown, hts⟩
  have hl := lv_entry ([.ref t, .int (nI i), .int (nI j), .int x]) (n := 11) (Nat.le_of_ble_eq_true rfl)
  rw [lg_entry_eq]
  generalize (lg_sl ([.ref t, .int (nI i), .int (nI j), .int x]) ++ List.replicate (11 - (lg_sl ([.ref t, .int (nI i), .int (nI j), .int x])).length) Slot.unset).toArray = ls at hl ⊢
  have hl : lv_has ls 11 [(0, .ref t), (1, .int (nI i)), (2, .int (nI j)), (3, .int x)] := hl
  refine lv_iload_n hx hb dX4_valueBetween_0 rfl (lv_at hl 3 rfl) ?_
  refine lv_aload_n hx hb dX4_valueBetween_1 rfl (lv_at hl 0 rfl) ?_
  refine va_get (D := D) (ci := 4) (v := .ref r1) (C := RX4) (T := TX4) (N := 3) hx hb hts inlX4 hown hG.K hP 0 rfl rfl 0 (by decide) (hts _ mF_X4_14) (fun _ h9 => h9) rfl dX4_valueBetween_2 ?_
  refine lv_iload_n hx hb dX4_valueBetween_5 rfl (lv_at hl 1 rfl) ?_
  have hP9 := hP.sub (ws' := [oO r1 2 [.ref a1, .int (nI sz)], aI D a1 16 ft]) [1, 4] rfl
  refine vp_callSi (pV (rest := [.int x]) (qc := (RX2, TX2, 2)) [.int (nI i)] 1 hC (c_get l D (r := r1) (j := i) (a := a1) (sz := sz) (n := 16) (f := ft) (by omega) (by omega) (by omega)) rfl (hP 1 _ rfl) (gV mM_X4_30 mI_X2_get mS_X2_get mN_X2 mC_X2_get) (by decide +kernel) rfl rfl ⟨Nat.le_of_ble_eq_true rfl, Nat.le_of_ble_eq_true rfl⟩ hG hP9 rfl hl.1 rfl (Nat.le_of_ble_eq_true rfl) dX4_valueBetween_6 ⟨Nat.le_of_ble_eq_true rfl, Nat.le_of_ble_eq_true rfl⟩) (fun r6 h6 => ?_)
  obtain rfl : r6 = (ft i) := h6
  refine lv_isub hx hb dX4_valueBetween_9 ?_
  refine lv_i2l hx hb dX4_valueBetween_10 rfl ?_
  refine lv_lstore (lv' := [(4, .long ((x - (ft i)).toInt64)), (0, .ref t), (1, .int (nI i)), (2, .int (nI j)), (3, .int x)]) hx hb dX4_valueBetween_11 hl (by decide) rfl (fun ls hl => ?_)
  refine lv_aload_n hx hb dX4_valueBetween_13 rfl (lv_at hl 1 rfl) ?_
  refine va_get (D := D) (ci := 4) (v := .ref r1) (C := RX4) (T := TX4) (N := 3) hx hb hts inlX4 hown hG.K hP 0 rfl rfl 0 (by decide) (hts _ mF_X4_14) (fun _ h9 => h9) rfl dX4_valueBetween_14 ?_
  refine lv_iload_n hx hb dX4_valueBetween_17 rfl (lv_at hl 3 rfl) ?_
  have hP9 := hP.sub (ws' := [oO r1 2 [.ref a1, .int (nI sz)], aI D a1 16 ft]) [1, 4] rfl
  refine vp_callSi (pV (rest := []) (qc := (RX2, TX2, 2)) [.int (nI j)] 1 hC (c_get l D (r := r1) (j := j) (a := a1) (sz := sz) (n := 16) (f := ft) (by omega) (by omega) (by omega)) rfl (hP 1 _ rfl) (gV mM_X4_30 mI_X2_get mS_X2_get mN_X2 mC_X2_get) (by decide +kernel) rfl rfl ⟨Nat.le_of_ble_eq_true rfl, Nat.le_of_ble_eq_true rfl⟩ hG hP9 rfl hl.1 rfl (Nat.le_of_ble_eq_true rfl) dX4_valueBetween_18 ⟨Nat.le_of_ble_eq_true rfl, Nat.le_of_ble_eq_true rfl⟩) (fun r18 h18 => ?_)
  obtain rfl : r18 = (ft j) := h18
  refine lv_aload_n hx hb dX4_valueBetween_21 rfl (lv_at hl 1 rfl) ?_
  refine va_get (D := D) (ci := 4) (v := .ref r1) (C := RX4) (T := TX4) (N := 3) hx hb hts inlX4 hown hG.K hP 0 rfl rfl 0 (by decide) (hts _ mF_X4_14) (fun _ h9 => h9) rfl dX4_valueBetween_22 ?_
  refine lv_iload_n hx hb dX4_valueBetween_25 rfl (lv_at hl 2 rfl) ?_
  have hP9 := hP.sub (ws' := [oO r1 2 [.ref a1, .int (nI sz)], aI D a1 16 ft]) [1, 4] rfl
  refine vp_callSi (pV (rest := [.int (ft j)]) (qc := (RX2, TX2, 2)) [.int (nI i)] 1 hC (c_get l D (r := r1) (j := i) (a := a1) (sz := sz) (n := 16) (f := ft) (by omega) (by omega) (by omega)) rfl (hP 1 _ rfl) (gV mM_X4_30 mI_X2_get mS_X2_get mN_X2 mC_X2_get) (by decide +kernel) rfl rfl ⟨Nat.le_of_ble_eq_true rfl, Nat.le_of_ble_eq_true rfl⟩ hG hP9 rfl hl.1 rfl (Nat.le_of_ble_eq_true rfl) dX4_valueBetween_26 ⟨Nat.le_of_ble_eq_true rfl, Nat.le_of_ble_eq_true rfl⟩) (fun r26 h26 => ?_)
  obtain rfl : r26 = (ft i) := h26
  refine lv_isub hx hb dX4_valueBetween_29 ?_
  refine lv_i2l hx hb dX4_valueBetween_30 rfl ?_
  refine lv_lstore (lv' := [(6, .long (((ft j) - (ft i)).toInt64)), (4, .long ((x - (ft i)).toInt64)), (0, .ref t), (1, .int (nI i)), (2, .int (nI j)), (3, .int x)]) hx hb dX4_valueBetween_31 hl (by decide) rfl (fun ls hl => ?_)
  refine lv_aload_n hx hb dX4_valueBetween_33 rfl (lv_at hl 2 rfl) ?_
  refine va_get (D := D) (ci := 4) (v := .ref r2) (C := RX4) (T := TX4) (N := 3) hx hb hts inlX4 hown hG.K hP 0 rfl rfl 1 (by decide) (hts _ mF_X4_20) (fun _ h9 => h9) rfl dX4_valueBetween_34 ?_
  refine lv_iload_n hx hb dX4_valueBetween_37 rfl (lv_at hl 3 rfl) ?_
  have hP9 := hP.sub (ws' := [oO r2 2 [.ref a2, .int (nI sz)], aI D a2 16 fv]) [2, 5] rfl
  refine vp_callSi (pV (rest := []) (qc := (RX2, TX2, 2)) [.int (nI i)] 1 hC (c_get l D (r := r2) (j := i) (a := a2) (sz := sz) (n := 16) (f := fv) (by omega) (by omega) (by omega)) rfl (hP 2 _ rfl) (gV mM_X4_30 mI_X2_get mS_X2_get mN_X2 mC_X2_get) (by decide +kernel) rfl rfl ⟨Nat.le_of_ble_eq_true rfl, Nat.le_of_ble_eq_true rfl⟩ hG hP9 rfl hl.1 rfl (Nat.le_of_ble_eq_true rfl) dX4_valueBetween_38 ⟨Nat.le_of_ble_eq_true rfl, Nat.le_of_ble_eq_true rfl⟩) (fun r38 h38 => ?_)
  obtain rfl : r38 = (fv i) := h38
  refine lv_istore (lv' := [(8, .int (fv i)), (6, .long (((ft j) - (ft i)).toInt64)), (4, .long ((x - (ft i)).toInt64)), (0, .ref t), (1, .int (nI i)), (2, .int (nI j)), (3, .int x)]) hx hb dX4_valueBetween_41 hl (by decide) rfl (fun ls hl => ?_)
  refine lv_aload_n hx hb dX4_valueBetween_43 rfl (lv_at hl 3 rfl) ?_
  refine va_get (D := D) (ci := 4) (v := .ref r2) (C := RX4) (T := TX4) (N := 3) hx hb hts inlX4 hown hG.K hP 0 rfl rfl 1 (by decide) (hts _ mF_X4_20) (fun _ h9 => h9) rfl dX4_valueBetween_44 ?_
  refine lv_iload_n hx hb dX4_valueBetween_47 rfl (lv_at hl 5 rfl) ?_
  have hP9 := hP.sub (ws' := [oO r2 2 [.ref a2, .int (nI sz)], aI D a2 16 fv]) [2, 5] rfl
  refine vp_callSi (pV (rest := []) (qc := (RX2, TX2, 2)) [.int (nI j)] 1 hC (c_get l D (r := r2) (j := j) (a := a2) (sz := sz) (n := 16) (f := fv) (by omega) (by omega) (by omega)) rfl (hP 2 _ rfl) (gV mM_X4_30 mI_X2_get mS_X2_get mN_X2 mC_X2_get) (by decide +kernel) rfl rfl ⟨Nat.le_of_ble_eq_true rfl, Nat.le_of_ble_eq_true rfl⟩ hG hP9 rfl hl.1 rfl (Nat.le_of_ble_eq_true rfl) dX4_valueBetween_48 ⟨Nat.le_of_ble_eq_true rfl, Nat.le_of_ble_eq_true rfl⟩) (fun r48 h48 => ?_)
  obtain rfl : r48 = (fv j) := h48
  refine lv_iload hx hb dX4_valueBetween_51 (lv_at hl 0 rfl) ?_
  refine lv_isub hx hb dX4_valueBetween_53 ?_
  refine lv_i2l hx hb dX4_valueBetween_54 rfl ?_
  refine lv_lstore (lv' := [(9, .long (((fv j) - (fv i)).toInt64)), (8, .int (fv i)), (6, .long (((ft j) - (ft i)).toInt64)), (4, .long ((x - (ft i)).toInt64)), (0, .ref t), (1, .int (nI i)), (2, .int (nI j)), (3, .int x)]) hx hb dX4_valueBetween_55 hl (by decide) rfl (fun ls hl => ?_)
  refine lv_aload_n hx hb dX4_valueBetween_57 rfl (lv_at hl 4 rfl) ?_
  refine va_get (D := D) (ci := 4) (v := .ref r3) (C := RX4) (T := TX4) (N := 3) hx hb hts inlX4 hown hG.K hP 0 rfl rfl 2 (by decide) (hts _ mF_X4_23) (fun _ h9 => h9) rfl dX4_valueBetween_58 ?_
  refine lv_iload_n hx hb dX4_valueBetween_61 rfl (lv_at hl 5 rfl) ?_
  have hP9 := hP.sub (ws' := [oO r3 2 [.ref a3, .int (nI sz)], aI D a3 16 fe]) [3, 6] rfl
  refine vp_callSi (pV (rest := []) (qc := (RX2, TX2, 2)) [.int (nI i)] 1 hC (c_get l D (r := r3) (j := i) (a := a3) (sz := sz) (n := 16) (f := fe) (by omega) (by omega) (by omega)) rfl (hP 3 _ rfl) (gV mM_X4_30 mI_X2_get mS_X2_get mN_X2 mC_X2_get) (by decide +kernel) rfl rfl ⟨Nat.le_of_ble_eq_true rfl, Nat.le_of_ble_eq_true rfl⟩ hG hP9 rfl hl.1 rfl (Nat.le_of_ble_eq_true rfl) dX4_valueBetween_62 ⟨Nat.le_of_ble_eq_true rfl, Nat.le_of_ble_eq_true rfl⟩) (fun r62 h62 => ?_)
  obtain rfl : r62 = (fe i) := h62
  rcases sw4 (fe i) with h0 | h1 | h2 | h3 | hsw
  · skip
    refine tpi (y := 0) (h0) ?_
    refine lv_tableIn (off := 31) (tgt := 96) hx hb dX4_valueBetween_65 (by decide) (by decide) (by decide) (by decide) ?_
    refine lv_iload hx hb dX4_valueBetween_96 (lv_at hl 1 rfl) ?_
    refine Ri hx hb hr hlk ?_ dX4_valueBetween_98
    show _ = ezed _ _ _ _ _
    rw [ezed, if_pos h0]
  · skip
    refine tpi (y := 1) (h1) ?_
    refine lv_tableIn (off := 34) (tgt := 99) hx hb dX4_valueBetween_65 (by decide) (by decide) (by decide) (by decide) ?_
    refine lv_iload hx hb dX4_valueBetween_99 (lv_at hl 1 rfl) ?_
    refine lv_lload hx hb dX4_valueBetween_101 (lv_at hl 0 rfl) ?_
    refine lv_lload hx hb dX4_valueBetween_103 (lv_at hl 3 rfl) ?_
    refine lv_lmul hx hb dX4_valueBetween_105 ?_
    refine lv_lload hx hb dX4_valueBetween_106 (lv_at hl 2 rfl) ?_
    have hP9 : va_P D cls [] s.heap := fun k q h => by simp at h
    refine vp_callSi (pSN (rest := [.int (fv i)]) [.long ((((fv j) - (fv i)).toInt64) * ((x - (ft i)).toInt64)), .long (((ft j) - (ft i)).toInt64)] 2 hC (c_rounded l D (x := (((fv j) - (fv i)).toInt64) * ((x - (ft i)).toInt64)) (y := ((ft j) - (ft i)).toInt64) ((dp1 hd).1) ((dp1 hd).2)) (nM_KeyStage_Track_55 hG) mT_X5_rounded mN_X5 mC_X5_rounded (by decide +kernel) rfl rfl ⟨Nat.le_of_ble_eq_true rfl, Nat.le_of_ble_eq_true rfl⟩ hG hP9 rfl hl.1 rfl (Nat.le_of_ble_eq_true rfl) dX4_valueBetween_108 ⟨Nat.le_of_ble_eq_true rfl, Nat.le_of_ble_eq_true rfl⟩) (fun r108 h108 => ?_)
    obtain rfl : r108 = (rnd ((((fv j) - (fv i)).toInt64) * ((x - (ft i)).toInt64)) (((ft j) - (ft i)).toInt64)) := h108
    refine lv_iadd hx hb dX4_valueBetween_111 ?_
    refine Ri hx hb hr hlk ?_ dX4_valueBetween_112
    show _ = ezed _ _ _ _ _
    rw [ezed, if_neg (by rw [h1]; decide), if_pos h1]
  · skip
    refine tpi (y := 2) (h2) ?_
    refine lv_tableIn (off := 48) (tgt := 113) hx hb dX4_valueBetween_65 (by decide) (by decide) (by decide) (by decide) ?_
    refine lv_iload hx hb dX4_valueBetween_113 (lv_at hl 1 rfl) ?_
    refine lv_lload hx hb dX4_valueBetween_115 (lv_at hl 0 rfl) ?_
    refine lv_lload hx hb dX4_valueBetween_117 (lv_at hl 3 rfl) ?_
    refine lv_lmul hx hb dX4_valueBetween_119 ?_
    refine lv_lload hx hb dX4_valueBetween_120 (lv_at hl 3 rfl) ?_
    refine lv_lmul hx hb dX4_valueBetween_122 ?_
    refine lv_lload hx hb dX4_valueBetween_123 (lv_at hl 2 rfl) ?_
    refine lv_lload hx hb dX4_valueBetween_125 (lv_at hl 2 rfl) ?_
    refine lv_lmul hx hb dX4_valueBetween_127 ?_
    have hP9 : va_P D cls [] s.heap := fun k q h => by simp at h
    refine vp_callSi (pSN (rest := [.int (fv i)]) [.long (((((fv j) - (fv i)).toInt64) * ((x - (ft i)).toInt64)) * ((x - (ft i)).toInt64)), .long ((((ft j) - (ft i)).toInt64) * (((ft j) - (ft i)).toInt64))] 2 hC (c_rounded l D (x := ((((fv j) - (fv i)).toInt64) * ((x - (ft i)).toInt64)) * ((x - (ft i)).toInt64)) (y := (((ft j) - (ft i)).toInt64) * (((ft j) - (ft i)).toInt64)) ((dp2 hd).1) ((dp2 hd).2)) (nM_KeyStage_Track_55 hG) mT_X5_rounded mN_X5 mC_X5_rounded (by decide +kernel) rfl rfl ⟨Nat.le_of_ble_eq_true rfl, Nat.le_of_ble_eq_true rfl⟩ hG hP9 rfl hl.1 rfl (Nat.le_of_ble_eq_true rfl) dX4_valueBetween_128 ⟨Nat.le_of_ble_eq_true rfl, Nat.le_of_ble_eq_true rfl⟩) (fun r128 h128 => ?_)
    obtain rfl : r128 = (rnd (((((fv j) - (fv i)).toInt64) * ((x - (ft i)).toInt64)) * ((x - (ft i)).toInt64)) ((((ft j) - (ft i)).toInt64) * (((ft j) - (ft i)).toInt64))) := h128
    refine lv_iadd hx hb dX4_valueBetween_131 ?_
    refine Ri hx hb hr hlk ?_ dX4_valueBetween_132
    show _ = ezed _ _ _ _ _
    rw [ezed, if_neg (by rw [h2]; decide), if_neg (by rw [h2]; decide), if_pos h2]
  · skip
    refine tpi (y := 3) (h3) ?_
    refine lv_tableIn (off := 68) (tgt := 133) hx hb dX4_valueBetween_65 (by decide) (by decide) (by decide) (by decide) ?_
    refine lv_iload hx hb dX4_valueBetween_133 (lv_at hl 1 rfl) ?_
    refine lv_lload hx hb dX4_valueBetween_135 (lv_at hl 0 rfl) ?_
    refine lv_lload hx hb dX4_valueBetween_137 (lv_at hl 3 rfl) ?_
    refine lv_lmul hx hb dX4_valueBetween_139 ?_
    refine lv_ldc2 hx hb hown (hts _ mH_X4_59) dX4_valueBetween_140 ?_
    refine lv_lload hx hb dX4_valueBetween_143 (lv_at hl 2 rfl) ?_
    refine lv_lmul hx hb dX4_valueBetween_145 ?_
    refine lv_lload hx hb dX4_valueBetween_146 (lv_at hl 3 rfl) ?_
    refine lv_lsub hx hb dX4_valueBetween_148 ?_
    refine lv_lmul hx hb dX4_valueBetween_149 ?_
    refine lv_lload hx hb dX4_valueBetween_150 (lv_at hl 2 rfl) ?_
    refine lv_lload hx hb dX4_valueBetween_152 (lv_at hl 2 rfl) ?_
    refine lv_lmul hx hb dX4_valueBetween_154 ?_
    have hP9 : va_P D cls [] s.heap := fun k q h => by simp at h
    refine vp_callSi (pSN (rest := [.int (fv i)]) [.long (((((fv j) - (fv i)).toInt64) * ((x - (ft i)).toInt64)) * ((2 * (((ft j) - (ft i)).toInt64)) - ((x - (ft i)).toInt64))), .long ((((ft j) - (ft i)).toInt64) * (((ft j) - (ft i)).toInt64))] 2 hC (c_rounded l D (x := ((((fv j) - (fv i)).toInt64) * ((x - (ft i)).toInt64)) * ((2 * (((ft j) - (ft i)).toInt64)) - ((x - (ft i)).toInt64))) (y := (((ft j) - (ft i)).toInt64) * (((ft j) - (ft i)).toInt64)) ((dp2 hd).1) ((dp2 hd).2)) (nM_KeyStage_Track_55 hG) mT_X5_rounded mN_X5 mC_X5_rounded (by decide +kernel) rfl rfl ⟨Nat.le_of_ble_eq_true rfl, Nat.le_of_ble_eq_true rfl⟩ hG hP9 rfl hl.1 rfl (Nat.le_of_ble_eq_true rfl) dX4_valueBetween_155 ⟨Nat.le_of_ble_eq_true rfl, Nat.le_of_ble_eq_true rfl⟩) (fun r155 h155 => ?_)
    obtain rfl : r155 = (rnd (((((fv j) - (fv i)).toInt64) * ((x - (ft i)).toInt64)) * ((2 * (((ft j) - (ft i)).toInt64)) - ((x - (ft i)).toInt64))) ((((ft j) - (ft i)).toInt64) * (((ft j) - (ft i)).toInt64))) := h155
    refine lv_iadd hx hb dX4_valueBetween_158 ?_
    refine Ri hx hb hr hlk ?_ dX4_valueBetween_159
    show _ = ezed _ _ _ _ _
    rw [ezed, if_neg (by rw [h3]; decide), if_neg (by rw [h3]; decide), if_neg (by rw [h3]; decide), if_pos h3]
  · skip
    refine lv_tableOut (tgt := 160) hx hb dX4_valueBetween_65 (hsw) (by decide) ?_
    refine lv_iload hx hb dX4_valueBetween_160 (lv_at hl 1 rfl) ?_
    refine lv_lload hx hb dX4_valueBetween_162 (lv_at hl 0 rfl) ?_
    refine lv_lload hx hb dX4_valueBetween_164 (lv_at hl 3 rfl) ?_
    refine lv_lmul hx hb dX4_valueBetween_166 ?_
    refine lv_lload hx hb dX4_valueBetween_167 (lv_at hl 3 rfl) ?_
    refine lv_lmul hx hb dX4_valueBetween_169 ?_
    refine lv_ldc2 hx hb hown (hts _ mH_X4_61) dX4_valueBetween_170 ?_
    refine lv_lload hx hb dX4_valueBetween_173 (lv_at hl 2 rfl) ?_
    refine lv_lmul hx hb dX4_valueBetween_175 ?_
    refine lv_ldc2 hx hb hown (hts _ mH_X4_59) dX4_valueBetween_176 ?_
    refine lv_lload hx hb dX4_valueBetween_179 (lv_at hl 3 rfl) ?_
    refine lv_lmul hx hb dX4_valueBetween_181 ?_
    refine lv_lsub hx hb dX4_valueBetween_182 ?_
    refine lv_lmul hx hb dX4_valueBetween_183 ?_
    refine lv_lload hx hb dX4_valueBetween_184 (lv_at hl 2 rfl) ?_
    refine lv_lload hx hb dX4_valueBetween_186 (lv_at hl 2 rfl) ?_
    refine lv_lmul hx hb dX4_valueBetween_188 ?_
    refine lv_lload hx hb dX4_valueBetween_189 (lv_at hl 2 rfl) ?_
    refine lv_lmul hx hb dX4_valueBetween_191 ?_
    have hP9 : va_P D cls [] s.heap := fun k q h => by simp at h
    refine vp_callSi (pSN (rest := [.int (fv i)]) [.long ((((((fv j) - (fv i)).toInt64) * ((x - (ft i)).toInt64)) * ((x - (ft i)).toInt64)) * ((3 * (((ft j) - (ft i)).toInt64)) - (2 * ((x - (ft i)).toInt64)))), .long (((((ft j) - (ft i)).toInt64) * (((ft j) - (ft i)).toInt64)) * (((ft j) - (ft i)).toInt64))] 2 hC (c_rounded l D (x := (((((fv j) - (fv i)).toInt64) * ((x - (ft i)).toInt64)) * ((x - (ft i)).toInt64)) * ((3 * (((ft j) - (ft i)).toInt64)) - (2 * ((x - (ft i)).toInt64)))) (y := ((((ft j) - (ft i)).toInt64) * (((ft j) - (ft i)).toInt64)) * (((ft j) - (ft i)).toInt64)) ((dp3 hd).1) ((dp3 hd).2)) (nM_KeyStage_Track_55 hG) mT_X5_rounded mN_X5 mC_X5_rounded (by decide +kernel) rfl rfl ⟨Nat.le_of_ble_eq_true rfl, Nat.le_of_ble_eq_true rfl⟩ hG hP9 rfl hl.1 rfl (Nat.le_of_ble_eq_true rfl) dX4_valueBetween_192 ⟨Nat.le_of_ble_eq_true rfl, Nat.le_of_ble_eq_true rfl⟩) (fun r192 h192 => ?_)
    obtain rfl : r192 = (rnd ((((((fv j) - (fv i)).toInt64) * ((x - (ft i)).toInt64)) * ((x - (ft i)).toInt64)) * ((3 * (((ft j) - (ft i)).toInt64)) - (2 * ((x - (ft i)).toInt64)))) (((((ft j) - (ft i)).toInt64) * (((ft j) - (ft i)).toInt64)) * (((ft j) - (ft i)).toInt64))) := h192
    refine lv_iadd hx hb dX4_valueBetween_195 ?_
    refine Ri hx hb hr hlk ?_ dX4_valueBetween_196
    show _ = ezed _ _ _ _ _
    rw [ezed, if_neg (fun h => by rw [h] at hsw; exact absurd hsw (by decide)), if_neg (fun h => by rw [h] at hsw; exact absurd hsw (by decide)), if_neg (fun h => by rw [h] at hsw; exact absurd hsw (by decide)), if_neg (fun h => by rw [h] at hsw; exact absurd hsw (by decide))]
set_option maxHeartbeats 4000000 in
set_option maxRecDepth 100000 in
theorem c_valueAt (l : Launch) (D : va_G) {t r1 r2 r3 a1 a2 a3 sz : Nat} {ft fv fe : Nat → Int32} {x : Int32} (hs : sz ≤ 16) (h0 : 0 < sz) (hT : tOK ft sz) : Met l yX4_valueAt (ws_ yX4_valueAt cX4_valueAt 4 (some .int)) ({ frames := 3, cells := 0, slots := 0, locals := 78 } : Room) (va_Pc [.ref t, .int x] (PW D [oO t 4 [.ref r1, .ref r2, .ref r3], oO r1 2 [.ref a1, .int (nI sz)], oO r2 2 [.ref a2, .int (nI sz)], oO r3 2 [.ref a3, .int (nI sz)], aI D a1 16 ft, aI D a2 16 fv, aI D a3 16 fe])) (vp_Si (fun v => v = evT sz ft fv fe x)) 0 0 (fun _ => False) := by
  refine Met.ofW (cc := cX4_valueAt) (maxL := 4) (ret := (some .int)) (by decide) rfl ?_
  intro p e s m args below meth c s₁ B hml hv
  obtain ⟨rfl, hG, hP⟩ := hv
  have hx := B.exec
  have hb := B.bytes
  have hr := B.returns
  have hts : ∀ w ∈ wsL_law, w.before _ s = true := fun w h => atoms_spec (ws := (ws_ yX4_valueAt cX4_valueAt 4 (some .int))) B.pre w (List.mem_cons_of_mem _ h)
  have hown : s.vm.findClass RX4 = some m.cls := findClass_of_methodNamed B.named
  have hlk := B.notSynchronized
  have hC : CallFix p m c cX4_valueAt 4 s _ wsL_law RX4 := ⟨hx, hb, hml, hown, hts⟩
  have hl := lv_entry ([.ref t, .int x]) (n := 4) (Nat.le_of_ble_eq_true rfl)
  rw [lg_entry_eq]
  generalize (lg_sl ([.ref t, .int x]) ++ List.replicate (4 - (lg_sl ([.ref t, .int x])).length) Slot.unset).toArray = ls at hl ⊢
  have hl : lv_has ls 4 [(0, .ref t), (1, .int x)] := hl
  have hcl := cntLe_le ft x sz
  refine lv_aload_n hx hb dX4_valueAt_0 rfl (lv_at hl 0 rfl) ?_
  refine va_get (D := D) (ci := 4) (v := .ref r1) (C := RX4) (T := TX4) (N := 3) hx hb hts inlX4 hown hG.K hP 0 rfl rfl 0 (by decide) (hts _ mF_X4_14) (fun _ h9 => h9) rfl dX4_valueAt_1 ?_
  have hP9 := hP.sub (ws' := [oO r1 2 [.ref a1, .int (nI sz)], aI D a1 16 ft]) [1, 4] rfl
  refine vp_callSi (pV (rest := []) (qc := (RX2, TX2, 2)) [] 0 hC (c_size l D (r := r1) (a := a1) (sz := sz) (n := 16) (f := ft) ) rfl (hP 1 _ rfl) (gV mM_X4_26 mI_X2_size mS_X2_size mN_X2 mC_X2_size) (by decide +kernel) rfl rfl ⟨Nat.le_of_ble_eq_true rfl, Nat.le_of_ble_eq_true rfl⟩ hG hP9 rfl hl.1 rfl (Nat.le_of_ble_eq_true rfl) dX4_valueAt_4 ⟨Nat.le_of_ble_eq_true rfl, Nat.le_of_ble_eq_true rfl⟩) (fun r4 h4 => ?_)
  obtain rfl : r4 = (nI sz) := h4
  refine lv_istore_n (lv' := [(2, .int (nI sz)), (0, .ref t), (1, .int x)]) hx hb dX4_valueAt_7 rfl hl (by decide) rfl (fun ls hl => ?_)
  refine lv_aload_n hx hb dX4_valueAt_8 rfl (lv_at hl 1 rfl) ?_
  refine va_get (D := D) (ci := 4) (v := .ref r1) (C := RX4) (T := TX4) (N := 3) hx hb hts inlX4 hown hG.K hP 0 rfl rfl 0 (by decide) (hts _ mF_X4_14) (fun _ h9 => h9) rfl dX4_valueAt_9 ?_
  refine lv_iload_n hx hb dX4_valueAt_12 rfl (lv_at hl 2 rfl) ?_
  have hP9 := hP.sub (ws' := [oO r1 2 [.ref a1, .int (nI sz)], aI D a1 16 ft]) [1, 4] rfl
  refine vp_callSi (pV (rest := []) (qc := (RX2, TX2, 2)) [.int x] 1 hC (c_countUpTo l D (r := r1) (x := x) (a := a1) (sz := sz) (n := 16) (f := ft) (by omega) (by omega)) rfl (hP 1 _ rfl) (gV mM_X4_34 mI_X2_countUpTo mS_X2_countUpTo mN_X2 mC_X2_countUpTo) (by decide +kernel) rfl rfl ⟨Nat.le_of_ble_eq_true rfl, Nat.le_of_ble_eq_true rfl⟩ hG hP9 rfl hl.1 rfl (Nat.le_of_ble_eq_true rfl) dX4_valueAt_13 ⟨Nat.le_of_ble_eq_true rfl, Nat.le_of_ble_eq_true rfl⟩) (fun r13 h13 => ?_)
  obtain rfl : r13 = (nI (cntLe ft x sz)) := h13
  refine lv_istore_n (lv' := [(3, .int (nI (cntLe ft x sz))), (2, .int (nI sz)), (0, .ref t), (1, .int x)]) hx hb dX4_valueAt_16 rfl hl (by decide) rfl (fun ls hl => ?_)
  refine lv_iload_n hx hb dX4_valueAt_17 rfl (lv_at hl 0 rfl) ?_
  refine lv_if_ne (tgt := 30) hx hb dX4_valueAt_18 (by decide) (fun c18 => ?_) (fun c18 => ?_)
  · skip
    have n18 := mt (nI_eq (a := cntLe ft x sz) (b := 0) (by omega) (by omega)).mpr c18
    refine lv_iload_n hx hb dX4_valueAt_30 rfl (lv_at hl 0 rfl) ?_
    refine lv_iload_n hx hb dX4_valueAt_31 rfl (lv_at hl 1 rfl) ?_
    refine lv_icmp_ne (tgt := 46) hx hb dX4_valueAt_32 (by decide) (fun c32 => ?_) (fun c32 => ?_)
    · skip
      have n32 := mt (nI_eq (a := cntLe ft x sz) (b := sz) (by omega) (by omega)).mpr c32
      refine lv_aload_n hx hb dX4_valueAt_46 rfl (lv_at hl 2 rfl) ?_
      refine lv_iload_n hx hb dX4_valueAt_47 rfl (lv_at hl 0 rfl) ?_
      refine lv_iconst (v := 1) hx hb dX4_valueAt_48 (by decide) ?_
      refine lv_isub hx hb dX4_valueAt_49 ?_
      refine tpi (y := nI ((cntLe ft x sz) - 1)) (pk_sub (a := (cntLe ft x sz)) (b := 1) (by omega)) ?_
      refine lv_iload_n hx hb dX4_valueAt_50 rfl (lv_at hl 0 rfl) ?_
      refine lv_iload_n hx hb dX4_valueAt_51 rfl (lv_at hl 3 rfl) ?_
      have hP9 := hP
      refine vp_callSi (pV (rest := []) (qc := (RX4, TX4, 3)) [.int (nI ((cntLe ft x sz) - 1)), .int (nI (cntLe ft x sz)), .int x] 3 hC (c_valueBetween l D (t := t) (i := (cntLe ft x sz) - 1) (j := cntLe ft x sz) (x := x) (r1 := r1) (r2 := r2) (r3 := r3) (a1 := a1) (sz := sz) (a2 := a2) (a3 := a3) (ft := ft) (fv := fv) (fe := fe) (by omega) (by omega) (by omega) (hT.d (by omega) (by omega))) rfl (hP 0 _ rfl) (gV mM_X4_51 mI_X4_valueBetween mS_X4_valueBetween mN_X4 mC_X4_valueBetween) (by decide +kernel) rfl rfl ⟨Nat.le_of_ble_eq_true rfl, Nat.le_of_ble_eq_true rfl⟩ hG hP9 rfl hl.1 rfl (Nat.le_of_ble_eq_true rfl) dX4_valueAt_52 ⟨Nat.le_of_ble_eq_true rfl, Nat.le_of_ble_eq_true rfl⟩) (fun r52 h52 => ?_)
      obtain rfl : r52 = (vb ft fv fe ((cntLe ft x sz) - 1) (cntLe ft x sz) x) := h52
      refine Ri hx hb hr hlk ?_ dX4_valueAt_55
      show _ = evT _ _ _ _ _
      rw [evT, if_neg n18, if_neg n32]
    · skip
      have n32 := (nI_eq (a := cntLe ft x sz) (b := sz) (by omega) (by omega)).mp c32
      refine lv_aload_n hx hb dX4_valueAt_35 rfl (lv_at hl 2 rfl) ?_
      refine va_get (D := D) (ci := 4) (v := .ref r2) (C := RX4) (T := TX4) (N := 3) hx hb hts inlX4 hown hG.K hP 0 rfl rfl 1 (by decide) (hts _ mF_X4_20) (fun _ h9 => h9) rfl dX4_valueAt_36 ?_
      refine lv_iload_n hx hb dX4_valueAt_39 rfl (lv_at hl 1 rfl) ?_
      refine lv_iconst (v := 1) hx hb dX4_valueAt_40 (by decide) ?_
      refine lv_isub hx hb dX4_valueAt_41 ?_
      refine tpi (y := nI (sz - 1)) (pk_sub (a := sz) (b := 1) (by omega)) ?_
      have hP9 := hP.sub (ws' := [oO r2 2 [.ref a2, .int (nI sz)], aI D a2 16 fv]) [2, 5] rfl
      refine vp_callSi (pV (rest := []) (qc := (RX2, TX2, 2)) [.int (nI (sz - 1))] 1 hC (c_get l D (r := r2) (j := sz - 1) (a := a2) (sz := sz) (n := 16) (f := fv) (by omega) (by omega) (by omega)) rfl (hP 2 _ rfl) (gV mM_X4_30 mI_X2_get mS_X2_get mN_X2 mC_X2_get) (by decide +kernel) rfl rfl ⟨Nat.le_of_ble_eq_true rfl, Nat.le_of_ble_eq_true rfl⟩ hG hP9 rfl hl.1 rfl (Nat.le_of_ble_eq_true rfl) dX4_valueAt_42 ⟨Nat.le_of_ble_eq_true rfl, Nat.le_of_ble_eq_true rfl⟩) (fun r42 h42 => ?_)
      obtain rfl : r42 = (fv (sz - 1)) := h42
      refine Ri hx hb hr hlk ?_ dX4_valueAt_45
      show _ = evT _ _ _ _ _
      rw [evT, if_neg n18, if_pos n32]
  · skip
    have n18 := (nI_eq (a := cntLe ft x sz) (b := 0) (by omega) (by omega)).mp c18
    refine lv_aload_n hx hb dX4_valueAt_21 rfl (lv_at hl 2 rfl) ?_
    refine va_get (D := D) (ci := 4) (v := .ref r2) (C := RX4) (T := TX4) (N := 3) hx hb hts inlX4 hown hG.K hP 0 rfl rfl 1 (by decide) (hts _ mF_X4_20) (fun _ h9 => h9) rfl dX4_valueAt_22 ?_
    refine lv_iconst (v := 0) hx hb dX4_valueAt_25 (by decide) ?_
    have hP9 := hP.sub (ws' := [oO r2 2 [.ref a2, .int (nI sz)], aI D a2 16 fv]) [2, 5] rfl
    refine vp_callSi (pV (rest := []) (qc := (RX2, TX2, 2)) [.int 0] 1 hC (c_get l D (r := r2) (j := 0) (a := a2) (sz := sz) (n := 16) (f := fv) (by omega) (by omega) (by omega)) rfl (hP 2 _ rfl) (gV mM_X4_30 mI_X2_get mS_X2_get mN_X2 mC_X2_get) (by decide +kernel) rfl rfl ⟨Nat.le_of_ble_eq_true rfl, Nat.le_of_ble_eq_true rfl⟩ hG hP9 rfl hl.1 rfl (Nat.le_of_ble_eq_true rfl) dX4_valueAt_26 ⟨Nat.le_of_ble_eq_true rfl, Nat.le_of_ble_eq_true rfl⟩) (fun r26 h26 => ?_)
    obtain rfl : r26 = (fv 0) := h26
    refine Ri hx hb hr hlk ?_ dX4_valueAt_29
    show _ = evT _ _ _ _ _
    rw [evT, if_pos n18]
set_option maxHeartbeats 4000000 in
set_option maxRecDepth 100000 in
theorem c_mirroredEase (l : Launch) (D : va_G) {x : Int32}  : Met l yX4_mirroredEase (ws_ yX4_mirroredEase cX4_mirroredEase 1 (some .int)) ({ frames := 0, cells := 0, slots := 0, locals := 0 } : Room) (va_Pc [.int x] (PW D [])) (vp_Si (fun v => v = mirE x)) 0 0 (fun _ => False) := by
  refine Met.ofW (cc := cX4_mirroredEase) (maxL := 1) (ret := (some .int)) (by decide) rfl ?_
  intro p e s m args below meth c s₁ B hml hv
  obtain ⟨rfl, hG, hP⟩ := hv
  have hx := B.exec
  have hb := B.bytes
  have hr := B.returns
  have hts : ∀ w ∈ wsL_law, w.before _ s = true := fun w h => atoms_spec (ws := (ws_ yX4_mirroredEase cX4_mirroredEase 1 (some .int))) B.pre w (List.mem_cons_of_mem _ h)
  have hown : s.vm.findClass RX4 = some m.cls := findClass_of_methodNamed B.named
  have hlk := B.notSynchronized
  have hC : CallFix p m c cX4_mirroredEase 1 s _ wsL_law RX4 := ⟨hx, hb, hml, hown, hts⟩
  have hl := lv_entry ([.int x]) (n := 1) (Nat.le_of_ble_eq_true rfl)
  rw [lg_entry_eq]
  generalize (lg_sl ([.int x]) ++ List.replicate (1 - (lg_sl ([.int x])).length) Slot.unset).toArray = ls at hl ⊢
  have hl : lv_has ls 1 [(0, .int x)] := hl
  refine lv_iload_n hx hb dX4_mirroredEase_0 rfl (lv_at hl 0 rfl) ?_
  refine lv_iconst (v := 2) hx hb dX4_mirroredEase_1 (by decide) ?_
  refine lv_icmp_ne (tgt := 7) hx hb dX4_mirroredEase_2 (by decide) (fun c2 => ?_) (fun c2 => ?_)
  · skip
    refine lv_iload_n hx hb dX4_mirroredEase_7 rfl (lv_at hl 0 rfl) ?_
    refine lv_iconst (v := 3) hx hb dX4_mirroredEase_8 (by decide) ?_
    refine lv_icmp_ne (tgt := 16) hx hb dX4_mirroredEase_9 (by decide) (fun c9 => ?_) (fun c9 => ?_)
    · skip
      refine lv_iload_n hx hb dX4_mirroredEase_16 rfl (lv_at hl 0 rfl) ?_
      refine Ri hx hb hr hlk ?_ dX4_mirroredEase_17
      show _ = mirE _
      first | rw [mirE, if_neg c2, if_pos c9] | rw [mirE, if_neg c2, if_neg c9]
    · skip
      refine lv_iconst (v := 2) hx hb dX4_mirroredEase_12 (by decide) ?_
      refine lv_goto (tgt := 17) hx hb dX4_mirroredEase_13 (by decide) ?_
      refine Ri hx hb hr hlk ?_ dX4_mirroredEase_17
      show _ = mirE _
      first | rw [mirE, if_neg c2, if_pos c9] | rw [mirE, if_neg c2, if_neg c9]
  · skip
    refine lv_iconst (v := 3) hx hb dX4_mirroredEase_5 (by decide) ?_
    refine Ri hx hb hr hlk ?_ dX4_mirroredEase_6
    show _ = mirE _
    rw [mirE, if_pos c2]
set_option maxHeartbeats 4000000 in
set_option maxRecDepth 100000 in
theorem c_turnAround (l : Launch) (D : va_G) {t r1 r2 r3 a1 a2 a3 sz : Nat} {ft fv fe : Nat → Int32} {x : Int32} (hz0 : Nat) (hs : sz ≤ 16) : Met l yX4_turnAround (ws_ yX4_turnAround cX4_turnAround 4 none) ({ frames := 4, cells := 0, slots := 0, locals := 87 } : Room) (va_Pc [.ref t, .int x] (SW D [oO t 4 [.ref r1, .ref r2, .ref r3], oO r1 2 [.ref a1, .int (nI sz)], oO r2 2 [.ref a2, .int (nI sz)], oO r3 2 [.ref a3, .int (nI sz)], aI D a1 16 ft, aI D a2 16 fv, aI D a3 16 fe] hz0)) (va_Qv (fun _ => True) (AT D (va_A [oO t 4 [.ref r1, .ref r2, .ref r3], oO r1 2 [.ref a1, .int (nI sz)], oO r2 2 [.ref a2, .int (nI sz)], oO r3 2 [.ref a3, .int (nI sz)], aI D a1 16 ft, aI D a2 16 fv, aI D a3 16 fe] hz0) (fun _ : Unit => [oO t 4 [.ref r1, .ref r2, .ref r3], oO r1 2 [.ref a1, .int (nI sz)], oO r2 2 [.ref a2, .int (nI sz)], oO r3 2 [.ref a3, .int (nI sz)], aI D a1 16 (rvF (mpF (fun z => x - z) ft sz) sz), aI D a2 16 (rvF fv sz), aI D a3 16 (teF fe sz)])) (va_A [oO t 4 [.ref r1, .ref r2, .ref r3], oO r1 2 [.ref a1, .int (nI sz)], oO r2 2 [.ref a2, .int (nI sz)], oO r3 2 [.ref a3, .int (nI sz)], aI D a1 16 ft, aI D a2 16 fv, aI D a3 16 fe] hz0)) 0 0 (va_A [oO t 4 [.ref r1, .ref r2, .ref r3], oO r1 2 [.ref a1, .int (nI sz)], oO r2 2 [.ref a2, .int (nI sz)], oO r3 2 [.ref a3, .int (nI sz)], aI D a1 16 ft, aI D a2 16 fv, aI D a3 16 fe] hz0) := by
  refine Met.ofW (cc := cX4_turnAround) (maxL := 4) (ret := none) (by decide) rfl ?_
  intro p e s m args below meth c s₁ B hml hv
  obtain ⟨rfl, hsz, hG, hP, hD0⟩ := hv
  have hx := B.exec
  have hb := B.bytes
  have hr := B.returns
  have hts : ∀ w ∈ wsL_law, w.before _ s = true := fun w h => atoms_spec (ws := (ws_ yX4_turnAround cX4_turnAround 4 none)) B.pre w (List.mem_cons_of_mem _ h)
  have hown : s.vm.findClass RX4 = some m.cls := findClass_of_methodNamed B.named
  have hlk := B.notSynchronized
  have hC : CallFix p m c cX4_turnAround 4 s _ wsL_law RX4 := ⟨hx, hb, hml, hown, hts⟩
  subst hsz
  have hD := hD0.self (sz := s.heap.size)
  generalize hAe : va_A [oO t 4 [.ref r1, .ref r2, .ref r3], oO r1 2 [.ref a1, .int (nI sz)], oO r2 2 [.ref a2, .int (nI sz)], oO r3 2 [.ref a3, .int (nI sz)], aI D a1 16 ft, aI D a2 16 fv, aI D a3 16 fe] s.heap.size = A at hD ⊢
  have hA : ∀ q : Nat, s.heap.size ≤ q → A q := fun q h => by rw [← hAe]; exact Or.inr h
  have hS : va_S A s.heap s.heap [] := va_S.rf
  obtain ⟨H, hHe⟩ : ∃ H, H = s.heap := ⟨_, rfl⟩
  rw [← hHe] at hP
  have hS : va_S A s.heap H [] := by rw [hHe]; exact hS
  have hl := lv_entry ([.ref t, .int x]) (n := 4) (Nat.le_of_ble_eq_true rfl)
  rw [lg_entry_eq]
  generalize (lg_sl ([.ref t, .int x]) ++ List.replicate (4 - (lg_sl ([.ref t, .int x])).length) Slot.unset).toArray = ls at hl ⊢
  have hl : lv_has ls 4 [(0, .ref t), (1, .int x)] := hl
  rw [← hHe]
  refine lv_aload_n hx hb dX4_turnAround_0 rfl (lv_at hl 0 rfl) ?_
  refine va_get (D := D) (ci := 4) (v := .ref r1) (C := RX4) (T := TX4) (N := 3) hx hb hts inlX4 hown hG.K hP 0 rfl rfl 0 (by decide) (hts _ mF_X4_14) (fun _ h9 => h9) rfl dX4_turnAround_1 ?_
  have hP9 := hP.sub (ws' := [oO r1 2 [.ref a1, .int (nI sz)], aI D a1 16 ft]) [1, 4] rfl
  refine vp_callSi (pV (rest := []) (qc := (RX2, TX2, 2)) [] 0 hC (c_size l D (r := r1) (a := a1) (sz := sz) (n := 16) (f := ft) ) rfl (hP 1 _ rfl) (gV mM_X4_26 mI_X2_size mS_X2_size mN_X2 mC_X2_size) (by decide +kernel) rfl rfl ⟨Nat.le_of_ble_eq_true rfl, Nat.le_of_ble_eq_true rfl⟩ hG hP9 rfl hl.1 rfl (Nat.le_of_ble_eq_true rfl) dX4_turnAround_4 ⟨Nat.le_of_ble_eq_true rfl, Nat.le_of_ble_eq_true rfl⟩) (fun r4 h4 => ?_)
  obtain rfl : r4 = (nI sz) := h4
  refine lv_istore_n (lv' := [(2, .int (nI sz)), (0, .ref t), (1, .int x)]) hx hb dX4_turnAround_7 rfl hl (by decide) rfl (fun ls hl => ?_)
  refine lv_iload_n hx hb dX4_turnAround_8 rfl (lv_at hl 0 rfl) ?_
  refine lv_if_ne (tgt := 13) hx hb dX4_turnAround_9 (by decide) (fun c9 => ?_) (fun c9 => ?_)
  · skip
    have n9 := mt (nI_eq (a := sz) (b := 0) (by omega) (by omega)).mpr c9
    refine lv_aload_n hx hb dX4_turnAround_13 rfl (lv_at hl 1 rfl) ?_
    refine va_get (D := D) (ci := 4) (v := .ref r1) (C := RX4) (T := TX4) (N := 3) hx hb hts inlX4 hown hG.K hP 0 rfl rfl 0 (by decide) (hts _ mF_X4_14) (fun _ h9 => h9) rfl dX4_turnAround_14 ?_
    refine lv_iload_n hx hb dX4_turnAround_17 rfl (lv_at hl 2 rfl) ?_
    have hP9 := hP.sub (ws' := [oO r1 2 [.ref a1, .int (nI sz)], aI D a1 16 ft]) [1, 4] rfl
    have hD9 := (hD.sub (ws' := [oO r1 2 [.ref a1, .int (nI sz)], aI D a1 16 ft]) [1, 4] (by decide) rfl).weaken (B := fun _ => True) (fun _ _ _ _ => trivial)
    refine kv (wr := [oO t 4 [.ref r1, .ref r2, .ref r3], oO r2 2 [.ref a2, .int (nI sz)], oO r3 2 [.ref a3, .int (nI sz)], aI D a2 16 fv, aI D a3 16 fe]) (rV (rest := []) (qc := (RX2, TX2, 2)) [.int x] 1 0 0 hC (c_mirrorTimes l D (r := r1) (x := x) (a := a1) (sz := sz) (n := 16) (f := ft) (hz0 := H.size) (by omega) (by omega)) rfl (hP 1 _ rfl) (gV mM_X4_63 mI_X2_mirrorTimes mS_X2_mirrorTimes mN_X2 mC_X2_mirrorTimes) (by decide +kernel) rfl rfl ⟨Nat.le_of_ble_eq_true rfl, Nat.le_of_ble_eq_true rfl⟩ hG hP9 hD9 rfl hl.1 rfl (Nat.le_of_ble_eq_true rfl) dX4_turnAround_18 ⟨Nat.le_of_ble_eq_true rfl, Nat.le_of_ble_eq_true rfl⟩) hP hD hS hA [1, 4] [0, 2, 3, 5, 6] rfl rfl (by decide) (by decide) (fun u18 H locs h18 hP hD hS hz hfr => ?_)
    have hP : va_P D cls [oO t 4 [.ref r1, .ref r2, .ref r3], oO r2 2 [.ref a2, .int (nI sz)], oO r3 2 [.ref a3, .int (nI sz)], aI D a2 16 fv, aI D a3 16 fe, oO r1 2 [.ref a1, .int (nI sz)], aI D a1 16 (rvF (mpF (fun z => x - z) ft sz) sz)] H := hP
    have hD : va_D A [oO t 4 [.ref r1, .ref r2, .ref r3], oO r2 2 [.ref a2, .int (nI sz)], oO r3 2 [.ref a3, .int (nI sz)], aI D a2 16 fv, aI D a3 16 fe, oO r1 2 [.ref a1, .int (nI sz)], aI D a1 16 (rvF (mpF (fun z => x - z) ft sz) sz)] := hD
    refine lv_aload_n hx hb dX4_turnAround_21 rfl (lv_at hl 1 rfl) ?_
    refine va_get (D := D) (ci := 4) (v := .ref r2) (C := RX4) (T := TX4) (N := 3) hx hb hts inlX4 hown hG.K hP 0 rfl rfl 1 (by decide) (hts _ mF_X4_20) (fun _ h9 => h9) rfl dX4_turnAround_22 ?_
    have hP9 := hP.sub (ws' := [oO r2 2 [.ref a2, .int (nI sz)], aI D a2 16 fv]) [1, 3] rfl
    have hD9 := (hD.sub (ws' := [oO r2 2 [.ref a2, .int (nI sz)], aI D a2 16 fv]) [1, 3] (by decide) rfl).weaken (B := fun _ => True) (fun _ _ _ _ => trivial)
    refine kv (wr := [oO t 4 [.ref r1, .ref r2, .ref r3], oO r3 2 [.ref a3, .int (nI sz)], aI D a3 16 fe, oO r1 2 [.ref a1, .int (nI sz)], aI D a1 16 (rvF (mpF (fun z => x - z) ft sz) sz)]) (rV (rest := []) (qc := (RX2, TX2, 2)) [] 0 0 0 hC (c_reverse l D (r := r2) (a := a2) (sz := sz) (n := 16) (f := fv) (hz0 := H.size) (by omega) (by omega)) rfl (hP 1 _ rfl) (gV mM_X4_66 mI_X2_reverse mS_X2_reverse mN_X2 mC_X2_reverse) (by decide +kernel) rfl rfl ⟨Nat.le_of_ble_eq_true rfl, Nat.le_of_ble_eq_true rfl⟩ hG hP9 hD9 rfl hl.1 rfl (Nat.le_of_ble_eq_true rfl) dX4_turnAround_25 ⟨Nat.le_of_ble_eq_true rfl, Nat.le_of_ble_eq_true rfl⟩) hP hD hS hA [1, 3] [0, 2, 4, 5, 6] rfl rfl (by decide) (by decide) (fun u25 H locs h25 hP hD hS hz hfr => ?_)
    have hP : va_P D cls [oO t 4 [.ref r1, .ref r2, .ref r3], oO r3 2 [.ref a3, .int (nI sz)], aI D a3 16 fe, oO r1 2 [.ref a1, .int (nI sz)], aI D a1 16 (rvF (mpF (fun z => x - z) ft sz) sz), oO r2 2 [.ref a2, .int (nI sz)], aI D a2 16 (rvF fv sz)] H := hP
    have hD : va_D A [oO t 4 [.ref r1, .ref r2, .ref r3], oO r3 2 [.ref a3, .int (nI sz)], aI D a3 16 fe, oO r1 2 [.ref a1, .int (nI sz)], aI D a1 16 (rvF (mpF (fun z => x - z) ft sz) sz), oO r2 2 [.ref a2, .int (nI sz)], aI D a2 16 (rvF fv sz)] := hD
    refine lv_aload_n hx hb dX4_turnAround_28 rfl (lv_at hl 1 rfl) ?_
    refine va_get (D := D) (ci := 4) (v := .ref r3) (C := RX4) (T := TX4) (N := 3) hx hb hts inlX4 hown hG.K hP 0 rfl rfl 2 (by decide) (hts _ mF_X4_23) (fun _ h9 => h9) rfl dX4_turnAround_29 ?_
    have hP9 := hP.sub (ws' := [oO r3 2 [.ref a3, .int (nI sz)], aI D a3 16 fe]) [1, 2] rfl
    have hD9 := (hD.sub (ws' := [oO r3 2 [.ref a3, .int (nI sz)], aI D a3 16 fe]) [1, 2] (by decide) rfl).weaken (B := fun _ => True) (fun _ _ _ _ => trivial)
    refine kv (wr := [oO t 4 [.ref r1, .ref r2, .ref r3], oO r1 2 [.ref a1, .int (nI sz)], aI D a1 16 (rvF (mpF (fun z => x - z) ft sz) sz), oO r2 2 [.ref a2, .int (nI sz)], aI D a2 16 (rvF fv sz)]) (rV (rest := []) (qc := (RX2, TX2, 2)) [] 0 0 0 hC (c_reverse l D (r := r3) (a := a3) (sz := sz) (n := 16) (f := fe) (hz0 := H.size) (by omega) (by omega)) rfl (hP 1 _ rfl) (gV mM_X4_66 mI_X2_reverse mS_X2_reverse mN_X2 mC_X2_reverse) (by decide +kernel) rfl rfl ⟨Nat.le_of_ble_eq_true rfl, Nat.le_of_ble_eq_true rfl⟩ hG hP9 hD9 rfl hl.1 rfl (Nat.le_of_ble_eq_true rfl) dX4_turnAround_32 ⟨Nat.le_of_ble_eq_true rfl, Nat.le_of_ble_eq_true rfl⟩) hP hD hS hA [1, 2] [0, 3, 4, 5, 6] rfl rfl (by decide) (by decide) (fun u32 H locs h32 hP hD hS hz hfr => ?_)
    have hP : va_P D cls [oO t 4 [.ref r1, .ref r2, .ref r3], oO r1 2 [.ref a1, .int (nI sz)], aI D a1 16 (rvF (mpF (fun z => x - z) ft sz) sz), oO r2 2 [.ref a2, .int (nI sz)], aI D a2 16 (rvF fv sz), oO r3 2 [.ref a3, .int (nI sz)], aI D a3 16 (rvF fe sz)] H := hP
    have hD : va_D A [oO t 4 [.ref r1, .ref r2, .ref r3], oO r1 2 [.ref a1, .int (nI sz)], aI D a1 16 (rvF (mpF (fun z => x - z) ft sz) sz), oO r2 2 [.ref a2, .int (nI sz)], aI D a2 16 (rvF fv sz), oO r3 2 [.ref a3, .int (nI sz)], aI D a3 16 (rvF fe sz)] := hD
    refine lv_aload_n hx hb dX4_turnAround_35 rfl (lv_at hl 1 rfl) ?_
    refine va_get (D := D) (ci := 4) (v := .ref r3) (C := RX4) (T := TX4) (N := 3) hx hb hts inlX4 hown hG.K hP 0 rfl rfl 2 (by decide) (hts _ mF_X4_23) (fun _ h9 => h9) rfl dX4_turnAround_36 ?_
    refine lv_iconst (v := 0) hx hb dX4_turnAround_39 (by decide) ?_
    have hP9 := hP.sub (ws' := [oO r3 2 [.ref a3, .int (nI sz)], aI D a3 16 (rvF fe sz)]) [5, 6] rfl
    have hD9 := (hD.sub (ws' := [oO r3 2 [.ref a3, .int (nI sz)], aI D a3 16 (rvF fe sz)]) [5, 6] (by decide) rfl).weaken (B := fun _ => True) (fun _ _ _ _ => trivial)
    refine kv (wr := [oO t 4 [.ref r1, .ref r2, .ref r3], oO r1 2 [.ref a1, .int (nI sz)], aI D a1 16 (rvF (mpF (fun z => x - z) ft sz) sz), oO r2 2 [.ref a2, .int (nI sz)], aI D a2 16 (rvF fv sz)]) (rV (rest := []) (qc := (RX2, TX2, 2)) [.int 0] 1 0 0 hC (c_delete l D (r := r3) (j := 0) (a := a3) (sz := sz) (n := 16) (f := rvF fe sz) (hz0 := H.size) (by omega) (by omega) (by omega)) rfl (hP 5 _ rfl) (gV mM_X4_48 mI_X2_delete mS_X2_delete mN_X2 mC_X2_delete) (by decide +kernel) rfl rfl ⟨Nat.le_of_ble_eq_true rfl, Nat.le_of_ble_eq_true rfl⟩ hG hP9 hD9 rfl hl.1 rfl (Nat.le_of_ble_eq_true rfl) dX4_turnAround_40 ⟨Nat.le_of_ble_eq_true rfl, Nat.le_of_ble_eq_true rfl⟩) hP hD hS hA [5, 6] [0, 1, 2, 3, 4] rfl rfl (by decide) (by decide) (fun u40 H locs h40 hP hD hS hz hfr => ?_)
    have hP : va_P D cls [oO t 4 [.ref r1, .ref r2, .ref r3], oO r1 2 [.ref a1, .int (nI sz)], aI D a1 16 (rvF (mpF (fun z => x - z) ft sz) sz), oO r2 2 [.ref a2, .int (nI sz)], aI D a2 16 (rvF fv sz), oO r3 2 [.ref a3, .int (nI (sz - 1))], aI D a3 16 (dlF (rvF fe sz) 0 sz)] H := hP
    have hD : va_D A [oO t 4 [.ref r1, .ref r2, .ref r3], oO r1 2 [.ref a1, .int (nI sz)], aI D a1 16 (rvF (mpF (fun z => x - z) ft sz) sz), oO r2 2 [.ref a2, .int (nI sz)], aI D a2 16 (rvF fv sz), oO r3 2 [.ref a3, .int (nI (sz - 1))], aI D a3 16 (dlF (rvF fe sz) 0 sz)] := hD
    refine lv_aload_n hx hb dX4_turnAround_43 rfl (lv_at hl 1 rfl) ?_
    refine va_get (D := D) (ci := 4) (v := .ref r3) (C := RX4) (T := TX4) (N := 3) hx hb hts inlX4 hown hG.K hP 0 rfl rfl 2 (by decide) (hts _ mF_X4_23) (fun _ h9 => h9) rfl dX4_turnAround_44 ?_
    refine lv_iconst (v := 1) hx hb dX4_turnAround_47 (by decide) ?_
    have hP9 := hP.sub (ws' := [oO r3 2 [.ref a3, .int (nI (sz - 1))], aI D a3 16 (dlF (rvF fe sz) 0 sz)]) [5, 6] rfl
    have hD9 := (hD.sub (ws' := [oO r3 2 [.ref a3, .int (nI (sz - 1))], aI D a3 16 (dlF (rvF fe sz) 0 sz)]) [5, 6] (by decide) rfl).weaken (B := fun _ => True) (fun _ _ _ _ => trivial)
    refine kv (wr := [oO t 4 [.ref r1, .ref r2, .ref r3], oO r1 2 [.ref a1, .int (nI sz)], aI D a1 16 (rvF (mpF (fun z => x - z) ft sz) sz), oO r2 2 [.ref a2, .int (nI sz)], aI D a2 16 (rvF fv sz)]) (rV (rest := []) (qc := (RX2, TX2, 2)) [.int 1] 1 0 0 hC (c_append l D (r := r3) (x := 1) (a := a3) (sz := sz - 1) (n := 16) (f := dlF (rvF fe sz) 0 sz) (hz0 := H.size) (by omega) (by omega)) rfl (hP 5 _ rfl) (gV mM_X4_69 mI_X2_append mS_X2_append mN_X2 mC_X2_append) (by decide +kernel) rfl rfl ⟨Nat.le_of_ble_eq_true rfl, Nat.le_of_ble_eq_true rfl⟩ hG hP9 hD9 rfl hl.1 rfl (Nat.le_of_ble_eq_true rfl) dX4_turnAround_48 ⟨Nat.le_of_ble_eq_true rfl, Nat.le_of_ble_eq_true rfl⟩) hP hD hS hA [5, 6] [0, 1, 2, 3, 4] rfl rfl (by decide) (by decide) (fun u48 H locs h48 hP hD hS hz hfr => ?_)
    have hP : va_P D cls [oO t 4 [.ref r1, .ref r2, .ref r3], oO r1 2 [.ref a1, .int (nI sz)], aI D a1 16 (rvF (mpF (fun z => x - z) ft sz) sz), oO r2 2 [.ref a2, .int (nI sz)], aI D a2 16 (rvF fv sz), oO r3 2 [.ref a3, .int (nI ((sz - 1) + 1))], aI D a3 16 (insF (dlF (rvF fe sz) 0 sz) (sz - 1) (sz - 1) 1)] H := hP
    have hD : va_D A [oO t 4 [.ref r1, .ref r2, .ref r3], oO r1 2 [.ref a1, .int (nI sz)], aI D a1 16 (rvF (mpF (fun z => x - z) ft sz) sz), oO r2 2 [.ref a2, .int (nI sz)], aI D a2 16 (rvF fv sz), oO r3 2 [.ref a3, .int (nI ((sz - 1) + 1))], aI D a3 16 (insF (dlF (rvF fe sz) 0 sz) (sz - 1) (sz - 1) 1)] := hD
    have hcv1 : (.int (nI sz) : Value) = (.int (nI ((sz - 1) + 1))) := by rw [Nat.sub_add_cancel (by omega)]
    have hP := Eq.mpr (congrArg (fun z9 => va_P D cls [oO t 4 [.ref r1, .ref r2, .ref r3], oO r1 2 [.ref a1, .int (nI sz)], aI D a1 16 (rvF (mpF (fun z => x - z) ft sz) sz), oO r2 2 [.ref a2, .int (nI sz)], aI D a2 16 (rvF fv sz), oO r3 2 [.ref a3, z9], aI D a3 16 (insF (dlF (rvF fe sz) 0 sz) (sz - 1) (sz - 1) 1)] H) hcv1) hP
    have hD := Eq.mpr (congrArg (fun z9 => va_D A [oO t 4 [.ref r1, .ref r2, .ref r3], oO r1 2 [.ref a1, .int (nI sz)], aI D a1 16 (rvF (mpF (fun z => x - z) ft sz) sz), oO r2 2 [.ref a2, .int (nI sz)], aI D a2 16 (rvF fv sz), oO r3 2 [.ref a3, z9], aI D a3 16 (insF (dlF (rvF fe sz) 0 sz) (sz - 1) (sz - 1) 1)]) hcv1) hD
    have hP : va_P D cls [oO t 4 [.ref r1, .ref r2, .ref r3], oO r1 2 [.ref a1, .int (nI sz)], aI D a1 16 (rvF (mpF (fun z => x - z) ft sz) sz), oO r2 2 [.ref a2, .int (nI sz)], aI D a2 16 (rvF fv sz), oO r3 2 [.ref a3, .int (nI sz)], aI D a3 16 (insF (dlF (rvF fe sz) 0 sz) (sz - 1) (sz - 1) 1)] H := hP
    have hD : va_D A [oO t 4 [.ref r1, .ref r2, .ref r3], oO r1 2 [.ref a1, .int (nI sz)], aI D a1 16 (rvF (mpF (fun z => x - z) ft sz) sz), oO r2 2 [.ref a2, .int (nI sz)], aI D a2 16 (rvF fv sz), oO r3 2 [.ref a3, .int (nI sz)], aI D a3 16 (insF (dlF (rvF fe sz) 0 sz) (sz - 1) (sz - 1) 1)] := hD
    refine lv_iconst (v := 0) hx hb dX4_turnAround_51 (by decide) ?_
    refine lv_istore_n (lv' := [(3, .int 0), (2, .int (nI sz)), (0, .ref t), (1, .int x)]) hx hb dX4_turnAround_52 rfl hl (by decide) rfl (fun ls hl => ?_)
    have loop53 : ∀ (d9 : Nat) (k : Nat), (sz - k) < d9 → (k ≤ sz) → ∀ (H : Heap) (locs : List Loc) (ls : Array Slot), va_P D cls [oO t 4 [.ref r1, .ref r2, .ref r3], oO r1 2 [.ref a1, .int (nI sz)], oO r2 2 [.ref a2, .int (nI sz)], oO r3 2 [.ref a3, .int (nI sz)], aI D a1 16 (rvF (mpF (fun z => x - z) ft sz) sz), aI D a2 16 (rvF fv sz), aI D a3 16 (mpF mirE (insF (dlF (rvF fe sz) 0 sz) (sz - 1) (sz - 1) 1) k)] H → va_D A [oO t 4 [.ref r1, .ref r2, .ref r3], oO r1 2 [.ref a1, .int (nI sz)], oO r2 2 [.ref a2, .int (nI sz)], oO r3 2 [.ref a3, .int (nI sz)], aI D a1 16 (rvF (mpF (fun z => x - z) ft sz) sz), aI D a2 16 (rvF fv sz), aI D a3 16 (mpF mirE (insF (dlF (rvF fe sz) 0 sz) (sz - 1) (sz - 1) 1) k)] → va_S A s.heap H locs → lv_has ls 4 [(0, .ref t), (1, .int x), (2, .int (nI sz)), (3, .int (nI k))] → W p l e ({ frames := 4, cells := 0, slots := 0, locals := 87 } : Room) s m ([.ref t, .int x] : List Value).toArray below meth c H locs 0 0 (MQ below (va_Qv (fun _ => True) (AT D A (fun _ : Unit => [oO t 4 [.ref r1, .ref r2, .ref r3], oO r1 2 [.ref a1, .int (nI sz)], oO r2 2 [.ref a2, .int (nI sz)], oO r3 2 [.ref a3, .int (nI sz)], aI D a1 16 (rvF (mpF (fun z => x - z) ft sz) sz), aI D a2 16 (rvF fv sz), aI D a3 16 (teF fe sz)])) A) ([.ref t, .int x] : List Value).toArray s 0 0 A) (F0 m 53 ls []) := by
      intro d9
      induction d9 with
      | zero => intro k hd; exact absurd hd (Nat.not_lt_zero _)
      | succ d9 ih53 =>
        intro k hd53 hk H locs ls hP hD hS hl
        refine lv_iload_n hx hb dX4_turnAround_53 rfl (lv_at hl 3 rfl) ?_
        refine lv_iload_n hx hb dX4_turnAround_54 rfl (lv_at hl 2 rfl) ?_
        refine lv_icmp_ge (tgt := 83) hx hb dX4_turnAround_55 (by decide) (fun c55 => ?_) (fun c55 => ?_)
        · skip
          have n55 := (nI_leI (a := sz) (b := k) (by omega) (by omega)).mp c55
          have hcv2 : (teF fe sz) = (mpF mirE (insF (dlF (rvF fe sz) 0 sz) (sz - 1) (sz - 1) 1) k) := by
            have e : k = sz := by omega
            subst e
            rw [teF, if_neg n9]
          have hP := Eq.mpr (congrArg (fun z9 => va_P D cls [oO t 4 [.ref r1, .ref r2, .ref r3], oO r1 2 [.ref a1, .int (nI sz)], oO r2 2 [.ref a2, .int (nI sz)], oO r3 2 [.ref a3, .int (nI sz)], aI D a1 16 (rvF (mpF (fun z => x - z) ft sz) sz), aI D a2 16 (rvF fv sz), aI D a3 16 z9] H) hcv2) hP
          have hD := Eq.mpr (congrArg (fun z9 => va_D A [oO t 4 [.ref r1, .ref r2, .ref r3], oO r1 2 [.ref a1, .int (nI sz)], oO r2 2 [.ref a2, .int (nI sz)], oO r3 2 [.ref a3, .int (nI sz)], aI D a1 16 (rvF (mpF (fun z => x - z) ft sz) sz), aI D a2 16 (rvF fv sz), aI D a3 16 z9]) hcv2) hD
          have hP : va_P D cls [oO t 4 [.ref r1, .ref r2, .ref r3], oO r1 2 [.ref a1, .int (nI sz)], oO r2 2 [.ref a2, .int (nI sz)], oO r3 2 [.ref a3, .int (nI sz)], aI D a1 16 (rvF (mpF (fun z => x - z) ft sz) sz), aI D a2 16 (rvF fv sz), aI D a3 16 (teF fe sz)] H := hP
          have hD : va_D A [oO t 4 [.ref r1, .ref r2, .ref r3], oO r1 2 [.ref a1, .int (nI sz)], oO r2 2 [.ref a2, .int (nI sz)], oO r3 2 [.ref a3, .int (nI sz)], aI D a1 16 (rvF (mpF (fun z => x - z) ft sz) sz), aI D a2 16 (rvF fv sz), aI D a3 16 (teF fe sz)] := hD
          refine Wv () hx hb hr hlk ?_ hP hD hS (Nat.le_of_ble_eq_true rfl) (by first | exact Nat.le_of_ble_eq_true rfl | exact Nat.le_of_eq (Nat.zero_add _)) dX4_turnAround_83
          exact trivial
        · skip
          have n55 := mt (nI_leI (a := sz) (b := k) (by omega) (by omega)).mpr c55
          refine lv_aload_n hx hb dX4_turnAround_58 rfl (lv_at hl 0 rfl) ?_
          refine va_get (D := D) (ci := 4) (v := .ref r3) (C := RX4) (T := TX4) (N := 3) hx hb hts inlX4 hown hG.K hP 0 rfl rfl 2 (by decide) (hts _ mF_X4_23) (fun _ h9 => h9) rfl dX4_turnAround_59 ?_
          refine lv_iload_n hx hb dX4_turnAround_62 rfl (lv_at hl 3 rfl) ?_
          refine lv_aload_n hx hb dX4_turnAround_63 rfl (lv_at hl 0 rfl) ?_
          refine va_get (D := D) (ci := 4) (v := .ref r3) (C := RX4) (T := TX4) (N := 3) hx hb hts inlX4 hown hG.K hP 0 rfl rfl 2 (by decide) (hts _ mF_X4_23) (fun _ h9 => h9) rfl dX4_turnAround_64 ?_
          refine lv_iload_n hx hb dX4_turnAround_67 rfl (lv_at hl 3 rfl) ?_
          have hP9 := hP.sub (ws' := [oO r3 2 [.ref a3, .int (nI sz)], aI D a3 16 (mpF mirE (insF (dlF (rvF fe sz) 0 sz) (sz - 1) (sz - 1) 1) k)]) [3, 6] rfl
          refine vp_callSi (pV (rest := [.int (nI k), .ref r3]) (qc := (RX2, TX2, 2)) [.int (nI k)] 1 hC (c_get l D (r := r3) (j := k) (a := a3) (sz := sz) (n := 16) (f := mpF mirE (insF (dlF (rvF fe sz) 0 sz) (sz - 1) (sz - 1) 1) k) (by omega) (by omega) (by omega)) rfl (hP 3 _ rfl) (gV mM_X4_30 mI_X2_get mS_X2_get mN_X2 mC_X2_get) (by decide +kernel) rfl rfl ⟨Nat.le_of_ble_eq_true rfl, Nat.le_of_ble_eq_true rfl⟩ hG hP9 rfl hl.1 rfl (Nat.le_of_ble_eq_true rfl) dX4_turnAround_68 ⟨Nat.le_of_ble_eq_true rfl, Nat.le_of_ble_eq_true rfl⟩) (fun r68 h68 => ?_)
          obtain rfl : r68 = ((mpF mirE (insF (dlF (rvF fe sz) 0 sz) (sz - 1) (sz - 1) 1) k) k) := h68
          have hP9 : va_P D cls [] H := fun k q h => by simp at h
          refine vp_callSi (pS (rest := [.int (nI k), .ref r3]) [.int ((mpF mirE (insF (dlF (rvF fe sz) 0 sz) (sz - 1) (sz - 1) 1) k) k)] 1 hC (c_mirroredEase l D (x := (mpF mirE (insF (dlF (rvF fe sz) 0 sz) (sz - 1) (sz - 1) 1) k) k) ) (gS mM_X4_72 mT_X4_mirroredEase mN_X4 mC_X4_mirroredEase) (by decide +kernel) rfl rfl ⟨Nat.le_of_ble_eq_true rfl, Nat.le_of_ble_eq_true rfl⟩ hG hP9 rfl hl.1 rfl (Nat.le_of_ble_eq_true rfl) dX4_turnAround_71 ⟨Nat.le_of_ble_eq_true rfl, Nat.le_of_ble_eq_true rfl⟩) (fun r71 h71 => ?_)
          obtain rfl : r71 = (mirE ((mpF mirE (insF (dlF (rvF fe sz) 0 sz) (sz - 1) (sz - 1) 1) k) k)) := h71
          have hP9 := hP.sub (ws' := [oO r3 2 [.ref a3, .int (nI sz)], aI D a3 16 (mpF mirE (insF (dlF (rvF fe sz) 0 sz) (sz - 1) (sz - 1) 1) k)]) [3, 6] rfl
          have hD9 := (hD.sub (ws' := [oO r3 2 [.ref a3, .int (nI sz)], aI D a3 16 (mpF mirE (insF (dlF (rvF fe sz) 0 sz) (sz - 1) (sz - 1) 1) k)]) [3, 6] (by decide) rfl).weaken (B := fun _ => True) (fun _ _ _ _ => trivial)
          refine kv (wr := [oO t 4 [.ref r1, .ref r2, .ref r3], oO r1 2 [.ref a1, .int (nI sz)], oO r2 2 [.ref a2, .int (nI sz)], aI D a1 16 (rvF (mpF (fun z => x - z) ft sz) sz), aI D a2 16 (rvF fv sz)]) (rV (rest := []) (qc := (RX2, TX2, 2)) [.int (nI k), .int (mirE ((mpF mirE (insF (dlF (rvF fe sz) 0 sz) (sz - 1) (sz - 1) 1) k) k))] 2 0 0 hC (c_set l D (r := r3) (j := k) (x := mirE ((mpF mirE (insF (dlF (rvF fe sz) 0 sz) (sz - 1) (sz - 1) 1) k) k)) (a := a3) (sz := sz) (n := 16) (f := mpF mirE (insF (dlF (rvF fe sz) 0 sz) (sz - 1) (sz - 1) 1) k) (hz0 := H.size) (by omega) (by omega) (by omega)) rfl (hP 3 _ rfl) (gV mM_X4_41 mI_X2_set mS_X2_set mN_X2 mC_X2_set) (by decide +kernel) rfl rfl ⟨Nat.le_of_ble_eq_true rfl, Nat.le_of_ble_eq_true rfl⟩ hG hP9 hD9 rfl hl.1 rfl (Nat.le_of_ble_eq_true rfl) dX4_turnAround_74 ⟨Nat.le_of_ble_eq_true rfl, Nat.le_of_ble_eq_true rfl⟩) hP hD hS hA [3, 6] [0, 1, 2, 4, 5] rfl rfl (by decide) (by decide) (fun u74 H locs h74 hP hD hS hz hfr => ?_)
          have hP : va_P D cls [oO t 4 [.ref r1, .ref r2, .ref r3], oO r1 2 [.ref a1, .int (nI sz)], oO r2 2 [.ref a2, .int (nI sz)], aI D a1 16 (rvF (mpF (fun z => x - z) ft sz) sz), aI D a2 16 (rvF fv sz), oO r3 2 [.ref a3, .int (nI sz)], aI D a3 16 (upd (mpF mirE (insF (dlF (rvF fe sz) 0 sz) (sz - 1) (sz - 1) 1) k) k (mirE ((mpF mirE (insF (dlF (rvF fe sz) 0 sz) (sz - 1) (sz - 1) 1) k) k)))] H := hP
          have hD : va_D A [oO t 4 [.ref r1, .ref r2, .ref r3], oO r1 2 [.ref a1, .int (nI sz)], oO r2 2 [.ref a2, .int (nI sz)], aI D a1 16 (rvF (mpF (fun z => x - z) ft sz) sz), aI D a2 16 (rvF fv sz), oO r3 2 [.ref a3, .int (nI sz)], aI D a3 16 (upd (mpF mirE (insF (dlF (rvF fe sz) 0 sz) (sz - 1) (sz - 1) 1) k) k (mirE ((mpF mirE (insF (dlF (rvF fe sz) 0 sz) (sz - 1) (sz - 1) 1) k) k)))] := hD
          have hcv3 : (mpF mirE (insF (dlF (rvF fe sz) 0 sz) (sz - 1) (sz - 1) 1) (k + 1)) = (upd (mpF mirE (insF (dlF (rvF fe sz) 0 sz) (sz - 1) (sz - 1) 1) k) k (mirE ((mpF mirE (insF (dlF (rvF fe sz) 0 sz) (sz - 1) (sz - 1) 1) k) k))) := by rw [mpF_at]; exact (mpF_step mirE _ k).symm
          have hP := Eq.mpr (congrArg (fun z9 => va_P D cls [oO t 4 [.ref r1, .ref r2, .ref r3], oO r1 2 [.ref a1, .int (nI sz)], oO r2 2 [.ref a2, .int (nI sz)], aI D a1 16 (rvF (mpF (fun z => x - z) ft sz) sz), aI D a2 16 (rvF fv sz), oO r3 2 [.ref a3, .int (nI sz)], aI D a3 16 z9] H) hcv3) hP
          have hD := Eq.mpr (congrArg (fun z9 => va_D A [oO t 4 [.ref r1, .ref r2, .ref r3], oO r1 2 [.ref a1, .int (nI sz)], oO r2 2 [.ref a2, .int (nI sz)], aI D a1 16 (rvF (mpF (fun z => x - z) ft sz) sz), aI D a2 16 (rvF fv sz), oO r3 2 [.ref a3, .int (nI sz)], aI D a3 16 z9]) hcv3) hD
          have hP : va_P D cls [oO t 4 [.ref r1, .ref r2, .ref r3], oO r1 2 [.ref a1, .int (nI sz)], oO r2 2 [.ref a2, .int (nI sz)], aI D a1 16 (rvF (mpF (fun z => x - z) ft sz) sz), aI D a2 16 (rvF fv sz), oO r3 2 [.ref a3, .int (nI sz)], aI D a3 16 (mpF mirE (insF (dlF (rvF fe sz) 0 sz) (sz - 1) (sz - 1) 1) (k + 1))] H := hP
          have hD : va_D A [oO t 4 [.ref r1, .ref r2, .ref r3], oO r1 2 [.ref a1, .int (nI sz)], oO r2 2 [.ref a2, .int (nI sz)], aI D a1 16 (rvF (mpF (fun z => x - z) ft sz) sz), aI D a2 16 (rvF fv sz), oO r3 2 [.ref a3, .int (nI sz)], aI D a3 16 (mpF mirE (insF (dlF (rvF fe sz) 0 sz) (sz - 1) (sz - 1) 1) (k + 1))] := hD
          refine lv_iinc (v := nI (k + 1)) (lv' := [(3, .int (nI (k + 1))), (0, .ref t), (1, .int x), (2, .int (nI sz))]) hx hb dX4_turnAround_77 hl (k := 3) rfl (nI_1 _) (by decide) rfl (fun ls hl => ?_)
          refine lv_goto (tgt := 53) hx hb dX4_turnAround_80 (by decide) ?_
          exact ih53 (k + 1) (by omega) (by omega) _ _ _ (hP.sub [0, 1, 2, 5, 3, 4, 6] rfl) (hD.sub [0, 1, 2, 5, 3, 4, 6] (by decide) rfl) hS (lv_sub hl [1, 2, 3, 0] rfl)
    have hcv4 : (mpF mirE (insF (dlF (rvF fe sz) 0 sz) (sz - 1) (sz - 1) 1) 0) = (insF (dlF (rvF fe sz) 0 sz) (sz - 1) (sz - 1) 1) := mpF_0 _ _
    have hP := Eq.mpr (congrArg (fun z9 => va_P D cls [oO t 4 [.ref r1, .ref r2, .ref r3], oO r1 2 [.ref a1, .int (nI sz)], aI D a1 16 (rvF (mpF (fun z => x - z) ft sz) sz), oO r2 2 [.ref a2, .int (nI sz)], aI D a2 16 (rvF fv sz), oO r3 2 [.ref a3, .int (nI sz)], aI D a3 16 z9] H) hcv4) hP
    have hD := Eq.mpr (congrArg (fun z9 => va_D A [oO t 4 [.ref r1, .ref r2, .ref r3], oO r1 2 [.ref a1, .int (nI sz)], aI D a1 16 (rvF (mpF (fun z => x - z) ft sz) sz), oO r2 2 [.ref a2, .int (nI sz)], aI D a2 16 (rvF fv sz), oO r3 2 [.ref a3, .int (nI sz)], aI D a3 16 z9]) hcv4) hD
    have hP : va_P D cls [oO t 4 [.ref r1, .ref r2, .ref r3], oO r1 2 [.ref a1, .int (nI sz)], aI D a1 16 (rvF (mpF (fun z => x - z) ft sz) sz), oO r2 2 [.ref a2, .int (nI sz)], aI D a2 16 (rvF fv sz), oO r3 2 [.ref a3, .int (nI sz)], aI D a3 16 (mpF mirE (insF (dlF (rvF fe sz) 0 sz) (sz - 1) (sz - 1) 1) 0)] H := hP
    have hD : va_D A [oO t 4 [.ref r1, .ref r2, .ref r3], oO r1 2 [.ref a1, .int (nI sz)], aI D a1 16 (rvF (mpF (fun z => x - z) ft sz) sz), oO r2 2 [.ref a2, .int (nI sz)], aI D a2 16 (rvF fv sz), oO r3 2 [.ref a3, .int (nI sz)], aI D a3 16 (mpF mirE (insF (dlF (rvF fe sz) 0 sz) (sz - 1) (sz - 1) 1) 0)] := hD
    exact loop53 _ 0 (Nat.lt_succ_self _) (by omega) _ _ _ (hP.sub [0, 1, 3, 5, 2, 4, 6] rfl) (hD.sub [0, 1, 3, 5, 2, 4, 6] (by decide) rfl) hS (lv_sub hl [2, 3, 1, 0] rfl)
  · skip
    have n9 := (nI_eq (a := sz) (b := 0) (by omega) (by omega)).mp c9
    have hcv5 : (rvF (mpF (fun z => x - z) ft sz) sz) = ft := by
      have e : sz = 0 := n9
      subst e
      first | rw [rvF_0, mpF_0] | rw [rvF_0] | rw [teF, if_pos rfl]
    have hP := Eq.mpr (congrArg (fun z9 => va_P D cls [oO t 4 [.ref r1, .ref r2, .ref r3], oO r1 2 [.ref a1, .int (nI sz)], oO r2 2 [.ref a2, .int (nI sz)], oO r3 2 [.ref a3, .int (nI sz)], aI D a1 16 z9, aI D a2 16 fv, aI D a3 16 fe] H) hcv5) hP
    have hD := Eq.mpr (congrArg (fun z9 => va_D A [oO t 4 [.ref r1, .ref r2, .ref r3], oO r1 2 [.ref a1, .int (nI sz)], oO r2 2 [.ref a2, .int (nI sz)], oO r3 2 [.ref a3, .int (nI sz)], aI D a1 16 z9, aI D a2 16 fv, aI D a3 16 fe]) hcv5) hD
    have hP : va_P D cls [oO t 4 [.ref r1, .ref r2, .ref r3], oO r1 2 [.ref a1, .int (nI sz)], oO r2 2 [.ref a2, .int (nI sz)], oO r3 2 [.ref a3, .int (nI sz)], aI D a1 16 (rvF (mpF (fun z => x - z) ft sz) sz), aI D a2 16 fv, aI D a3 16 fe] H := hP
    have hD : va_D A [oO t 4 [.ref r1, .ref r2, .ref r3], oO r1 2 [.ref a1, .int (nI sz)], oO r2 2 [.ref a2, .int (nI sz)], oO r3 2 [.ref a3, .int (nI sz)], aI D a1 16 (rvF (mpF (fun z => x - z) ft sz) sz), aI D a2 16 fv, aI D a3 16 fe] := hD
    have hcv6 : (rvF fv sz) = fv := by
      have e : sz = 0 := n9
      subst e
      first | rw [rvF_0, mpF_0] | rw [rvF_0] | rw [teF, if_pos rfl]
    have hP := Eq.mpr (congrArg (fun z9 => va_P D cls [oO t 4 [.ref r1, .ref r2, .ref r3], oO r1 2 [.ref a1, .int (nI sz)], oO r2 2 [.ref a2, .int (nI sz)], oO r3 2 [.ref a3, .int (nI sz)], aI D a1 16 (rvF (mpF (fun z => x - z) ft sz) sz), aI D a2 16 z9, aI D a3 16 fe] H) hcv6) hP
    have hD := Eq.mpr (congrArg (fun z9 => va_D A [oO t 4 [.ref r1, .ref r2, .ref r3], oO r1 2 [.ref a1, .int (nI sz)], oO r2 2 [.ref a2, .int (nI sz)], oO r3 2 [.ref a3, .int (nI sz)], aI D a1 16 (rvF (mpF (fun z => x - z) ft sz) sz), aI D a2 16 z9, aI D a3 16 fe]) hcv6) hD
    have hP : va_P D cls [oO t 4 [.ref r1, .ref r2, .ref r3], oO r1 2 [.ref a1, .int (nI sz)], oO r2 2 [.ref a2, .int (nI sz)], oO r3 2 [.ref a3, .int (nI sz)], aI D a1 16 (rvF (mpF (fun z => x - z) ft sz) sz), aI D a2 16 (rvF fv sz), aI D a3 16 fe] H := hP
    have hD : va_D A [oO t 4 [.ref r1, .ref r2, .ref r3], oO r1 2 [.ref a1, .int (nI sz)], oO r2 2 [.ref a2, .int (nI sz)], oO r3 2 [.ref a3, .int (nI sz)], aI D a1 16 (rvF (mpF (fun z => x - z) ft sz) sz), aI D a2 16 (rvF fv sz), aI D a3 16 fe] := hD
    have hcv7 : (teF fe sz) = fe := by
      have e : sz = 0 := n9
      subst e
      first | rw [rvF_0, mpF_0] | rw [rvF_0] | rw [teF, if_pos rfl]
    have hP := Eq.mpr (congrArg (fun z9 => va_P D cls [oO t 4 [.ref r1, .ref r2, .ref r3], oO r1 2 [.ref a1, .int (nI sz)], oO r2 2 [.ref a2, .int (nI sz)], oO r3 2 [.ref a3, .int (nI sz)], aI D a1 16 (rvF (mpF (fun z => x - z) ft sz) sz), aI D a2 16 (rvF fv sz), aI D a3 16 z9] H) hcv7) hP
    have hD := Eq.mpr (congrArg (fun z9 => va_D A [oO t 4 [.ref r1, .ref r2, .ref r3], oO r1 2 [.ref a1, .int (nI sz)], oO r2 2 [.ref a2, .int (nI sz)], oO r3 2 [.ref a3, .int (nI sz)], aI D a1 16 (rvF (mpF (fun z => x - z) ft sz) sz), aI D a2 16 (rvF fv sz), aI D a3 16 z9]) hcv7) hD
    have hP : va_P D cls [oO t 4 [.ref r1, .ref r2, .ref r3], oO r1 2 [.ref a1, .int (nI sz)], oO r2 2 [.ref a2, .int (nI sz)], oO r3 2 [.ref a3, .int (nI sz)], aI D a1 16 (rvF (mpF (fun z => x - z) ft sz) sz), aI D a2 16 (rvF fv sz), aI D a3 16 (teF fe sz)] H := hP
    have hD : va_D A [oO t 4 [.ref r1, .ref r2, .ref r3], oO r1 2 [.ref a1, .int (nI sz)], oO r2 2 [.ref a2, .int (nI sz)], oO r3 2 [.ref a3, .int (nI sz)], aI D a1 16 (rvF (mpF (fun z => x - z) ft sz) sz), aI D a2 16 (rvF fv sz), aI D a3 16 (teF fe sz)] := hD
    refine Wv () hx hb hr hlk ?_ hP hD hS (Nat.le_of_ble_eq_true rfl) (by first | exact Nat.le_of_ble_eq_true rfl | exact Nat.le_of_eq (Nat.zero_add _)) dX4_turnAround_12
    exact trivial
set_option maxHeartbeats 4000000 in
set_option maxRecDepth 100000 in
theorem c_staysApart (l : Launch) (D : va_G) {t r1 r2 r3 a1 a2 a3 sz : Nat} {ft fv fe : Nat → Int32} {p1 q1 : Int32} (hs : sz ≤ 16) (hq : 0 < q1) : Met l yX4_staysApart (ws_ yX4_staysApart cX4_staysApart 4 (some .boolean)) ({ frames := 2, cells := 0, slots := 0, locals := 42 } : Room) (va_Pc [.ref t, .int p1, .int q1] (PW D [oO t 4 [.ref r1, .ref r2, .ref r3], oO r1 2 [.ref a1, .int (nI sz)], oO r2 2 [.ref a2, .int (nI sz)], oO r3 2 [.ref a3, .int (nI sz)], aI D a1 16 ft, aI D a2 16 fv, aI D a3 16 fe])) (vp_Si (fun v => (v = 1 ∧ (∀ k, k + 1 < sz → ¬ ft k * p1 / q1 = ft (k + 1) * p1 / q1)) ∨ (v = 0 ∧ ¬ (∀ k, k + 1 < sz → ¬ ft k * p1 / q1 = ft (k + 1) * p1 / q1)))) 0 0 (fun _ => False) := by
  refine Met.ofW (cc := cX4_staysApart) (maxL := 4) (ret := (some .boolean)) (by decide) rfl ?_
  intro p e s m args below meth c s₁ B hml hv
  obtain ⟨rfl, hG, hP⟩ := hv
  have hx := B.exec
  have hb := B.bytes
  have hr := B.returns
  have hts : ∀ w ∈ wsL_law, w.before _ s = true := fun w h => atoms_spec (ws := (ws_ yX4_staysApart cX4_staysApart 4 (some .boolean))) B.pre w (List.mem_cons_of_mem _ h)
  have hown : s.vm.findClass RX4 = some m.cls := findClass_of_methodNamed B.named
  have hlk := B.notSynchronized
  have hC : CallFix p m c cX4_staysApart 4 s _ wsL_law RX4 := ⟨hx, hb, hml, hown, hts⟩
  have hl := lv_entry ([.ref t, .int p1, .int q1]) (n := 4) (Nat.le_of_ble_eq_true rfl)
  rw [lg_entry_eq]
  generalize (lg_sl ([.ref t, .int p1, .int q1]) ++ List.replicate (4 - (lg_sl ([.ref t, .int p1, .int q1])).length) Slot.unset).toArray = ls at hl ⊢
  have hl : lv_has ls 4 [(0, .ref t), (1, .int p1), (2, .int q1)] := hl
  refine lv_iconst (v := 1) hx hb dX4_staysApart_0 (by decide) ?_
  refine lv_istore_n (lv' := [(3, .int 1), (0, .ref t), (1, .int p1), (2, .int q1)]) hx hb dX4_staysApart_1 rfl hl (by decide) rfl (fun ls hl => ?_)
  have loop2 : ∀ (d9 : Nat) (k : Nat), (sz - k) < d9 → (1 ≤ k) → (k ≤ sz + 1) → (∀ j, j + 1 < k → ¬ ft j * p1 / q1 = ft (j + 1) * p1 / q1) → ∀ (ls : Array Slot), lv_has ls 4 [(0, .ref t), (1, .int p1), (2, .int q1), (3, .int (nI k))] → W p l e ({ frames := 2, cells := 0, slots := 0, locals := 42 } : Room) s m ([.ref t, .int p1, .int q1] : List Value).toArray below meth c s.heap [] 0 0 (MQ below (vp_Si (fun v => (v = 1 ∧ (∀ k, k + 1 < sz → ¬ ft k * p1 / q1 = ft (k + 1) * p1 / q1)) ∨ (v = 0 ∧ ¬ (∀ k, k + 1 < sz → ¬ ft k * p1 / q1 = ft (k + 1) * p1 / q1)))) ([.ref t, .int p1, .int q1] : List Value).toArray s 0 0 (fun _ => False)) (F0 m 2 ls []) := by
    intro d9
    induction d9 with
    | zero => intro k hd; exact absurd hd (Nat.not_lt_zero _)
    | succ d9 ih2 =>
      intro k hd2 hk hk2 hP0 ls hl
      refine lv_iload_n hx hb dX4_staysApart_2 rfl (lv_at hl 3 rfl) ?_
      refine lv_aload_n hx hb dX4_staysApart_3 rfl (lv_at hl 0 rfl) ?_
      refine va_get (D := D) (ci := 4) (v := .ref r1) (C := RX4) (T := TX4) (N := 3) hx hb hts inlX4 hown hG.K hP 0 rfl rfl 0 (by decide) (hts _ mF_X4_14) (fun _ h9 => h9) rfl dX4_staysApart_4 ?_
      have hP9 := hP.sub (ws' := [oO r1 2 [.ref a1, .int (nI sz)], aI D a1 16 ft]) [1, 4] rfl
      refine vp_callSi (pV (rest := [.int (nI k)]) (qc := (RX2, TX2, 2)) [] 0 hC (c_size l D (r := r1) (a := a1) (sz := sz) (n := 16) (f := ft) ) rfl (hP 1 _ rfl) (gV mM_X4_26 mI_X2_size mS_X2_size mN_X2 mC_X2_size) (by decide +kernel) rfl rfl ⟨Nat.le_of_ble_eq_true rfl, Nat.le_of_ble_eq_true rfl⟩ hG hP9 rfl hl.1 rfl (Nat.le_of_ble_eq_true rfl) dX4_staysApart_7 ⟨Nat.le_of_ble_eq_true rfl, Nat.le_of_ble_eq_true rfl⟩) (fun r7 h7 => ?_)
      obtain rfl : r7 = (nI sz) := h7
      refine lv_icmp_ge (tgt := 54) hx hb dX4_staysApart_10 (by decide) (fun c10 => ?_) (fun c10 => ?_)
      · skip
        have n10 := (nI_leI (a := sz) (b := k) (by omega) (by omega)).mp c10
        refine lv_iconst (v := 1) hx hb dX4_staysApart_54 (by decide) ?_
        refine Rz hx hb hr hlk (by first | rfl | decide) ?_ dX4_staysApart_55
        exact Or.inl ⟨rfl, fun j hj => hP0 j (by omega)⟩
      · skip
        have n10 := mt (nI_leI (a := sz) (b := k) (by omega) (by omega)).mpr c10
        refine lv_aload_n hx hb dX4_staysApart_13 rfl (lv_at hl 0 rfl) ?_
        refine va_get (D := D) (ci := 4) (v := .ref r1) (C := RX4) (T := TX4) (N := 3) hx hb hts inlX4 hown hG.K hP 0 rfl rfl 0 (by decide) (hts _ mF_X4_14) (fun _ h9 => h9) rfl dX4_staysApart_14 ?_
        refine lv_iload_n hx hb dX4_staysApart_17 rfl (lv_at hl 3 rfl) ?_
        refine lv_iconst (v := 1) hx hb dX4_staysApart_18 (by decide) ?_
        refine lv_isub hx hb dX4_staysApart_19 ?_
        refine tpi (y := nI (k - 1)) (pk_sub (a := k) (b := 1) (by omega)) ?_
        have hP9 := hP.sub (ws' := [oO r1 2 [.ref a1, .int (nI sz)], aI D a1 16 ft]) [1, 4] rfl
        refine vp_callSi (pV (rest := []) (qc := (RX2, TX2, 2)) [.int (nI (k - 1))] 1 hC (c_get l D (r := r1) (j := k - 1) (a := a1) (sz := sz) (n := 16) (f := ft) (by omega) (by omega) (by omega)) rfl (hP 1 _ rfl) (gV mM_X4_30 mI_X2_get mS_X2_get mN_X2 mC_X2_get) (by decide +kernel) rfl rfl ⟨Nat.le_of_ble_eq_true rfl, Nat.le_of_ble_eq_true rfl⟩ hG hP9 rfl hl.1 rfl (Nat.le_of_ble_eq_true rfl) dX4_staysApart_20 ⟨Nat.le_of_ble_eq_true rfl, Nat.le_of_ble_eq_true rfl⟩) (fun r20 h20 => ?_)
        obtain rfl : r20 = (ft (k - 1)) := h20
        refine lv_iload_n hx hb dX4_staysApart_23 rfl (lv_at hl 1 rfl) ?_
        refine lv_imul hx hb dX4_staysApart_24 ?_
        refine lv_iload_n hx hb dX4_staysApart_25 rfl (lv_at hl 2 rfl) ?_
        have hP9 : va_P D cls [] s.heap := fun k q h => by simp at h
        refine vp_callSi (pSN (rest := []) [.int ((ft (k - 1)) * p1), .int q1] 2 hC (c_cut l D (x := (ft (k - 1)) * p1) (y := q1) (hq)) (nM_KeyStage_Track_75 hG) mT_X5_cut mN_X5 mC_X5_cut (by decide +kernel) rfl rfl ⟨Nat.le_of_ble_eq_true rfl, Nat.le_of_ble_eq_true rfl⟩ hG hP9 rfl hl.1 rfl (Nat.le_of_ble_eq_true rfl) dX4_staysApart_26 ⟨Nat.le_of_ble_eq_true rfl, Nat.le_of_ble_eq_true rfl⟩) (fun r26 h26 => ?_)
        obtain rfl : r26 = (((ft (k - 1)) * p1) / q1) := h26
        refine lv_aload_n hx hb dX4_staysApart_29 rfl (lv_at hl 0 rfl) ?_
        refine va_get (D := D) (ci := 4) (v := .ref r1) (C := RX4) (T := TX4) (N := 3) hx hb hts inlX4 hown hG.K hP 0 rfl rfl 0 (by decide) (hts _ mF_X4_14) (fun _ h9 => h9) rfl dX4_staysApart_30 ?_
        refine lv_iload_n hx hb dX4_staysApart_33 rfl (lv_at hl 3 rfl) ?_
        have hP9 := hP.sub (ws' := [oO r1 2 [.ref a1, .int (nI sz)], aI D a1 16 ft]) [1, 4] rfl
        refine vp_callSi (pV (rest := [.int (((ft (k - 1)) * p1) / q1)]) (qc := (RX2, TX2, 2)) [.int (nI k)] 1 hC (c_get l D (r := r1) (j := k) (a := a1) (sz := sz) (n := 16) (f := ft) (by omega) (by omega) (by omega)) rfl (hP 1 _ rfl) (gV mM_X4_30 mI_X2_get mS_X2_get mN_X2 mC_X2_get) (by decide +kernel) rfl rfl ⟨Nat.le_of_ble_eq_true rfl, Nat.le_of_ble_eq_true rfl⟩ hG hP9 rfl hl.1 rfl (Nat.le_of_ble_eq_true rfl) dX4_staysApart_34 ⟨Nat.le_of_ble_eq_true rfl, Nat.le_of_ble_eq_true rfl⟩) (fun r34 h34 => ?_)
        obtain rfl : r34 = (ft k) := h34
        refine lv_iload_n hx hb dX4_staysApart_37 rfl (lv_at hl 1 rfl) ?_
        refine lv_imul hx hb dX4_staysApart_38 ?_
        refine lv_iload_n hx hb dX4_staysApart_39 rfl (lv_at hl 2 rfl) ?_
        have hP9 : va_P D cls [] s.heap := fun k q h => by simp at h
        refine vp_callSi (pSN (rest := [.int (((ft (k - 1)) * p1) / q1)]) [.int ((ft k) * p1), .int q1] 2 hC (c_cut l D (x := (ft k) * p1) (y := q1) (hq)) (nM_KeyStage_Track_75 hG) mT_X5_cut mN_X5 mC_X5_cut (by decide +kernel) rfl rfl ⟨Nat.le_of_ble_eq_true rfl, Nat.le_of_ble_eq_true rfl⟩ hG hP9 rfl hl.1 rfl (Nat.le_of_ble_eq_true rfl) dX4_staysApart_40 ⟨Nat.le_of_ble_eq_true rfl, Nat.le_of_ble_eq_true rfl⟩) (fun r40 h40 => ?_)
        obtain rfl : r40 = (((ft k) * p1) / q1) := h40
        refine lv_icmp_ne (tgt := 48) hx hb dX4_staysApart_43 (by decide) (fun c43 => ?_) (fun c43 => ?_)
        · skip
          refine lv_iinc (v := nI (k + 1)) (lv' := [(3, .int (nI (k + 1))), (0, .ref t), (1, .int p1), (2, .int q1)]) hx hb dX4_staysApart_48 hl (k := 3) rfl (nI_1 _) (by decide) rfl (fun ls hl => ?_)
          refine lv_goto (tgt := 2) hx hb dX4_staysApart_51 (by decide) ?_
          exact ih2 (k + 1) (by omega) (by omega) (by omega) (fun j hj => (Nat.lt_or_ge (j + 1) k).elim (fun z => hP0 j z) (fun z => by
            have e : j = k - 1 := by omega
            subst e
            rw [Nat.sub_add_cancel (by omega)]
            exact c43)) _ (lv_sub hl [1, 2, 3, 0] rfl)
        · skip
          refine lv_iconst (v := 0) hx hb dX4_staysApart_46 (by decide) ?_
          refine Rz hx hb hr hlk (by first | rfl | decide) ?_ dX4_staysApart_47
          exact Or.inr ⟨rfl, fun h => h (k - 1) (by omega) (by rw [Nat.sub_add_cancel (by omega)]; exact c43)⟩
  exact loop2 _ 1 (Nat.lt_succ_self _) (by omega) (by omega) (fun j hj => absurd hj (by omega)) _ (lv_sub hl [1, 2, 3, 0] rfl)
set_option maxHeartbeats 4000000 in
set_option maxRecDepth 100000 in
theorem c_moveKey (l : Launch) (D : va_G) {t r1 r2 r3 a1 a2 a3 sz : Nat} {ft fv fe : Nat → Int32} {i j : Nat} (hz0 : Nat) (hs : sz ≤ 16) (hi : i < sz) (hj : j < sz) : Met l yX4_moveKey (ws_ yX4_moveKey cX4_moveKey 3 none) ({ frames := 2, cells := 0, slots := 0, locals := 43 } : Room) (va_Pc [.ref t, .int (nI i), .int (nI j)] (SW D [oO t 4 [.ref r1, .ref r2, .ref r3], oO r1 2 [.ref a1, .int (nI sz)], oO r2 2 [.ref a2, .int (nI sz)], oO r3 2 [.ref a3, .int (nI sz)], aI D a1 16 ft, aI D a2 16 fv, aI D a3 16 fe] hz0)) (va_Qv (fun _ => True) (AT D (va_A [oO t 4 [.ref r1, .ref r2, .ref r3], oO r1 2 [.ref a1, .int (nI sz)], oO r2 2 [.ref a2, .int (nI sz)], oO r3 2 [.ref a3, .int (nI sz)], aI D a1 16 ft, aI D a2 16 fv, aI D a3 16 fe] hz0) (fun _ : Unit => [oO t 4 [.ref r1, .ref r2, .ref r3], oO r1 2 [.ref a1, .int (nI sz)], oO r2 2 [.ref a2, .int (nI sz)], oO r3 2 [.ref a3, .int (nI sz)], aI D a1 16 (upd ft j (ft i)), aI D a2 16 (upd fv j (fv i)), aI D a3 16 (upd fe j (fe i))])) (va_A [oO t 4 [.ref r1, .ref r2, .ref r3], oO r1 2 [.ref a1, .int (nI sz)], oO r2 2 [.ref a2, .int (nI sz)], oO r3 2 [.ref a3, .int (nI sz)], aI D a1 16 ft, aI D a2 16 fv, aI D a3 16 fe] hz0)) 0 0 (va_A [oO t 4 [.ref r1, .ref r2, .ref r3], oO r1 2 [.ref a1, .int (nI sz)], oO r2 2 [.ref a2, .int (nI sz)], oO r3 2 [.ref a3, .int (nI sz)], aI D a1 16 ft, aI D a2 16 fv, aI D a3 16 fe] hz0) := by
  refine Met.ofW (cc := cX4_moveKey) (maxL := 3) (ret := none) (by decide) rfl ?_
  intro p e s m args below meth c s₁ B hml hv
  obtain ⟨rfl, hsz, hG, hP, hD0⟩ := hv
  have hx := B.exec
  have hb := B.bytes
  have hr := B.returns
  have hts : ∀ w ∈ wsL_law, w.before _ s = true := fun w h => atoms_spec (ws := (ws_ yX4_moveKey cX4_moveKey 3 none)) B.pre w (List.mem_cons_of_mem _ h)
  have hown : s.vm.findClass RX4 = some m.cls := findClass_of_methodNamed B.named
  have hlk := B.notSynchronized
  have hC : CallFix p m c cX4_moveKey 3 s _ wsL_law RX4 := ⟨hx, hb, hml, hown, hts⟩
  subst hsz
  have hD := hD0.self (sz := s.heap.size)
  generalize hAe : va_A [oO t 4 [.ref r1, .ref r2, .ref r3], oO r1 2 [.ref a1, .int (nI sz)], oO r2 2 [.ref a2, .int (nI sz)], oO r3 2 [.ref a3, .int (nI sz)], aI D a1 16 ft, aI D a2 16 fv, aI D a3 16 fe] s.heap.size = A at hD ⊢
  have hA : ∀ q : Nat, s.heap.size ≤ q → A q := fun q h => by rw [← hAe]; exact Or.inr h
  have hS : va_S A s.heap s.heap [] := va_S.rf
  obtain ⟨H, hHe⟩ : ∃ H, H = s.heap := ⟨_, rfl⟩
  rw [← hHe] at hP
  have hS : va_S A s.heap H [] := by rw [hHe]; exact hS
  have hl := lv_entry ([.ref t, .int (nI i), .int (nI j)]) (n := 3) (Nat.le_of_ble_eq_true rfl)
  rw [lg_entry_eq]
  generalize (lg_sl ([.ref t, .int (nI i), .int (nI j)]) ++ List.replicate (3 - (lg_sl ([.ref t, .int (nI i), .int (nI j)])).length) Slot.unset).toArray = ls at hl ⊢
  have hl : lv_has ls 3 [(0, .ref t), (1, .int (nI i)), (2, .int (nI j))] := hl
  rw [← hHe]
  refine lv_aload_n hx hb dX4_moveKey_0 rfl (lv_at hl 0 rfl) ?_
  refine va_get (D := D) (ci := 4) (v := .ref r1) (C := RX4) (T := TX4) (N := 3) hx hb hts inlX4 hown hG.K hP 0 rfl rfl 0 (by decide) (hts _ mF_X4_14) (fun _ h9 => h9) rfl dX4_moveKey_1 ?_
  refine lv_iload_n hx hb dX4_moveKey_4 rfl (lv_at hl 2 rfl) ?_
  refine lv_aload_n hx hb dX4_moveKey_5 rfl (lv_at hl 0 rfl) ?_
  refine va_get (D := D) (ci := 4) (v := .ref r1) (C := RX4) (T := TX4) (N := 3) hx hb hts inlX4 hown hG.K hP 0 rfl rfl 0 (by decide) (hts _ mF_X4_14) (fun _ h9 => h9) rfl dX4_moveKey_6 ?_
  refine lv_iload_n hx hb dX4_moveKey_9 rfl (lv_at hl 1 rfl) ?_
  have hP9 := hP.sub (ws' := [oO r1 2 [.ref a1, .int (nI sz)], aI D a1 16 ft]) [1, 4] rfl
  refine vp_callSi (pV (rest := [.int (nI j), .ref r1]) (qc := (RX2, TX2, 2)) [.int (nI i)] 1 hC (c_get l D (r := r1) (j := i) (a := a1) (sz := sz) (n := 16) (f := ft) (by omega) (by omega) (by omega)) rfl (hP 1 _ rfl) (gV mM_X4_30 mI_X2_get mS_X2_get mN_X2 mC_X2_get) (by decide +kernel) rfl rfl ⟨Nat.le_of_ble_eq_true rfl, Nat.le_of_ble_eq_true rfl⟩ hG hP9 rfl hl.1 rfl (Nat.le_of_ble_eq_true rfl) dX4_moveKey_10 ⟨Nat.le_of_ble_eq_true rfl, Nat.le_of_ble_eq_true rfl⟩) (fun r10 h10 => ?_)
  obtain rfl : r10 = (ft i) := h10
  have hP9 := hP.sub (ws' := [oO r1 2 [.ref a1, .int (nI sz)], aI D a1 16 ft]) [1, 4] rfl
  have hD9 := (hD.sub (ws' := [oO r1 2 [.ref a1, .int (nI sz)], aI D a1 16 ft]) [1, 4] (by decide) rfl).weaken (B := fun _ => True) (fun _ _ _ _ => trivial)
  refine kv (wr := [oO t 4 [.ref r1, .ref r2, .ref r3], oO r2 2 [.ref a2, .int (nI sz)], oO r3 2 [.ref a3, .int (nI sz)], aI D a2 16 fv, aI D a3 16 fe]) (rV (rest := []) (qc := (RX2, TX2, 2)) [.int (nI j), .int (ft i)] 2 0 0 hC (c_set l D (r := r1) (j := j) (x := ft i) (a := a1) (sz := sz) (n := 16) (f := ft) (hz0 := H.size) (by omega) (by omega) (by omega)) rfl (hP 1 _ rfl) (gV mM_X4_41 mI_X2_set mS_X2_set mN_X2 mC_X2_set) (by decide +kernel) rfl rfl ⟨Nat.le_of_ble_eq_true rfl, Nat.le_of_ble_eq_true rfl⟩ hG hP9 hD9 rfl hl.1 rfl (Nat.le_of_ble_eq_true rfl) dX4_moveKey_13 ⟨Nat.le_of_ble_eq_true rfl, Nat.le_of_ble_eq_true rfl⟩) hP hD hS hA [1, 4] [0, 2, 3, 5, 6] rfl rfl (by decide) (by decide) (fun u13 H locs h13 hP hD hS hz hfr => ?_)
  have hP : va_P D cls [oO t 4 [.ref r1, .ref r2, .ref r3], oO r2 2 [.ref a2, .int (nI sz)], oO r3 2 [.ref a3, .int (nI sz)], aI D a2 16 fv, aI D a3 16 fe, oO r1 2 [.ref a1, .int (nI sz)], aI D a1 16 (upd ft j (ft i))] H := hP
  have hD : va_D A [oO t 4 [.ref r1, .ref r2, .ref r3], oO r2 2 [.ref a2, .int (nI sz)], oO r3 2 [.ref a3, .int (nI sz)], aI D a2 16 fv, aI D a3 16 fe, oO r1 2 [.ref a1, .int (nI sz)], aI D a1 16 (upd ft j (ft i))] := hD
  refine lv_aload_n hx hb dX4_moveKey_16 rfl (lv_at hl 0 rfl) ?_
  refine va_get (D := D) (ci := 4) (v := .ref r2) (C := RX4) (T := TX4) (N := 3) hx hb hts inlX4 hown hG.K hP 0 rfl rfl 1 (by decide) (hts _ mF_X4_20) (fun _ h9 => h9) rfl dX4_moveKey_17 ?_
  refine lv_iload_n hx hb dX4_moveKey_20 rfl (lv_at hl 2 rfl) ?_
  refine lv_aload_n hx hb dX4_moveKey_21 rfl (lv_at hl 0 rfl) ?_
  refine va_get (D := D) (ci := 4) (v := .ref r2) (C := RX4) (T := TX4) (N := 3) hx hb hts inlX4 hown hG.K hP 0 rfl rfl 1 (by decide) (hts _ mF_X4_20) (fun _ h9 => h9) rfl dX4_moveKey_22 ?_
  refine lv_iload_n hx hb dX4_moveKey_25 rfl (lv_at hl 1 rfl) ?_
  have hP9 := hP.sub (ws' := [oO r2 2 [.ref a2, .int (nI sz)], aI D a2 16 fv]) [1, 3] rfl
  refine vp_callSi (pV (rest := [.int (nI j), .ref r2]) (qc := (RX2, TX2, 2)) [.int (nI i)] 1 hC (c_get l D (r := r2) (j := i) (a := a2) (sz := sz) (n := 16) (f := fv) (by omega) (by omega) (by omega)) rfl (hP 1 _ rfl) (gV mM_X4_30 mI_X2_get mS_X2_get mN_X2 mC_X2_get) (by decide +kernel) rfl rfl ⟨Nat.le_of_ble_eq_true rfl, Nat.le_of_ble_eq_true rfl⟩ hG hP9 rfl hl.1 rfl (Nat.le_of_ble_eq_true rfl) dX4_moveKey_26 ⟨Nat.le_of_ble_eq_true rfl, Nat.le_of_ble_eq_true rfl⟩) (fun r26 h26 => ?_)
  obtain rfl : r26 = (fv i) := h26
  have hP9 := hP.sub (ws' := [oO r2 2 [.ref a2, .int (nI sz)], aI D a2 16 fv]) [1, 3] rfl
  have hD9 := (hD.sub (ws' := [oO r2 2 [.ref a2, .int (nI sz)], aI D a2 16 fv]) [1, 3] (by decide) rfl).weaken (B := fun _ => True) (fun _ _ _ _ => trivial)
  refine kv (wr := [oO t 4 [.ref r1, .ref r2, .ref r3], oO r3 2 [.ref a3, .int (nI sz)], aI D a3 16 fe, oO r1 2 [.ref a1, .int (nI sz)], aI D a1 16 (upd ft j (ft i))]) (rV (rest := []) (qc := (RX2, TX2, 2)) [.int (nI j), .int (fv i)] 2 0 0 hC (c_set l D (r := r2) (j := j) (x := fv i) (a := a2) (sz := sz) (n := 16) (f := fv) (hz0 := H.size) (by omega) (by omega) (by omega)) rfl (hP 1 _ rfl) (gV mM_X4_41 mI_X2_set mS_X2_set mN_X2 mC_X2_set) (by decide +kernel) rfl rfl ⟨Nat.le_of_ble_eq_true rfl, Nat.le_of_ble_eq_true rfl⟩ hG hP9 hD9 rfl hl.1 rfl (Nat.le_of_ble_eq_true rfl) dX4_moveKey_29 ⟨Nat.le_of_ble_eq_true rfl, Nat.le_of_ble_eq_true rfl⟩) hP hD hS hA [1, 3] [0, 2, 4, 5, 6] rfl rfl (by decide) (by decide) (fun u29 H locs h29 hP hD hS hz hfr => ?_)
  have hP : va_P D cls [oO t 4 [.ref r1, .ref r2, .ref r3], oO r3 2 [.ref a3, .int (nI sz)], aI D a3 16 fe, oO r1 2 [.ref a1, .int (nI sz)], aI D a1 16 (upd ft j (ft i)), oO r2 2 [.ref a2, .int (nI sz)], aI D a2 16 (upd fv j (fv i))] H := hP
  have hD : va_D A [oO t 4 [.ref r1, .ref r2, .ref r3], oO r3 2 [.ref a3, .int (nI sz)], aI D a3 16 fe, oO r1 2 [.ref a1, .int (nI sz)], aI D a1 16 (upd ft j (ft i)), oO r2 2 [.ref a2, .int (nI sz)], aI D a2 16 (upd fv j (fv i))] := hD
  refine lv_aload_n hx hb dX4_moveKey_32 rfl (lv_at hl 0 rfl) ?_
  refine va_get (D := D) (ci := 4) (v := .ref r3) (C := RX4) (T := TX4) (N := 3) hx hb hts inlX4 hown hG.K hP 0 rfl rfl 2 (by decide) (hts _ mF_X4_23) (fun _ h9 => h9) rfl dX4_moveKey_33 ?_
  refine lv_iload_n hx hb dX4_moveKey_36 rfl (lv_at hl 2 rfl) ?_
  refine lv_aload_n hx hb dX4_moveKey_37 rfl (lv_at hl 0 rfl) ?_
  refine va_get (D := D) (ci := 4) (v := .ref r3) (C := RX4) (T := TX4) (N := 3) hx hb hts inlX4 hown hG.K hP 0 rfl rfl 2 (by decide) (hts _ mF_X4_23) (fun _ h9 => h9) rfl dX4_moveKey_38 ?_
  refine lv_iload_n hx hb dX4_moveKey_41 rfl (lv_at hl 1 rfl) ?_
  have hP9 := hP.sub (ws' := [oO r3 2 [.ref a3, .int (nI sz)], aI D a3 16 fe]) [1, 2] rfl
  refine vp_callSi (pV (rest := [.int (nI j), .ref r3]) (qc := (RX2, TX2, 2)) [.int (nI i)] 1 hC (c_get l D (r := r3) (j := i) (a := a3) (sz := sz) (n := 16) (f := fe) (by omega) (by omega) (by omega)) rfl (hP 1 _ rfl) (gV mM_X4_30 mI_X2_get mS_X2_get mN_X2 mC_X2_get) (by decide +kernel) rfl rfl ⟨Nat.le_of_ble_eq_true rfl, Nat.le_of_ble_eq_true rfl⟩ hG hP9 rfl hl.1 rfl (Nat.le_of_ble_eq_true rfl) dX4_moveKey_42 ⟨Nat.le_of_ble_eq_true rfl, Nat.le_of_ble_eq_true rfl⟩) (fun r42 h42 => ?_)
  obtain rfl : r42 = (fe i) := h42
  have hP9 := hP.sub (ws' := [oO r3 2 [.ref a3, .int (nI sz)], aI D a3 16 fe]) [1, 2] rfl
  have hD9 := (hD.sub (ws' := [oO r3 2 [.ref a3, .int (nI sz)], aI D a3 16 fe]) [1, 2] (by decide) rfl).weaken (B := fun _ => True) (fun _ _ _ _ => trivial)
  refine kv (wr := [oO t 4 [.ref r1, .ref r2, .ref r3], oO r1 2 [.ref a1, .int (nI sz)], aI D a1 16 (upd ft j (ft i)), oO r2 2 [.ref a2, .int (nI sz)], aI D a2 16 (upd fv j (fv i))]) (rV (rest := []) (qc := (RX2, TX2, 2)) [.int (nI j), .int (fe i)] 2 0 0 hC (c_set l D (r := r3) (j := j) (x := fe i) (a := a3) (sz := sz) (n := 16) (f := fe) (hz0 := H.size) (by omega) (by omega) (by omega)) rfl (hP 1 _ rfl) (gV mM_X4_41 mI_X2_set mS_X2_set mN_X2 mC_X2_set) (by decide +kernel) rfl rfl ⟨Nat.le_of_ble_eq_true rfl, Nat.le_of_ble_eq_true rfl⟩ hG hP9 hD9 rfl hl.1 rfl (Nat.le_of_ble_eq_true rfl) dX4_moveKey_45 ⟨Nat.le_of_ble_eq_true rfl, Nat.le_of_ble_eq_true rfl⟩) hP hD hS hA [1, 2] [0, 3, 4, 5, 6] rfl rfl (by decide) (by decide) (fun u45 H locs h45 hP hD hS hz hfr => ?_)
  have hP : va_P D cls [oO t 4 [.ref r1, .ref r2, .ref r3], oO r1 2 [.ref a1, .int (nI sz)], aI D a1 16 (upd ft j (ft i)), oO r2 2 [.ref a2, .int (nI sz)], aI D a2 16 (upd fv j (fv i)), oO r3 2 [.ref a3, .int (nI sz)], aI D a3 16 (upd fe j (fe i))] H := hP
  have hD : va_D A [oO t 4 [.ref r1, .ref r2, .ref r3], oO r1 2 [.ref a1, .int (nI sz)], aI D a1 16 (upd ft j (ft i)), oO r2 2 [.ref a2, .int (nI sz)], aI D a2 16 (upd fv j (fv i)), oO r3 2 [.ref a3, .int (nI sz)], aI D a3 16 (upd fe j (fe i))] := hD
  refine Wv () hx hb hr hlk ?_ (hP.sub [0, 1, 3, 5, 2, 4, 6] rfl) (hD.sub [0, 1, 3, 5, 2, 4, 6] (by decide) rfl) hS (Nat.le_of_ble_eq_true rfl) (by first | exact Nat.le_of_ble_eq_true rfl | exact Nat.le_of_eq (Nat.zero_add _)) dX4_moveKey_48
  exact trivial
set_option maxHeartbeats 4000000 in
set_option maxRecDepth 100000 in
theorem c_isNear (l : Launch) (D : va_G) {t r1 r2 r3 a1 a2 a3 sz : Nat} {ft fv fe : Nat → Int32} {i j : Nat} {tol : Int32} (hs : sz ≤ 16) (hij : i < j) (hj : j < sz) (hd2 : dOK (ft j - ft i)) (hdk : ∀ k, i ≤ k → k < j → dOK (ft (k + 1) - ft k)) : Met l yX4_isNear (ws_ yX4_isNear cX4_isNear 7 (some .boolean)) ({ frames := 3, cells := 0, slots := 0, locals := 78 } : Room) (va_Pc [.ref t, .int (nI i), .int (nI j), .int tol] (PW D [oO t 4 [.ref r1, .ref r2, .ref r3], oO r1 2 [.ref a1, .int (nI sz)], oO r2 2 [.ref a2, .int (nI sz)], oO r3 2 [.ref a3, .int (nI sz)], aI D a1 16 ft, aI D a2 16 fv, aI D a3 16 fe])) (vp_Si (fun v => (v = 1 ∧ (nearP ft fv fe tol i j)) ∨ (v = 0 ∧ ¬ (nearP ft fv fe tol i j)))) 0 0 (fun _ => False) := by
  refine Met.ofW (cc := cX4_isNear) (maxL := 7) (ret := (some .boolean)) (by decide) rfl ?_
  intro p e s m args below meth c s₁ B hml hv
  obtain ⟨rfl, hG, hP⟩ := hv
  have hx := B.exec
  have hb := B.bytes
  have hr := B.returns
  have hts : ∀ w ∈ wsL_law, w.before _ s = true := fun w h => atoms_spec (ws := (ws_ yX4_isNear cX4_isNear 7 (some .boolean))) B.pre w (List.mem_cons_of_mem _ h)
  have hown : s.vm.findClass RX4 = some m.cls := findClass_of_methodNamed B.named
  have hlk := B.notSynchronized
  have hC : CallFix p m c cX4_isNear 7 s _ wsL_law RX4 := ⟨hx, hb, hml, hown, hts⟩
  have hl := lv_entry ([.ref t, .int (nI i), .int (nI j), .int tol]) (n := 7) (Nat.le_of_ble_eq_true rfl)
  rw [lg_entry_eq]
  generalize (lg_sl ([.ref t, .int (nI i), .int (nI j), .int tol]) ++ List.replicate (7 - (lg_sl ([.ref t, .int (nI i), .int (nI j), .int tol])).length) Slot.unset).toArray = ls at hl ⊢
  have hl : lv_has ls 7 [(0, .ref t), (1, .int (nI i)), (2, .int (nI j)), (3, .int tol)] := hl
  refine lv_iload_n hx hb dX4_isNear_0 rfl (lv_at hl 1 rfl) ?_
  refine lv_istore (lv' := [(4, .int (nI i)), (0, .ref t), (1, .int (nI i)), (2, .int (nI j)), (3, .int tol)]) hx hb dX4_isNear_1 hl (by decide) rfl (fun ls hl => ?_)
  have loop3 : ∀ (d9 : Nat) (k : Nat), (j - k) < d9 → (i ≤ k) → (k ≤ j) → (∀ q, i ≤ q → q < k → ∀ x : Int32, ft q ≤ x → x < ft (q + 1) → absI (vb ft fv fe i j x - vb ft fv fe q (q + 1) x) ≤ tol) → ∀ (ls : Array Slot), lv_has ls 7 [(0, .ref t), (1, .int (nI i)), (2, .int (nI j)), (3, .int tol), (4, .int (nI k))] → W p l e ({ frames := 3, cells := 0, slots := 0, locals := 78 } : Room) s m ([.ref t, .int (nI i), .int (nI j), .int tol] : List Value).toArray below meth c s.heap [] 0 0 (MQ below (vp_Si (fun v => (v = 1 ∧ (nearP ft fv fe tol i j)) ∨ (v = 0 ∧ ¬ (nearP ft fv fe tol i j)))) ([.ref t, .int (nI i), .int (nI j), .int tol] : List Value).toArray s 0 0 (fun _ => False)) (F0 m 3 ls []) := by
    intro d9
    induction d9 with
    | zero => intro k hd; exact absurd hd (Nat.not_lt_zero _)
    | succ d9 ih3 =>
      intro k hd3 hk1 hk2 hN ls hl
      refine lv_iload hx hb dX4_isNear_3 (lv_at hl 4 rfl) ?_
      refine lv_iload_n hx hb dX4_isNear_5 rfl (lv_at hl 2 rfl) ?_
      refine lv_icmp_ge (tgt := 82) hx hb dX4_isNear_6 (by decide) (fun c6 => ?_) (fun c6 => ?_)
      · skip
        have n6 := (nI_leI (a := j) (b := k) (by omega) (by omega)).mp c6
        refine lv_iconst (v := 1) hx hb dX4_isNear_82 (by decide) ?_
        refine Rz hx hb hr hlk (by first | rfl | decide) ?_ dX4_isNear_83
        exact Or.inl ⟨rfl, fun q h1 h2 => hN q h1 (by omega)⟩
      · skip
        have n6 := mt (nI_leI (a := j) (b := k) (by omega) (by omega)).mpr c6
        refine lv_aload_n hx hb dX4_isNear_9 rfl (lv_at hl 0 rfl) ?_
        refine va_get (D := D) (ci := 4) (v := .ref r1) (C := RX4) (T := TX4) (N := 3) hx hb hts inlX4 hown hG.K hP 0 rfl rfl 0 (by decide) (hts _ mF_X4_14) (fun _ h9 => h9) rfl dX4_isNear_10 ?_
        refine lv_iload hx hb dX4_isNear_13 (lv_at hl 4 rfl) ?_
        have hP9 := hP.sub (ws' := [oO r1 2 [.ref a1, .int (nI sz)], aI D a1 16 ft]) [1, 4] rfl
        refine vp_callSi (pV (rest := []) (qc := (RX2, TX2, 2)) [.int (nI k)] 1 hC (c_get l D (r := r1) (j := k) (a := a1) (sz := sz) (n := 16) (f := ft) (by omega) (by omega) (by omega)) rfl (hP 1 _ rfl) (gV mM_X4_30 mI_X2_get mS_X2_get mN_X2 mC_X2_get) (by decide +kernel) rfl rfl ⟨Nat.le_of_ble_eq_true rfl, Nat.le_of_ble_eq_true rfl⟩ hG hP9 rfl hl.1 rfl (Nat.le_of_ble_eq_true rfl) dX4_isNear_15 ⟨Nat.le_of_ble_eq_true rfl, Nat.le_of_ble_eq_true rfl⟩) (fun r15 h15 => ?_)
        obtain rfl : r15 = (ft k) := h15
        refine lv_istore (lv' := [(5, .int (ft k)), (0, .ref t), (1, .int (nI i)), (2, .int (nI j)), (3, .int tol), (4, .int (nI k))]) hx hb dX4_isNear_18 hl (by decide) rfl (fun ls hl => ?_)
        have loop20 : ∀ (d9 : Nat) (x : Int32), (((ft (k + 1)).toInt - x.toInt).toNat) < d9 → (ft k ≤ x) → (∀ y : Int32, ft k ≤ y → y < x → absI (vb ft fv fe i j y - vb ft fv fe k (k + 1) y) ≤ tol) → ∀ (ls : Array Slot), lv_has ls 7 [(0, .ref t), (1, .int (nI i)), (2, .int (nI j)), (3, .int tol), (4, .int (nI k)), (5, .int x)] → W p l e ({ frames := 3, cells := 0, slots := 0, locals := 78 } : Room) s m ([.ref t, .int (nI i), .int (nI j), .int tol] : List Value).toArray below meth c s.heap [] 0 0 (MQ below (vp_Si (fun v => (v = 1 ∧ (nearP ft fv fe tol i j)) ∨ (v = 0 ∧ ¬ (nearP ft fv fe tol i j)))) ([.ref t, .int (nI i), .int (nI j), .int tol] : List Value).toArray s 0 0 (fun _ => False)) (F0 m 20 ls []) := by
          intro d9
          induction d9 with
          | zero => intro x hd; exact absurd hd (Nat.not_lt_zero _)
          | succ d9 ih20 =>
            intro x hd20 hx0 hM ls hl
            refine lv_iload hx hb dX4_isNear_20 (lv_at hl 5 rfl) ?_
            refine lv_aload_n hx hb dX4_isNear_22 rfl (lv_at hl 0 rfl) ?_
            refine va_get (D := D) (ci := 4) (v := .ref r1) (C := RX4) (T := TX4) (N := 3) hx hb hts inlX4 hown hG.K hP 0 rfl rfl 0 (by decide) (hts _ mF_X4_14) (fun _ h9 => h9) rfl dX4_isNear_23 ?_
            refine lv_iload hx hb dX4_isNear_26 (lv_at hl 4 rfl) ?_
            refine lv_iconst (v := 1) hx hb dX4_isNear_28 (by decide) ?_
            refine lv_iadd hx hb dX4_isNear_29 ?_
            refine tpi (y := nI (k + 1)) (nI_add k 1) ?_
            have hP9 := hP.sub (ws' := [oO r1 2 [.ref a1, .int (nI sz)], aI D a1 16 ft]) [1, 4] rfl
            refine vp_callSi (pV (rest := [.int x]) (qc := (RX2, TX2, 2)) [.int (nI (k + 1))] 1 hC (c_get l D (r := r1) (j := k + 1) (a := a1) (sz := sz) (n := 16) (f := ft) (by omega) (by omega) (by omega)) rfl (hP 1 _ rfl) (gV mM_X4_30 mI_X2_get mS_X2_get mN_X2 mC_X2_get) (by decide +kernel) rfl rfl ⟨Nat.le_of_ble_eq_true rfl, Nat.le_of_ble_eq_true rfl⟩ hG hP9 rfl hl.1 rfl (Nat.le_of_ble_eq_true rfl) dX4_isNear_30 ⟨Nat.le_of_ble_eq_true rfl, Nat.le_of_ble_eq_true rfl⟩) (fun r30 h30 => ?_)
            obtain rfl : r30 = (ft (k + 1)) := h30
            refine lv_icmp_ge (tgt := 76) hx hb dX4_isNear_33 (by decide) (fun c33 => ?_) (fun c33 => ?_)
            · skip
              refine lv_iinc (v := nI (k + 1)) (lv' := [(4, .int (nI (k + 1))), (0, .ref t), (1, .int (nI i)), (2, .int (nI j)), (3, .int tol), (5, .int x)]) hx hb dX4_isNear_76 hl (k := 4) rfl (nI_1 _) (by decide) rfl (fun ls hl => ?_)
              refine lv_goto (tgt := 3) hx hb dX4_isNear_79 (by decide) ?_
              exact ih3 (k + 1) (by omega) (by omega) (by omega) (fun q h1 h2 y h3 h4 => (Nat.lt_or_ge q k).elim (fun z => hN q h1 z y h3 h4) (fun z => by
                have e : q = k := by omega
                subst e
                exact hM y h3 (by rw [fa_lt] at h4 ⊢; rw [fa_le] at c33; omega))) _ (lv_sub hl [1, 2, 3, 4, 0] rfl)
            · skip
              refine lv_aload_n hx hb dX4_isNear_36 rfl (lv_at hl 0 rfl) ?_
              refine lv_iload hx hb dX4_isNear_37 (lv_at hl 4 rfl) ?_
              refine lv_iload hx hb dX4_isNear_39 (lv_at hl 4 rfl) ?_
              refine lv_iconst (v := 1) hx hb dX4_isNear_41 (by decide) ?_
              refine lv_iadd hx hb dX4_isNear_42 ?_
              refine tpi (y := nI (k + 1)) (nI_add k 1) ?_
              refine lv_iload hx hb dX4_isNear_43 (lv_at hl 5 rfl) ?_
              have hP9 := hP
              refine vp_callSi (pV (rest := []) (qc := (RX4, TX4, 3)) [.int (nI k), .int (nI (k + 1)), .int x] 3 hC (c_valueBetween l D (t := t) (i := k) (j := k + 1) (x := x) (r1 := r1) (r2 := r2) (r3 := r3) (a1 := a1) (sz := sz) (a2 := a2) (a3 := a3) (ft := ft) (fv := fv) (fe := fe) (by omega) (by omega) (by omega) (hdk k hk1 (by omega))) rfl (hP 0 _ rfl) (gV mM_X4_51 mI_X4_valueBetween mS_X4_valueBetween mN_X4 mC_X4_valueBetween) (by decide +kernel) rfl rfl ⟨Nat.le_of_ble_eq_true rfl, Nat.le_of_ble_eq_true rfl⟩ hG hP9 rfl hl.1 rfl (Nat.le_of_ble_eq_true rfl) dX4_isNear_45 ⟨Nat.le_of_ble_eq_true rfl, Nat.le_of_ble_eq_true rfl⟩) (fun r45 h45 => ?_)
              obtain rfl : r45 = (vb ft fv fe k (k + 1) x) := h45
              refine lv_istore (lv' := [(6, .int (vb ft fv fe k (k + 1) x)), (0, .ref t), (1, .int (nI i)), (2, .int (nI j)), (3, .int tol), (4, .int (nI k)), (5, .int x)]) hx hb dX4_isNear_48 hl (by decide) rfl (fun ls hl => ?_)
              refine lv_aload_n hx hb dX4_isNear_50 rfl (lv_at hl 1 rfl) ?_
              refine lv_iload_n hx hb dX4_isNear_51 rfl (lv_at hl 2 rfl) ?_
              refine lv_iload_n hx hb dX4_isNear_52 rfl (lv_at hl 3 rfl) ?_
              refine lv_iload hx hb dX4_isNear_53 (lv_at hl 6 rfl) ?_
              have hP9 := hP
              refine vp_callSi (pV (rest := []) (qc := (RX4, TX4, 3)) [.int (nI i), .int (nI j), .int x] 3 hC (c_valueBetween l D (t := t) (i := i) (j := j) (x := x) (r1 := r1) (r2 := r2) (r3 := r3) (a1 := a1) (sz := sz) (a2 := a2) (a3 := a3) (ft := ft) (fv := fv) (fe := fe) (by omega) (by omega) (by omega) (hd2)) rfl (hP 0 _ rfl) (gV mM_X4_51 mI_X4_valueBetween mS_X4_valueBetween mN_X4 mC_X4_valueBetween) (by decide +kernel) rfl rfl ⟨Nat.le_of_ble_eq_true rfl, Nat.le_of_ble_eq_true rfl⟩ hG hP9 rfl hl.1 rfl (Nat.le_of_ble_eq_true rfl) dX4_isNear_55 ⟨Nat.le_of_ble_eq_true rfl, Nat.le_of_ble_eq_true rfl⟩) (fun r55 h55 => ?_)
              obtain rfl : r55 = (vb ft fv fe i j x) := h55
              refine lv_iload hx hb dX4_isNear_58 (lv_at hl 0 rfl) ?_
              refine lv_isub hx hb dX4_isNear_60 ?_
              refine va_mabs hx hb (by rw [hml]; exact hl.1.symm) hown (hts _ mM_X4_89) (hts _ mT_Lib_Math_abs_name) (hts _ mN__java_lang_Math_) (hts _ mC_Lib_Math_abs_name) (Nat.le_of_ble_eq_true rfl) (Nat.le_of_ble_eq_true rfl) (Nat.le_of_ble_eq_true rfl) (Nat.le_of_ble_eq_true rfl) dX4_isNear_61 ?_
              refine tpi (y := absI (vb ft fv fe i j x - vb ft fv fe k (k + 1) x)) (rfl) ?_
              refine lv_iload_n hx hb dX4_isNear_64 rfl (lv_at hl 4 rfl) ?_
              refine lv_icmp_le (tgt := 70) hx hb dX4_isNear_65 (by decide) (fun c65 => ?_) (fun c65 => ?_)
              · skip
                have hsx := lt_succ32 (Int32.not_le.mp c33)
                have hlx := (fa_lt _ _).mp (Int32.not_le.mp c33)
                refine lv_iinc (v := x + 1) (lv' := [(5, .int (x + 1)), (6, .int (vb ft fv fe k (k + 1) x)), (0, .ref t), (1, .int (nI i)), (2, .int (nI j)), (3, .int tol), (4, .int (nI k))]) hx hb dX4_isNear_70 hl (k := 6) rfl (rfl) (by decide) rfl (fun ls hl => ?_)
                refine lv_goto (tgt := 20) hx hb dX4_isNear_73 (by decide) ?_
                exact ih20 (x + 1) (by omega) (le_succ32 (Int32.not_le.mp c33) hx0) (fun y h1 h2 => (lt_of_succ32 (Int32.not_le.mp c33) h2).elim (fun z => hM y h1 z) (fun z => by rw [z]; exact c65)) _ (lv_sub hl [2, 3, 4, 5, 6, 0] rfl)
              · skip
                refine lv_iconst (v := 0) hx hb dX4_isNear_68 (by decide) ?_
                refine Rz hx hb hr hlk (by first | rfl | decide) ?_ dX4_isNear_69
                exact Or.inr ⟨rfl, fun h => c65 (h k hk1 (by omega) x hx0 (Int32.not_le.mp c33))⟩
        exact loop20 _ (ft k) (Nat.lt_succ_self _) (Int32.le_refl _) (fun y h1 h2 => absurd h1 (Int32.not_le.mpr h2)) _ (lv_sub hl [1, 2, 3, 4, 5, 0] rfl)
  exact loop3 _ i (Nat.lt_succ_self _) (by omega) (by omega) (fun q h1 h2 => absurd h2 (by omega)) _ (lv_sub hl [1, 2, 3, 4, 0] rfl)
set_option maxHeartbeats 4000000 in
set_option maxRecDepth 100000 in
theorem c_thinOut_few (l : Launch) (D : va_G) {t r1 r2 r3 a1 a2 a3 sz : Nat} {ft fv fe : Nat → Int32} {tol : Int32} (hz0 : Nat) (h3 : sz < 3) : Met l yX4_thinOut (ws_ yX4_thinOut cX4_thinOut 6 none) ({ frames := 4, cells := 0, slots := 0, locals := 104 } : Room) (va_Pc [.ref t, .int tol] (SW D [oO t 4 [.ref r1, .ref r2, .ref r3], oO r1 2 [.ref a1, .int (nI sz)], oO r2 2 [.ref a2, .int (nI sz)], oO r3 2 [.ref a3, .int (nI sz)], aI D a1 16 ft, aI D a2 16 fv, aI D a3 16 fe] hz0)) (va_Qv (fun _ => True) (AT D (va_A [oO t 4 [.ref r1, .ref r2, .ref r3], oO r1 2 [.ref a1, .int (nI sz)], oO r2 2 [.ref a2, .int (nI sz)], oO r3 2 [.ref a3, .int (nI sz)], aI D a1 16 ft, aI D a2 16 fv, aI D a3 16 fe] hz0) (fun _ : Unit => [oO t 4 [.ref r1, .ref r2, .ref r3], oO r1 2 [.ref a1, .int (nI sz)], oO r2 2 [.ref a2, .int (nI sz)], oO r3 2 [.ref a3, .int (nI sz)], aI D a1 16 ft, aI D a2 16 fv, aI D a3 16 fe])) (va_A [oO t 4 [.ref r1, .ref r2, .ref r3], oO r1 2 [.ref a1, .int (nI sz)], oO r2 2 [.ref a2, .int (nI sz)], oO r3 2 [.ref a3, .int (nI sz)], aI D a1 16 ft, aI D a2 16 fv, aI D a3 16 fe] hz0)) 0 0 (va_A [oO t 4 [.ref r1, .ref r2, .ref r3], oO r1 2 [.ref a1, .int (nI sz)], oO r2 2 [.ref a2, .int (nI sz)], oO r3 2 [.ref a3, .int (nI sz)], aI D a1 16 ft, aI D a2 16 fv, aI D a3 16 fe] hz0) := by
  refine Met.ofW (cc := cX4_thinOut) (maxL := 6) (ret := none) (by decide) rfl ?_
  intro p e s m args below meth c s₁ B hml hv
  obtain ⟨rfl, hsz, hG, hP, hD0⟩ := hv
  have hx := B.exec
  have hb := B.bytes
  have hr := B.returns
  have hts : ∀ w ∈ wsL_law, w.before _ s = true := fun w h => atoms_spec (ws := (ws_ yX4_thinOut cX4_thinOut 6 none)) B.pre w (List.mem_cons_of_mem _ h)
  have hown : s.vm.findClass RX4 = some m.cls := findClass_of_methodNamed B.named
  have hlk := B.notSynchronized
  have hC : CallFix p m c cX4_thinOut 6 s _ wsL_law RX4 := ⟨hx, hb, hml, hown, hts⟩
  subst hsz
  have hD := hD0.self (sz := s.heap.size)
  generalize hAe : va_A [oO t 4 [.ref r1, .ref r2, .ref r3], oO r1 2 [.ref a1, .int (nI sz)], oO r2 2 [.ref a2, .int (nI sz)], oO r3 2 [.ref a3, .int (nI sz)], aI D a1 16 ft, aI D a2 16 fv, aI D a3 16 fe] s.heap.size = A at hD ⊢
  have hA : ∀ q : Nat, s.heap.size ≤ q → A q := fun q h => by rw [← hAe]; exact Or.inr h
  have hS : va_S A s.heap s.heap [] := va_S.rf
  obtain ⟨H, hHe⟩ : ∃ H, H = s.heap := ⟨_, rfl⟩
  rw [← hHe] at hP
  have hS : va_S A s.heap H [] := by rw [hHe]; exact hS
  have hl := lv_entry ([.ref t, .int tol]) (n := 6) (Nat.le_of_ble_eq_true rfl)
  rw [lg_entry_eq]
  generalize (lg_sl ([.ref t, .int tol]) ++ List.replicate (6 - (lg_sl ([.ref t, .int tol])).length) Slot.unset).toArray = ls at hl ⊢
  have hl : lv_has ls 6 [(0, .ref t), (1, .int tol)] := hl
  rw [← hHe]
  refine lv_aload_n hx hb dX4_thinOut_0 rfl (lv_at hl 0 rfl) ?_
  refine va_get (D := D) (ci := 4) (v := .ref r1) (C := RX4) (T := TX4) (N := 3) hx hb hts inlX4 hown hG.K hP 0 rfl rfl 0 (by decide) (hts _ mF_X4_14) (fun _ h9 => h9) rfl dX4_thinOut_1 ?_
  have hP9 := hP.sub (ws' := [oO r1 2 [.ref a1, .int (nI sz)], aI D a1 16 ft]) [1, 4] rfl
  refine vp_callSi (pV (rest := []) (qc := (RX2, TX2, 2)) [] 0 hC (c_size l D (r := r1) (a := a1) (sz := sz) (n := 16) (f := ft) ) rfl (hP 1 _ rfl) (gV mM_X4_26 mI_X2_size mS_X2_size mN_X2 mC_X2_size) (by decide +kernel) rfl rfl ⟨Nat.le_of_ble_eq_true rfl, Nat.le_of_ble_eq_true rfl⟩ hG hP9 rfl hl.1 rfl (Nat.le_of_ble_eq_true rfl) dX4_thinOut_4 ⟨Nat.le_of_ble_eq_true rfl, Nat.le_of_ble_eq_true rfl⟩) (fun r4 h4 => ?_)
  obtain rfl : r4 = (nI sz) := h4
  refine lv_istore_n (lv' := [(2, .int (nI sz)), (0, .ref t), (1, .int tol)]) hx hb dX4_thinOut_7 rfl hl (by decide) rfl (fun ls hl => ?_)
  refine lv_iload_n hx hb dX4_thinOut_8 rfl (lv_at hl 0 rfl) ?_
  refine lv_iconst (v := 3) hx hb dX4_thinOut_9 (by decide) ?_
  refine lv_icmp_ge (tgt := 14) hx hb dX4_thinOut_10 (by decide) (fun h9 => absurd ((nI_leI (a := 3) (b := sz) (by omega) (by omega)).mp h9) (by omega)) (fun _ => ?_)
  refine Wv () hx hb hr hlk ?_ hP hD hS (Nat.le_of_ble_eq_true rfl) (by first | exact Nat.le_of_ble_eq_true rfl | exact Nat.le_of_eq (Nat.zero_add _)) dX4_thinOut_13
  exact trivial
set_option maxHeartbeats 4000000 in
set_option maxRecDepth 100000 in
theorem c_thinOut (l : Launch) (D : va_G) {t r1 r2 r3 a1 a2 a3 sz : Nat} {ft fv fe : Nat → Int32} {tol : Int32} (hz0 : Nat) (hs : sz ≤ 16) (h3 : 3 ≤ sz) (hT : tOK ft sz) : Met l yX4_thinOut (ws_ yX4_thinOut cX4_thinOut 6 none) ({ frames := 4, cells := 0, slots := 0, locals := 104 } : Room) (va_Pc [.ref t, .int tol] (SW D [oO t 4 [.ref r1, .ref r2, .ref r3], oO r1 2 [.ref a1, .int (nI sz)], oO r2 2 [.ref a2, .int (nI sz)], oO r3 2 [.ref a3, .int (nI sz)], aI D a1 16 ft, aI D a2 16 fv, aI D a3 16 fe] hz0)) (va_Qv (fun _ => True) (AT D (va_A [oO t 4 [.ref r1, .ref r2, .ref r3], oO r1 2 [.ref a1, .int (nI sz)], oO r2 2 [.ref a2, .int (nI sz)], oO r3 2 [.ref a3, .int (nI sz)], aI D a1 16 ft, aI D a2 16 fv, aI D a3 16 fe] hz0) (fun _ : Unit => [oO t 4 [.ref r1, .ref r2, .ref r3], oO r1 2 [.ref a1, .int (nI (thN (nearP ft fv fe tol) sz))], oO r2 2 [.ref a2, .int (nI (thN (nearP ft fv fe tol) sz))], oO r3 2 [.ref a3, .int (nI (thN (nearP ft fv fe tol) sz))], aI D a1 16 (thF ft (thI (nearP ft fv fe tol) sz) (thN (nearP ft fv fe tol) sz)), aI D a2 16 (thF fv (thI (nearP ft fv fe tol) sz) (thN (nearP ft fv fe tol) sz)), aI D a3 16 (thF fe (thI (nearP ft fv fe tol) sz) (thN (nearP ft fv fe tol) sz))])) (va_A [oO t 4 [.ref r1, .ref r2, .ref r3], oO r1 2 [.ref a1, .int (nI sz)], oO r2 2 [.ref a2, .int (nI sz)], oO r3 2 [.ref a3, .int (nI sz)], aI D a1 16 ft, aI D a2 16 fv, aI D a3 16 fe] hz0)) 0 0 (va_A [oO t 4 [.ref r1, .ref r2, .ref r3], oO r1 2 [.ref a1, .int (nI sz)], oO r2 2 [.ref a2, .int (nI sz)], oO r3 2 [.ref a3, .int (nI sz)], aI D a1 16 ft, aI D a2 16 fv, aI D a3 16 fe] hz0) := by
  refine Met.ofW (cc := cX4_thinOut) (maxL := 6) (ret := none) (by decide) rfl ?_
  intro p e s m args below meth c s₁ B hml hv
  obtain ⟨rfl, hsz, hG, hP, hD0⟩ := hv
  have hx := B.exec
  have hb := B.bytes
  have hr := B.returns
  have hts : ∀ w ∈ wsL_law, w.before _ s = true := fun w h => atoms_spec (ws := (ws_ yX4_thinOut cX4_thinOut 6 none)) B.pre w (List.mem_cons_of_mem _ h)
  have hown : s.vm.findClass RX4 = some m.cls := findClass_of_methodNamed B.named
  have hlk := B.notSynchronized
  have hC : CallFix p m c cX4_thinOut 6 s _ wsL_law RX4 := ⟨hx, hb, hml, hown, hts⟩
  subst hsz
  have hD := hD0.self (sz := s.heap.size)
  generalize hAe : va_A [oO t 4 [.ref r1, .ref r2, .ref r3], oO r1 2 [.ref a1, .int (nI sz)], oO r2 2 [.ref a2, .int (nI sz)], oO r3 2 [.ref a3, .int (nI sz)], aI D a1 16 ft, aI D a2 16 fv, aI D a3 16 fe] s.heap.size = A at hD ⊢
  have hA : ∀ q : Nat, s.heap.size ≤ q → A q := fun q h => by rw [← hAe]; exact Or.inr h
  have hS : va_S A s.heap s.heap [] := va_S.rf
  obtain ⟨H, hHe⟩ : ∃ H, H = s.heap := ⟨_, rfl⟩
  rw [← hHe] at hP
  have hS : va_S A s.heap H [] := by rw [hHe]; exact hS
  have hl := lv_entry ([.ref t, .int tol]) (n := 6) (Nat.le_of_ble_eq_true rfl)
  rw [lg_entry_eq]
  generalize (lg_sl ([.ref t, .int tol]) ++ List.replicate (6 - (lg_sl ([.ref t, .int tol])).length) Slot.unset).toArray = ls at hl ⊢
  have hl : lv_has ls 6 [(0, .ref t), (1, .int tol)] := hl
  rw [← hHe]
  refine lv_aload_n hx hb dX4_thinOut_0 rfl (lv_at hl 0 rfl) ?_
  refine va_get (D := D) (ci := 4) (v := .ref r1) (C := RX4) (T := TX4) (N := 3) hx hb hts inlX4 hown hG.K hP 0 rfl rfl 0 (by decide) (hts _ mF_X4_14) (fun _ h9 => h9) rfl dX4_thinOut_1 ?_
  have hP9 := hP.sub (ws' := [oO r1 2 [.ref a1, .int (nI sz)], aI D a1 16 ft]) [1, 4] rfl
  refine vp_callSi (pV (rest := []) (qc := (RX2, TX2, 2)) [] 0 hC (c_size l D (r := r1) (a := a1) (sz := sz) (n := 16) (f := ft) ) rfl (hP 1 _ rfl) (gV mM_X4_26 mI_X2_size mS_X2_size mN_X2 mC_X2_size) (by decide +kernel) rfl rfl ⟨Nat.le_of_ble_eq_true rfl, Nat.le_of_ble_eq_true rfl⟩ hG hP9 rfl hl.1 rfl (Nat.le_of_ble_eq_true rfl) dX4_thinOut_4 ⟨Nat.le_of_ble_eq_true rfl, Nat.le_of_ble_eq_true rfl⟩) (fun r4 h4 => ?_)
  obtain rfl : r4 = (nI sz) := h4
  refine lv_istore_n (lv' := [(2, .int (nI sz)), (0, .ref t), (1, .int tol)]) hx hb dX4_thinOut_7 rfl hl (by decide) rfl (fun ls hl => ?_)
  refine lv_iload_n hx hb dX4_thinOut_8 rfl (lv_at hl 0 rfl) ?_
  refine lv_iconst (v := 3) hx hb dX4_thinOut_9 (by decide) ?_
  refine lv_icmp_ge (tgt := 14) hx hb dX4_thinOut_10 (by decide) (fun _ => ?_) (fun h9 => absurd ((nI_leI (a := 3) (b := sz) (by omega) (by omega)).mpr (by omega)) h9)
  refine lv_iconst (v := 1) hx hb dX4_thinOut_14 (by decide) ?_
  refine lv_istore_n (lv' := [(3, .int 1), (2, .int (nI sz)), (0, .ref t), (1, .int tol)]) hx hb dX4_thinOut_15 rfl hl (by decide) rfl (fun ls hl => ?_)
  refine lv_iconst (v := 0) hx hb dX4_thinOut_16 (by decide) ?_
  refine lv_istore (lv' := [(4, .int 0), (3, .int 1), (2, .int (nI sz)), (0, .ref t), (1, .int tol)]) hx hb dX4_thinOut_17 hl (by decide) rfl (fun ls hl => ?_)
  refine lv_iconst (v := 1) hx hb dX4_thinOut_19 (by decide) ?_
  refine lv_istore (lv' := [(5, .int 1), (4, .int 0), (3, .int 1), (2, .int (nI sz)), (0, .ref t), (1, .int tol)]) hx hb dX4_thinOut_20 hl (by decide) rfl (fun ls hl => ?_)
  have loop22 : ∀ (d9 : Nat) (i : Nat) (left : Nat) (last : Nat) (g : Nat → Nat), (sz - i) < d9 → (1 ≤ i) → (i + 1 ≤ sz) → (thS (nearP ft fv fe tol) (i - 1) = (left, last, g)) → (1 ≤ left) → (left ≤ i) → (last < i) → (∀ k, last ≤ k → k < left → g k = k) → ∀ (H : Heap) (locs : List Loc) (ls : Array Slot), va_P D cls [oO t 4 [.ref r1, .ref r2, .ref r3], oO r1 2 [.ref a1, .int (nI sz)], oO r2 2 [.ref a2, .int (nI sz)], oO r3 2 [.ref a3, .int (nI sz)], aI D a1 16 (thF ft g left), aI D a2 16 (thF fv g left), aI D a3 16 (thF fe g left)] H → va_D A [oO t 4 [.ref r1, .ref r2, .ref r3], oO r1 2 [.ref a1, .int (nI sz)], oO r2 2 [.ref a2, .int (nI sz)], oO r3 2 [.ref a3, .int (nI sz)], aI D a1 16 (thF ft g left), aI D a2 16 (thF fv g left), aI D a3 16 (thF fe g left)] → va_S A s.heap H locs → lv_has ls 6 [(0, .ref t), (1, .int tol), (2, .int (nI sz)), (3, .int (nI left)), (4, .int (nI last)), (5, .int (nI i))] → W p l e ({ frames := 4, cells := 0, slots := 0, locals := 104 } : Room) s m ([.ref t, .int tol] : List Value).toArray below meth c H locs 0 0 (MQ below (va_Qv (fun _ => True) (AT D A (fun _ : Unit => [oO t 4 [.ref r1, .ref r2, .ref r3], oO r1 2 [.ref a1, .int (nI (thN (nearP ft fv fe tol) sz))], oO r2 2 [.ref a2, .int (nI (thN (nearP ft fv fe tol) sz))], oO r3 2 [.ref a3, .int (nI (thN (nearP ft fv fe tol) sz))], aI D a1 16 (thF ft (thI (nearP ft fv fe tol) sz) (thN (nearP ft fv fe tol) sz)), aI D a2 16 (thF fv (thI (nearP ft fv fe tol) sz) (thN (nearP ft fv fe tol) sz)), aI D a3 16 (thF fe (thI (nearP ft fv fe tol) sz) (thN (nearP ft fv fe tol) sz))])) A) ([.ref t, .int tol] : List Value).toArray s 0 0 A) (F0 m 22 ls []) := by
    intro d9
    induction d9 with
    | zero => intro i left last g hd; exact absurd hd (Nat.not_lt_zero _)
    | succ d9 ih22 =>
      intro i left last g hd22 hi1 hi2 hst hl1 hl2 hl3 hg H locs ls hP hD hS hl
      refine lv_iload hx hb dX4_thinOut_22 (lv_at hl 5 rfl) ?_
      refine lv_iload_n hx hb dX4_thinOut_24 rfl (lv_at hl 2 rfl) ?_
      refine lv_iconst (v := 1) hx hb dX4_thinOut_25 (by decide) ?_
      refine lv_isub hx hb dX4_thinOut_26 ?_
      refine tpi (y := nI (sz - 1)) (pk_sub (a := sz) (b := 1) (by omega)) ?_
      refine lv_icmp_ge (tgt := 64) hx hb dX4_thinOut_27 (by decide) (fun c27 => ?_) (fun c27 => ?_)
      · skip
        have n27 := (nI_leI (a := sz - 1) (b := i) (by omega) (by omega)).mp c27
        refine lv_aload_n hx hb dX4_thinOut_64 rfl (lv_at hl 0 rfl) ?_
        refine lv_iload_n hx hb dX4_thinOut_65 rfl (lv_at hl 2 rfl) ?_
        refine lv_iconst (v := 1) hx hb dX4_thinOut_66 (by decide) ?_
        refine lv_isub hx hb dX4_thinOut_67 ?_
        refine tpi (y := nI (sz - 1)) (pk_sub (a := sz) (b := 1) (by omega)) ?_
        refine lv_iload_n hx hb dX4_thinOut_68 rfl (lv_at hl 3 rfl) ?_
        have hP9 := hP.sub (ws' := [oO t 4 [.ref r1, .ref r2, .ref r3], oO r1 2 [.ref a1, .int (nI sz)], oO r2 2 [.ref a2, .int (nI sz)], oO r3 2 [.ref a3, .int (nI sz)], aI D a1 16 (thF ft g left), aI D a2 16 (thF fv g left), aI D a3 16 (thF fe g left)]) [0, 1, 2, 3, 4, 5, 6] rfl
        have hD9 := (hD.sub (ws' := [oO t 4 [.ref r1, .ref r2, .ref r3], oO r1 2 [.ref a1, .int (nI sz)], oO r2 2 [.ref a2, .int (nI sz)], oO r3 2 [.ref a3, .int (nI sz)], aI D a1 16 (thF ft g left), aI D a2 16 (thF fv g left), aI D a3 16 (thF fe g left)]) [0, 1, 2, 3, 4, 5, 6] (by decide) rfl).weaken (B := fun _ => True) (fun _ _ _ _ => trivial)
        refine kv (wr := []) (rV (rest := []) (qc := (RX4, TX4, 3)) [.int (nI (sz - 1)), .int (nI left)] 2 0 0 hC (c_moveKey l D (t := t) (i := sz - 1) (j := left) (r1 := r1) (r2 := r2) (r3 := r3) (a1 := a1) (sz := sz) (a2 := a2) (a3 := a3) (ft := thF ft g left) (fv := thF fv g left) (fe := thF fe g left) (hz0 := H.size) (by omega) (by omega) (by omega)) rfl (hP 0 _ rfl) (gV mM_X4_83 mI_X4_moveKey mS_X4_moveKey mN_X4 mC_X4_moveKey) (by decide +kernel) rfl rfl ⟨Nat.le_of_ble_eq_true rfl, Nat.le_of_ble_eq_true rfl⟩ hG hP9 hD9 rfl hl.1 rfl (Nat.le_of_ble_eq_true rfl) dX4_thinOut_69 ⟨Nat.le_of_ble_eq_true rfl, Nat.le_of_ble_eq_true rfl⟩) hP hD hS hA [0, 1, 2, 3, 4, 5, 6] [] rfl rfl (by decide) (by decide) (fun u69 H locs h69 hP hD hS hz hfr => ?_)
        have hP : va_P D cls [oO t 4 [.ref r1, .ref r2, .ref r3], oO r1 2 [.ref a1, .int (nI sz)], oO r2 2 [.ref a2, .int (nI sz)], oO r3 2 [.ref a3, .int (nI sz)], aI D a1 16 (upd (thF ft g left) left ((thF ft g left) (sz - 1))), aI D a2 16 (upd (thF fv g left) left ((thF fv g left) (sz - 1))), aI D a3 16 (upd (thF fe g left) left ((thF fe g left) (sz - 1)))] H := hP
        have hD : va_D A [oO t 4 [.ref r1, .ref r2, .ref r3], oO r1 2 [.ref a1, .int (nI sz)], oO r2 2 [.ref a2, .int (nI sz)], oO r3 2 [.ref a3, .int (nI sz)], aI D a1 16 (upd (thF ft g left) left ((thF ft g left) (sz - 1))), aI D a2 16 (upd (thF fv g left) left ((thF fv g left) (sz - 1))), aI D a3 16 (upd (thF fe g left) left ((thF fe g left) (sz - 1)))] := hD
        refine lv_aload_n hx hb dX4_thinOut_72 rfl (lv_at hl 0 rfl) ?_
        refine va_get (D := D) (ci := 4) (v := .ref r1) (C := RX4) (T := TX4) (N := 3) hx hb hts inlX4 hown hG.K hP 0 rfl rfl 0 (by decide) (hts _ mF_X4_14) (fun _ h9 => h9) rfl dX4_thinOut_73 ?_
        refine lv_iload_n hx hb dX4_thinOut_76 rfl (lv_at hl 3 rfl) ?_
        refine lv_iconst (v := 1) hx hb dX4_thinOut_77 (by decide) ?_
        refine lv_iadd hx hb dX4_thinOut_78 ?_
        refine tpi (y := nI (left + 1)) (nI_add left 1) ?_
        have hP9 := hP.sub (ws' := [oO r1 2 [.ref a1, .int (nI sz)], aI D a1 16 (upd (thF ft g left) left ((thF ft g left) (sz - 1)))]) [1, 4] rfl
        have hD9 := (hD.sub (ws' := [oO r1 2 [.ref a1, .int (nI sz)], aI D a1 16 (upd (thF ft g left) left ((thF ft g left) (sz - 1)))]) [1, 4] (by decide) rfl).weaken (B := fun _ => True) (fun _ _ _ _ => trivial)
        refine kv (wr := [oO t 4 [.ref r1, .ref r2, .ref r3], oO r2 2 [.ref a2, .int (nI sz)], oO r3 2 [.ref a3, .int (nI sz)], aI D a2 16 (upd (thF fv g left) left ((thF fv g left) (sz - 1))), aI D a3 16 (upd (thF fe g left) left ((thF fe g left) (sz - 1)))]) (rV (rest := []) (qc := (RX2, TX2, 2)) [.int (nI (left + 1))] 1 0 0 hC (c_shorten l D (r := r1) (j := left + 1) (a := a1) (sz := sz) (n := 16) (f := upd (thF ft g left) left ((thF ft g left) (sz - 1))) (hz0 := H.size) (by omega) (by omega) (by omega)) rfl (hP 1 _ rfl) (gV mM_X4_86 mI_X2_shorten mS_X2_shorten mN_X2 mC_X2_shorten) (by decide +kernel) rfl rfl ⟨Nat.le_of_ble_eq_true rfl, Nat.le_of_ble_eq_true rfl⟩ hG hP9 hD9 rfl hl.1 rfl (Nat.le_of_ble_eq_true rfl) dX4_thinOut_79 ⟨Nat.le_of_ble_eq_true rfl, Nat.le_of_ble_eq_true rfl⟩) hP hD hS hA [1, 4] [0, 2, 3, 5, 6] rfl rfl (by decide) (by decide) (fun u79 H locs h79 hP hD hS hz hfr => ?_)
        have hP : va_P D cls [oO t 4 [.ref r1, .ref r2, .ref r3], oO r2 2 [.ref a2, .int (nI sz)], oO r3 2 [.ref a3, .int (nI sz)], aI D a2 16 (upd (thF fv g left) left ((thF fv g left) (sz - 1))), aI D a3 16 (upd (thF fe g left) left ((thF fe g left) (sz - 1))), oO r1 2 [.ref a1, .int (nI (min (left + 1) sz))], aI D a1 16 (upd (thF ft g left) left ((thF ft g left) (sz - 1)))] H := hP
        have hD : va_D A [oO t 4 [.ref r1, .ref r2, .ref r3], oO r2 2 [.ref a2, .int (nI sz)], oO r3 2 [.ref a3, .int (nI sz)], aI D a2 16 (upd (thF fv g left) left ((thF fv g left) (sz - 1))), aI D a3 16 (upd (thF fe g left) left ((thF fe g left) (sz - 1))), oO r1 2 [.ref a1, .int (nI (min (left + 1) sz))], aI D a1 16 (upd (thF ft g left) left ((thF ft g left) (sz - 1)))] := hD
        refine lv_aload_n hx hb dX4_thinOut_82 rfl (lv_at hl 0 rfl) ?_
        refine va_get (D := D) (ci := 4) (v := .ref r2) (C := RX4) (T := TX4) (N := 3) hx hb hts inlX4 hown hG.K hP 0 rfl rfl 1 (by decide) (hts _ mF_X4_20) (fun _ h9 => h9) rfl dX4_thinOut_83 ?_
        refine lv_iload_n hx hb dX4_thinOut_86 rfl (lv_at hl 3 rfl) ?_
        refine lv_iconst (v := 1) hx hb dX4_thinOut_87 (by decide) ?_
        refine lv_iadd hx hb dX4_thinOut_88 ?_
        refine tpi (y := nI (left + 1)) (nI_add left 1) ?_
        have hP9 := hP.sub (ws' := [oO r2 2 [.ref a2, .int (nI sz)], aI D a2 16 (upd (thF fv g left) left ((thF fv g left) (sz - 1)))]) [1, 3] rfl
        have hD9 := (hD.sub (ws' := [oO r2 2 [.ref a2, .int (nI sz)], aI D a2 16 (upd (thF fv g left) left ((thF fv g left) (sz - 1)))]) [1, 3] (by decide) rfl).weaken (B := fun _ => True) (fun _ _ _ _ => trivial)
        refine kv (wr := [oO t 4 [.ref r1, .ref r2, .ref r3], oO r3 2 [.ref a3, .int (nI sz)], aI D a3 16 (upd (thF fe g left) left ((thF fe g left) (sz - 1))), oO r1 2 [.ref a1, .int (nI (min (left + 1) sz))], aI D a1 16 (upd (thF ft g left) left ((thF ft g left) (sz - 1)))]) (rV (rest := []) (qc := (RX2, TX2, 2)) [.int (nI (left + 1))] 1 0 0 hC (c_shorten l D (r := r2) (j := left + 1) (a := a2) (sz := sz) (n := 16) (f := upd (thF fv g left) left ((thF fv g left) (sz - 1))) (hz0 := H.size) (by omega) (by omega) (by omega)) rfl (hP 1 _ rfl) (gV mM_X4_86 mI_X2_shorten mS_X2_shorten mN_X2 mC_X2_shorten) (by decide +kernel) rfl rfl ⟨Nat.le_of_ble_eq_true rfl, Nat.le_of_ble_eq_true rfl⟩ hG hP9 hD9 rfl hl.1 rfl (Nat.le_of_ble_eq_true rfl) dX4_thinOut_89 ⟨Nat.le_of_ble_eq_true rfl, Nat.le_of_ble_eq_true rfl⟩) hP hD hS hA [1, 3] [0, 2, 4, 5, 6] rfl rfl (by decide) (by decide) (fun u89 H locs h89 hP hD hS hz hfr => ?_)
        have hP : va_P D cls [oO t 4 [.ref r1, .ref r2, .ref r3], oO r3 2 [.ref a3, .int (nI sz)], aI D a3 16 (upd (thF fe g left) left ((thF fe g left) (sz - 1))), oO r1 2 [.ref a1, .int (nI (min (left + 1) sz))], aI D a1 16 (upd (thF ft g left) left ((thF ft g left) (sz - 1))), oO r2 2 [.ref a2, .int (nI (min (left + 1) sz))], aI D a2 16 (upd (thF fv g left) left ((thF fv g left) (sz - 1)))] H := hP
        have hD : va_D A [oO t 4 [.ref r1, .ref r2, .ref r3], oO r3 2 [.ref a3, .int (nI sz)], aI D a3 16 (upd (thF fe g left) left ((thF fe g left) (sz - 1))), oO r1 2 [.ref a1, .int (nI (min (left + 1) sz))], aI D a1 16 (upd (thF ft g left) left ((thF ft g left) (sz - 1))), oO r2 2 [.ref a2, .int (nI (min (left + 1) sz))], aI D a2 16 (upd (thF fv g left) left ((thF fv g left) (sz - 1)))] := hD
        refine lv_aload_n hx hb dX4_thinOut_92 rfl (lv_at hl 0 rfl) ?_
        refine va_get (D := D) (ci := 4) (v := .ref r3) (C := RX4) (T := TX4) (N := 3) hx hb hts inlX4 hown hG.K hP 0 rfl rfl 2 (by decide) (hts _ mF_X4_23) (fun _ h9 => h9) rfl dX4_thinOut_93 ?_
        refine lv_iload_n hx hb dX4_thinOut_96 rfl (lv_at hl 3 rfl) ?_
        refine lv_iconst (v := 1) hx hb dX4_thinOut_97 (by decide) ?_
        refine lv_iadd hx hb dX4_thinOut_98 ?_
        refine tpi (y := nI (left + 1)) (nI_add left 1) ?_
        have hP9 := hP.sub (ws' := [oO r3 2 [.ref a3, .int (nI sz)], aI D a3 16 (upd (thF fe g left) left ((thF fe g left) (sz - 1)))]) [1, 2] rfl
        have hD9 := (hD.sub (ws' := [oO r3 2 [.ref a3, .int (nI sz)], aI D a3 16 (upd (thF fe g left) left ((thF fe g left) (sz - 1)))]) [1, 2] (by decide) rfl).weaken (B := fun _ => True) (fun _ _ _ _ => trivial)
        refine kv (wr := [oO t 4 [.ref r1, .ref r2, .ref r3], oO r1 2 [.ref a1, .int (nI (min (left + 1) sz))], aI D a1 16 (upd (thF ft g left) left ((thF ft g left) (sz - 1))), oO r2 2 [.ref a2, .int (nI (min (left + 1) sz))], aI D a2 16 (upd (thF fv g left) left ((thF fv g left) (sz - 1)))]) (rV (rest := []) (qc := (RX2, TX2, 2)) [.int (nI (left + 1))] 1 0 0 hC (c_shorten l D (r := r3) (j := left + 1) (a := a3) (sz := sz) (n := 16) (f := upd (thF fe g left) left ((thF fe g left) (sz - 1))) (hz0 := H.size) (by omega) (by omega) (by omega)) rfl (hP 1 _ rfl) (gV mM_X4_86 mI_X2_shorten mS_X2_shorten mN_X2 mC_X2_shorten) (by decide +kernel) rfl rfl ⟨Nat.le_of_ble_eq_true rfl, Nat.le_of_ble_eq_true rfl⟩ hG hP9 hD9 rfl hl.1 rfl (Nat.le_of_ble_eq_true rfl) dX4_thinOut_99 ⟨Nat.le_of_ble_eq_true rfl, Nat.le_of_ble_eq_true rfl⟩) hP hD hS hA [1, 2] [0, 3, 4, 5, 6] rfl rfl (by decide) (by decide) (fun u99 H locs h99 hP hD hS hz hfr => ?_)
        have hP : va_P D cls [oO t 4 [.ref r1, .ref r2, .ref r3], oO r1 2 [.ref a1, .int (nI (min (left + 1) sz))], aI D a1 16 (upd (thF ft g left) left ((thF ft g left) (sz - 1))), oO r2 2 [.ref a2, .int (nI (min (left + 1) sz))], aI D a2 16 (upd (thF fv g left) left ((thF fv g left) (sz - 1))), oO r3 2 [.ref a3, .int (nI (min (left + 1) sz))], aI D a3 16 (upd (thF fe g left) left ((thF fe g left) (sz - 1)))] H := hP
        have hD : va_D A [oO t 4 [.ref r1, .ref r2, .ref r3], oO r1 2 [.ref a1, .int (nI (min (left + 1) sz))], aI D a1 16 (upd (thF ft g left) left ((thF ft g left) (sz - 1))), oO r2 2 [.ref a2, .int (nI (min (left + 1) sz))], aI D a2 16 (upd (thF fv g left) left ((thF fv g left) (sz - 1))), oO r3 2 [.ref a3, .int (nI (min (left + 1) sz))], aI D a3 16 (upd (thF fe g left) left ((thF fe g left) (sz - 1)))] := hD
        have hE : thS (nearP ft fv fe tol) (sz - 2) = (left, last, g) := by
          rw [← hst]
          congr 1
          omega
        have hcv1 : (thF ft (thI (nearP ft fv fe tol) sz) (thN (nearP ft fv fe tol) sz)) = (upd (thF ft g left) left ((thF ft g left) (sz - 1))) := by
          rw [thN, hE, thF_push (by omega)]
          unfold thI
          rw [hE]
        have hP := Eq.mpr (congrArg (fun z9 => va_P D cls [oO t 4 [.ref r1, .ref r2, .ref r3], oO r1 2 [.ref a1, .int (nI (min (left + 1) sz))], aI D a1 16 z9, oO r2 2 [.ref a2, .int (nI (min (left + 1) sz))], aI D a2 16 (upd (thF fv g left) left ((thF fv g left) (sz - 1))), oO r3 2 [.ref a3, .int (nI (min (left + 1) sz))], aI D a3 16 (upd (thF fe g left) left ((thF fe g left) (sz - 1)))] H) hcv1) hP
        have hD := Eq.mpr (congrArg (fun z9 => va_D A [oO t 4 [.ref r1, .ref r2, .ref r3], oO r1 2 [.ref a1, .int (nI (min (left + 1) sz))], aI D a1 16 z9, oO r2 2 [.ref a2, .int (nI (min (left + 1) sz))], aI D a2 16 (upd (thF fv g left) left ((thF fv g left) (sz - 1))), oO r3 2 [.ref a3, .int (nI (min (left + 1) sz))], aI D a3 16 (upd (thF fe g left) left ((thF fe g left) (sz - 1)))]) hcv1) hD
        have hP : va_P D cls [oO t 4 [.ref r1, .ref r2, .ref r3], oO r1 2 [.ref a1, .int (nI (min (left + 1) sz))], aI D a1 16 (thF ft (thI (nearP ft fv fe tol) sz) (thN (nearP ft fv fe tol) sz)), oO r2 2 [.ref a2, .int (nI (min (left + 1) sz))], aI D a2 16 (upd (thF fv g left) left ((thF fv g left) (sz - 1))), oO r3 2 [.ref a3, .int (nI (min (left + 1) sz))], aI D a3 16 (upd (thF fe g left) left ((thF fe g left) (sz - 1)))] H := hP
        have hD : va_D A [oO t 4 [.ref r1, .ref r2, .ref r3], oO r1 2 [.ref a1, .int (nI (min (left + 1) sz))], aI D a1 16 (thF ft (thI (nearP ft fv fe tol) sz) (thN (nearP ft fv fe tol) sz)), oO r2 2 [.ref a2, .int (nI (min (left + 1) sz))], aI D a2 16 (upd (thF fv g left) left ((thF fv g left) (sz - 1))), oO r3 2 [.ref a3, .int (nI (min (left + 1) sz))], aI D a3 16 (upd (thF fe g left) left ((thF fe g left) (sz - 1)))] := hD
        have hcv2 : (thF fv (thI (nearP ft fv fe tol) sz) (thN (nearP ft fv fe tol) sz)) = (upd (thF fv g left) left ((thF fv g left) (sz - 1))) := by
          rw [thN, hE, thF_push (by omega)]
          unfold thI
          rw [hE]
        have hP := Eq.mpr (congrArg (fun z9 => va_P D cls [oO t 4 [.ref r1, .ref r2, .ref r3], oO r1 2 [.ref a1, .int (nI (min (left + 1) sz))], aI D a1 16 (thF ft (thI (nearP ft fv fe tol) sz) (thN (nearP ft fv fe tol) sz)), oO r2 2 [.ref a2, .int (nI (min (left + 1) sz))], aI D a2 16 z9, oO r3 2 [.ref a3, .int (nI (min (left + 1) sz))], aI D a3 16 (upd (thF fe g left) left ((thF fe g left) (sz - 1)))] H) hcv2) hP
        have hD := Eq.mpr (congrArg (fun z9 => va_D A [oO t 4 [.ref r1, .ref r2, .ref r3], oO r1 2 [.ref a1, .int (nI (min (left + 1) sz))], aI D a1 16 (thF ft (thI (nearP ft fv fe tol) sz) (thN (nearP ft fv fe tol) sz)), oO r2 2 [.ref a2, .int (nI (min (left + 1) sz))], aI D a2 16 z9, oO r3 2 [.ref a3, .int (nI (min (left + 1) sz))], aI D a3 16 (upd (thF fe g left) left ((thF fe g left) (sz - 1)))]) hcv2) hD
        have hP : va_P D cls [oO t 4 [.ref r1, .ref r2, .ref r3], oO r1 2 [.ref a1, .int (nI (min (left + 1) sz))], aI D a1 16 (thF ft (thI (nearP ft fv fe tol) sz) (thN (nearP ft fv fe tol) sz)), oO r2 2 [.ref a2, .int (nI (min (left + 1) sz))], aI D a2 16 (thF fv (thI (nearP ft fv fe tol) sz) (thN (nearP ft fv fe tol) sz)), oO r3 2 [.ref a3, .int (nI (min (left + 1) sz))], aI D a3 16 (upd (thF fe g left) left ((thF fe g left) (sz - 1)))] H := hP
        have hD : va_D A [oO t 4 [.ref r1, .ref r2, .ref r3], oO r1 2 [.ref a1, .int (nI (min (left + 1) sz))], aI D a1 16 (thF ft (thI (nearP ft fv fe tol) sz) (thN (nearP ft fv fe tol) sz)), oO r2 2 [.ref a2, .int (nI (min (left + 1) sz))], aI D a2 16 (thF fv (thI (nearP ft fv fe tol) sz) (thN (nearP ft fv fe tol) sz)), oO r3 2 [.ref a3, .int (nI (min (left + 1) sz))], aI D a3 16 (upd (thF fe g left) left ((thF fe g left) (sz - 1)))] := hD
        have hcv3 : (thF fe (thI (nearP ft fv fe tol) sz) (thN (nearP ft fv fe tol) sz)) = (upd (thF fe g left) left ((thF fe g left) (sz - 1))) := by
          rw [thN, hE, thF_push (by omega)]
          unfold thI
          rw [hE]
        have hP := Eq.mpr (congrArg (fun z9 => va_P D cls [oO t 4 [.ref r1, .ref r2, .ref r3], oO r1 2 [.ref a1, .int (nI (min (left + 1) sz))], aI D a1 16 (thF ft (thI (nearP ft fv fe tol) sz) (thN (nearP ft fv fe tol) sz)), oO r2 2 [.ref a2, .int (nI (min (left + 1) sz))], aI D a2 16 (thF fv (thI (nearP ft fv fe tol) sz) (thN (nearP ft fv fe tol) sz)), oO r3 2 [.ref a3, .int (nI (min (left + 1) sz))], aI D a3 16 z9] H) hcv3) hP
        have hD := Eq.mpr (congrArg (fun z9 => va_D A [oO t 4 [.ref r1, .ref r2, .ref r3], oO r1 2 [.ref a1, .int (nI (min (left + 1) sz))], aI D a1 16 (thF ft (thI (nearP ft fv fe tol) sz) (thN (nearP ft fv fe tol) sz)), oO r2 2 [.ref a2, .int (nI (min (left + 1) sz))], aI D a2 16 (thF fv (thI (nearP ft fv fe tol) sz) (thN (nearP ft fv fe tol) sz)), oO r3 2 [.ref a3, .int (nI (min (left + 1) sz))], aI D a3 16 z9]) hcv3) hD
        have hP : va_P D cls [oO t 4 [.ref r1, .ref r2, .ref r3], oO r1 2 [.ref a1, .int (nI (min (left + 1) sz))], aI D a1 16 (thF ft (thI (nearP ft fv fe tol) sz) (thN (nearP ft fv fe tol) sz)), oO r2 2 [.ref a2, .int (nI (min (left + 1) sz))], aI D a2 16 (thF fv (thI (nearP ft fv fe tol) sz) (thN (nearP ft fv fe tol) sz)), oO r3 2 [.ref a3, .int (nI (min (left + 1) sz))], aI D a3 16 (thF fe (thI (nearP ft fv fe tol) sz) (thN (nearP ft fv fe tol) sz))] H := hP
        have hD : va_D A [oO t 4 [.ref r1, .ref r2, .ref r3], oO r1 2 [.ref a1, .int (nI (min (left + 1) sz))], aI D a1 16 (thF ft (thI (nearP ft fv fe tol) sz) (thN (nearP ft fv fe tol) sz)), oO r2 2 [.ref a2, .int (nI (min (left + 1) sz))], aI D a2 16 (thF fv (thI (nearP ft fv fe tol) sz) (thN (nearP ft fv fe tol) sz)), oO r3 2 [.ref a3, .int (nI (min (left + 1) sz))], aI D a3 16 (thF fe (thI (nearP ft fv fe tol) sz) (thN (nearP ft fv fe tol) sz))] := hD
        have hcv4 : (.int (nI (thN (nearP ft fv fe tol) sz)) : Value) = (.int (nI (min (left + 1) sz))) := by rw [thN, hE, Nat.min_eq_left (by omega)]
        have hP := Eq.mpr (congrArg (fun z9 => va_P D cls [oO t 4 [.ref r1, .ref r2, .ref r3], oO r1 2 [.ref a1, z9], aI D a1 16 (thF ft (thI (nearP ft fv fe tol) sz) (thN (nearP ft fv fe tol) sz)), oO r2 2 [.ref a2, .int (nI (min (left + 1) sz))], aI D a2 16 (thF fv (thI (nearP ft fv fe tol) sz) (thN (nearP ft fv fe tol) sz)), oO r3 2 [.ref a3, .int (nI (min (left + 1) sz))], aI D a3 16 (thF fe (thI (nearP ft fv fe tol) sz) (thN (nearP ft fv fe tol) sz))] H) hcv4) hP
        have hD := Eq.mpr (congrArg (fun z9 => va_D A [oO t 4 [.ref r1, .ref r2, .ref r3], oO r1 2 [.ref a1, z9], aI D a1 16 (thF ft (thI (nearP ft fv fe tol) sz) (thN (nearP ft fv fe tol) sz)), oO r2 2 [.ref a2, .int (nI (min (left + 1) sz))], aI D a2 16 (thF fv (thI (nearP ft fv fe tol) sz) (thN (nearP ft fv fe tol) sz)), oO r3 2 [.ref a3, .int (nI (min (left + 1) sz))], aI D a3 16 (thF fe (thI (nearP ft fv fe tol) sz) (thN (nearP ft fv fe tol) sz))]) hcv4) hD
        have hP : va_P D cls [oO t 4 [.ref r1, .ref r2, .ref r3], oO r1 2 [.ref a1, .int (nI (thN (nearP ft fv fe tol) sz))], aI D a1 16 (thF ft (thI (nearP ft fv fe tol) sz) (thN (nearP ft fv fe tol) sz)), oO r2 2 [.ref a2, .int (nI (min (left + 1) sz))], aI D a2 16 (thF fv (thI (nearP ft fv fe tol) sz) (thN (nearP ft fv fe tol) sz)), oO r3 2 [.ref a3, .int (nI (min (left + 1) sz))], aI D a3 16 (thF fe (thI (nearP ft fv fe tol) sz) (thN (nearP ft fv fe tol) sz))] H := hP
        have hD : va_D A [oO t 4 [.ref r1, .ref r2, .ref r3], oO r1 2 [.ref a1, .int (nI (thN (nearP ft fv fe tol) sz))], aI D a1 16 (thF ft (thI (nearP ft fv fe tol) sz) (thN (nearP ft fv fe tol) sz)), oO r2 2 [.ref a2, .int (nI (min (left + 1) sz))], aI D a2 16 (thF fv (thI (nearP ft fv fe tol) sz) (thN (nearP ft fv fe tol) sz)), oO r3 2 [.ref a3, .int (nI (min (left + 1) sz))], aI D a3 16 (thF fe (thI (nearP ft fv fe tol) sz) (thN (nearP ft fv fe tol) sz))] := hD
        have hcv5 : (.int (nI (thN (nearP ft fv fe tol) sz)) : Value) = (.int (nI (min (left + 1) sz))) := by rw [thN, hE, Nat.min_eq_left (by omega)]
        have hP := Eq.mpr (congrArg (fun z9 => va_P D cls [oO t 4 [.ref r1, .ref r2, .ref r3], oO r1 2 [.ref a1, .int (nI (thN (nearP ft fv fe tol) sz))], aI D a1 16 (thF ft (thI (nearP ft fv fe tol) sz) (thN (nearP ft fv fe tol) sz)), oO r2 2 [.ref a2, z9], aI D a2 16 (thF fv (thI (nearP ft fv fe tol) sz) (thN (nearP ft fv fe tol) sz)), oO r3 2 [.ref a3, .int (nI (min (left + 1) sz))], aI D a3 16 (thF fe (thI (nearP ft fv fe tol) sz) (thN (nearP ft fv fe tol) sz))] H) hcv5) hP
        have hD := Eq.mpr (congrArg (fun z9 => va_D A [oO t 4 [.ref r1, .ref r2, .ref r3], oO r1 2 [.ref a1, .int (nI (thN (nearP ft fv fe tol) sz))], aI D a1 16 (thF ft (thI (nearP ft fv fe tol) sz) (thN (nearP ft fv fe tol) sz)), oO r2 2 [.ref a2, z9], aI D a2 16 (thF fv (thI (nearP ft fv fe tol) sz) (thN (nearP ft fv fe tol) sz)), oO r3 2 [.ref a3, .int (nI (min (left + 1) sz))], aI D a3 16 (thF fe (thI (nearP ft fv fe tol) sz) (thN (nearP ft fv fe tol) sz))]) hcv5) hD
        have hP : va_P D cls [oO t 4 [.ref r1, .ref r2, .ref r3], oO r1 2 [.ref a1, .int (nI (thN (nearP ft fv fe tol) sz))], aI D a1 16 (thF ft (thI (nearP ft fv fe tol) sz) (thN (nearP ft fv fe tol) sz)), oO r2 2 [.ref a2, .int (nI (thN (nearP ft fv fe tol) sz))], aI D a2 16 (thF fv (thI (nearP ft fv fe tol) sz) (thN (nearP ft fv fe tol) sz)), oO r3 2 [.ref a3, .int (nI (min (left + 1) sz))], aI D a3 16 (thF fe (thI (nearP ft fv fe tol) sz) (thN (nearP ft fv fe tol) sz))] H := hP
        have hD : va_D A [oO t 4 [.ref r1, .ref r2, .ref r3], oO r1 2 [.ref a1, .int (nI (thN (nearP ft fv fe tol) sz))], aI D a1 16 (thF ft (thI (nearP ft fv fe tol) sz) (thN (nearP ft fv fe tol) sz)), oO r2 2 [.ref a2, .int (nI (thN (nearP ft fv fe tol) sz))], aI D a2 16 (thF fv (thI (nearP ft fv fe tol) sz) (thN (nearP ft fv fe tol) sz)), oO r3 2 [.ref a3, .int (nI (min (left + 1) sz))], aI D a3 16 (thF fe (thI (nearP ft fv fe tol) sz) (thN (nearP ft fv fe tol) sz))] := hD
        have hcv6 : (.int (nI (thN (nearP ft fv fe tol) sz)) : Value) = (.int (nI (min (left + 1) sz))) := by rw [thN, hE, Nat.min_eq_left (by omega)]
        have hP := Eq.mpr (congrArg (fun z9 => va_P D cls [oO t 4 [.ref r1, .ref r2, .ref r3], oO r1 2 [.ref a1, .int (nI (thN (nearP ft fv fe tol) sz))], aI D a1 16 (thF ft (thI (nearP ft fv fe tol) sz) (thN (nearP ft fv fe tol) sz)), oO r2 2 [.ref a2, .int (nI (thN (nearP ft fv fe tol) sz))], aI D a2 16 (thF fv (thI (nearP ft fv fe tol) sz) (thN (nearP ft fv fe tol) sz)), oO r3 2 [.ref a3, z9], aI D a3 16 (thF fe (thI (nearP ft fv fe tol) sz) (thN (nearP ft fv fe tol) sz))] H) hcv6) hP
        have hD := Eq.mpr (congrArg (fun z9 => va_D A [oO t 4 [.ref r1, .ref r2, .ref r3], oO r1 2 [.ref a1, .int (nI (thN (nearP ft fv fe tol) sz))], aI D a1 16 (thF ft (thI (nearP ft fv fe tol) sz) (thN (nearP ft fv fe tol) sz)), oO r2 2 [.ref a2, .int (nI (thN (nearP ft fv fe tol) sz))], aI D a2 16 (thF fv (thI (nearP ft fv fe tol) sz) (thN (nearP ft fv fe tol) sz)), oO r3 2 [.ref a3, z9], aI D a3 16 (thF fe (thI (nearP ft fv fe tol) sz) (thN (nearP ft fv fe tol) sz))]) hcv6) hD
        have hP : va_P D cls [oO t 4 [.ref r1, .ref r2, .ref r3], oO r1 2 [.ref a1, .int (nI (thN (nearP ft fv fe tol) sz))], aI D a1 16 (thF ft (thI (nearP ft fv fe tol) sz) (thN (nearP ft fv fe tol) sz)), oO r2 2 [.ref a2, .int (nI (thN (nearP ft fv fe tol) sz))], aI D a2 16 (thF fv (thI (nearP ft fv fe tol) sz) (thN (nearP ft fv fe tol) sz)), oO r3 2 [.ref a3, .int (nI (thN (nearP ft fv fe tol) sz))], aI D a3 16 (thF fe (thI (nearP ft fv fe tol) sz) (thN (nearP ft fv fe tol) sz))] H := hP
        have hD : va_D A [oO t 4 [.ref r1, .ref r2, .ref r3], oO r1 2 [.ref a1, .int (nI (thN (nearP ft fv fe tol) sz))], aI D a1 16 (thF ft (thI (nearP ft fv fe tol) sz) (thN (nearP ft fv fe tol) sz)), oO r2 2 [.ref a2, .int (nI (thN (nearP ft fv fe tol) sz))], aI D a2 16 (thF fv (thI (nearP ft fv fe tol) sz) (thN (nearP ft fv fe tol) sz)), oO r3 2 [.ref a3, .int (nI (thN (nearP ft fv fe tol) sz))], aI D a3 16 (thF fe (thI (nearP ft fv fe tol) sz) (thN (nearP ft fv fe tol) sz))] := hD
        refine Wv () hx hb hr hlk ?_ (hP.sub [0, 1, 3, 5, 2, 4, 6] rfl) (hD.sub [0, 1, 3, 5, 2, 4, 6] (by decide) rfl) hS (Nat.le_of_ble_eq_true rfl) (by first | exact Nat.le_of_ble_eq_true rfl | exact Nat.le_of_eq (Nat.zero_add _)) dX4_thinOut_102
        exact trivial
      · skip
        have n27 := mt (nI_leI (a := sz - 1) (b := i) (by omega) (by omega)).mpr c27
        refine lv_aload_n hx hb dX4_thinOut_30 rfl (lv_at hl 0 rfl) ?_
        refine lv_iload hx hb dX4_thinOut_31 (lv_at hl 4 rfl) ?_
        refine lv_iload hx hb dX4_thinOut_33 (lv_at hl 5 rfl) ?_
        refine lv_iconst (v := 1) hx hb dX4_thinOut_35 (by decide) ?_
        refine lv_iadd hx hb dX4_thinOut_36 ?_
        refine tpi (y := nI (i + 1)) (nI_add i 1) ?_
        refine lv_iload_n hx hb dX4_thinOut_37 rfl (lv_at hl 1 rfl) ?_
        have hP9 := hP
        refine vp_callSi (pV (rest := []) (qc := (RX4, TX4, 3)) [.int (nI last), .int (nI (i + 1)), .int tol] 3 hC (c_isNear l D (t := t) (i := last) (j := i + 1) (tol := tol) (r1 := r1) (r2 := r2) (r3 := r3) (a1 := a1) (sz := sz) (a2 := a2) (a3 := a3) (ft := thF ft g left) (fv := thF fv g left) (fe := thF fe g left) (by omega) (by omega) (by omega) (by rw [thF_hi hg (by omega), thF_hi hg (by omega)]; exact hT.d (by omega) (by omega)) (fun k h1 h2 => by rw [thF_hi hg (by omega), thF_hi hg (by omega)]; exact hT.d (by omega) (by omega))) rfl (hP 0 _ rfl) (gV mM_X4_79 mI_X4_isNear mS_X4_isNear mN_X4 mC_X4_isNear) (by decide +kernel) rfl rfl ⟨Nat.le_of_ble_eq_true rfl, Nat.le_of_ble_eq_true rfl⟩ hG hP9 rfl hl.1 rfl (Nat.le_of_ble_eq_true rfl) dX4_thinOut_38 ⟨Nat.le_of_ble_eq_true rfl, Nat.le_of_ble_eq_true rfl⟩) (fun r38 h38 => ?_)
        rcases h38 with ⟨rfl, hb38⟩ | ⟨rfl, hb38⟩
        · skip
          have hb38 := near_congr (ft := ft) (fv := fv) (fe := fe) (by omega) (fun k h1 h2 => ⟨thF_hi hg h1, thF_hi hg h1, thF_hi hg h1⟩) hb38
          refine lv_if_ne (tgt := 58) hx hb dX4_thinOut_41 (by decide) (fun _ => ?_) (fun h9 => absurd h9 (by decide))
          refine lv_iinc (v := nI (i + 1)) (lv' := [(5, .int (nI (i + 1))), (0, .ref t), (1, .int tol), (2, .int (nI sz)), (3, .int (nI left)), (4, .int (nI last))]) hx hb dX4_thinOut_58 hl (k := 5) rfl (nI_1 _) (by decide) rfl (fun ls hl => ?_)
          refine lv_goto (tgt := 22) hx hb dX4_thinOut_61 (by decide) ?_
          exact ih22 (i + 1) left last g (by omega) (by omega) (by omega) (thS_near hi1 hst hb38) (by omega) (by omega) (by omega) (hg) _ _ _ hP hD hS (lv_sub hl [1, 2, 3, 4, 5, 0] rfl)
        · skip
          have hb38 := mt (near_congr (ft := thF ft g left) (fv := thF fv g left) (fe := thF fe g left) (ft' := ft) (fv' := fv) (fe' := fe) (tol := tol) (i := last) (j := i + 1) (by omega) (fun k h1 h2 => ⟨(thF_hi hg h1).symm, (thF_hi hg h1).symm, (thF_hi hg h1).symm⟩)) hb38
          refine lv_if_ne (tgt := 58) hx hb dX4_thinOut_41 (by decide) (fun h9 => (h9 (by decide)).elim) (fun _ => ?_)
          refine lv_aload_n hx hb dX4_thinOut_44 rfl (lv_at hl 0 rfl) ?_
          refine lv_iload hx hb dX4_thinOut_45 (lv_at hl 5 rfl) ?_
          refine lv_iload_n hx hb dX4_thinOut_47 rfl (lv_at hl 3 rfl) ?_
          have hP9 := hP.sub (ws' := [oO t 4 [.ref r1, .ref r2, .ref r3], oO r1 2 [.ref a1, .int (nI sz)], oO r2 2 [.ref a2, .int (nI sz)], oO r3 2 [.ref a3, .int (nI sz)], aI D a1 16 (thF ft g left), aI D a2 16 (thF fv g left), aI D a3 16 (thF fe g left)]) [0, 1, 2, 3, 4, 5, 6] rfl
          have hD9 := (hD.sub (ws' := [oO t 4 [.ref r1, .ref r2, .ref r3], oO r1 2 [.ref a1, .int (nI sz)], oO r2 2 [.ref a2, .int (nI sz)], oO r3 2 [.ref a3, .int (nI sz)], aI D a1 16 (thF ft g left), aI D a2 16 (thF fv g left), aI D a3 16 (thF fe g left)]) [0, 1, 2, 3, 4, 5, 6] (by decide) rfl).weaken (B := fun _ => True) (fun _ _ _ _ => trivial)
          refine kv (wr := []) (rV (rest := []) (qc := (RX4, TX4, 3)) [.int (nI i), .int (nI left)] 2 0 0 hC (c_moveKey l D (t := t) (i := i) (j := left) (r1 := r1) (r2 := r2) (r3 := r3) (a1 := a1) (sz := sz) (a2 := a2) (a3 := a3) (ft := thF ft g left) (fv := thF fv g left) (fe := thF fe g left) (hz0 := H.size) (by omega) (by omega) (by omega)) rfl (hP 0 _ rfl) (gV mM_X4_83 mI_X4_moveKey mS_X4_moveKey mN_X4 mC_X4_moveKey) (by decide +kernel) rfl rfl ⟨Nat.le_of_ble_eq_true rfl, Nat.le_of_ble_eq_true rfl⟩ hG hP9 hD9 rfl hl.1 rfl (Nat.le_of_ble_eq_true rfl) dX4_thinOut_48 ⟨Nat.le_of_ble_eq_true rfl, Nat.le_of_ble_eq_true rfl⟩) hP hD hS hA [0, 1, 2, 3, 4, 5, 6] [] rfl rfl (by decide) (by decide) (fun u48 H locs h48 hP hD hS hz hfr => ?_)
          have hP : va_P D cls [oO t 4 [.ref r1, .ref r2, .ref r3], oO r1 2 [.ref a1, .int (nI sz)], oO r2 2 [.ref a2, .int (nI sz)], oO r3 2 [.ref a3, .int (nI sz)], aI D a1 16 (upd (thF ft g left) left ((thF ft g left) i)), aI D a2 16 (upd (thF fv g left) left ((thF fv g left) i)), aI D a3 16 (upd (thF fe g left) left ((thF fe g left) i))] H := hP
          have hD : va_D A [oO t 4 [.ref r1, .ref r2, .ref r3], oO r1 2 [.ref a1, .int (nI sz)], oO r2 2 [.ref a2, .int (nI sz)], oO r3 2 [.ref a3, .int (nI sz)], aI D a1 16 (upd (thF ft g left) left ((thF ft g left) i)), aI D a2 16 (upd (thF fv g left) left ((thF fv g left) i)), aI D a3 16 (upd (thF fe g left) left ((thF fe g left) i))] := hD
          have hcv7 : (thF ft (fun k => if k = left then i else g k) (left + 1)) = (upd (thF ft g left) left ((thF ft g left) i)) := (thF_push (by omega)).symm
          have hP := Eq.mpr (congrArg (fun z9 => va_P D cls [oO t 4 [.ref r1, .ref r2, .ref r3], oO r1 2 [.ref a1, .int (nI sz)], oO r2 2 [.ref a2, .int (nI sz)], oO r3 2 [.ref a3, .int (nI sz)], aI D a1 16 z9, aI D a2 16 (upd (thF fv g left) left ((thF fv g left) i)), aI D a3 16 (upd (thF fe g left) left ((thF fe g left) i))] H) hcv7) hP
          have hD := Eq.mpr (congrArg (fun z9 => va_D A [oO t 4 [.ref r1, .ref r2, .ref r3], oO r1 2 [.ref a1, .int (nI sz)], oO r2 2 [.ref a2, .int (nI sz)], oO r3 2 [.ref a3, .int (nI sz)], aI D a1 16 z9, aI D a2 16 (upd (thF fv g left) left ((thF fv g left) i)), aI D a3 16 (upd (thF fe g left) left ((thF fe g left) i))]) hcv7) hD
          have hP : va_P D cls [oO t 4 [.ref r1, .ref r2, .ref r3], oO r1 2 [.ref a1, .int (nI sz)], oO r2 2 [.ref a2, .int (nI sz)], oO r3 2 [.ref a3, .int (nI sz)], aI D a1 16 (thF ft (fun k => if k = left then i else g k) (left + 1)), aI D a2 16 (upd (thF fv g left) left ((thF fv g left) i)), aI D a3 16 (upd (thF fe g left) left ((thF fe g left) i))] H := hP
          have hD : va_D A [oO t 4 [.ref r1, .ref r2, .ref r3], oO r1 2 [.ref a1, .int (nI sz)], oO r2 2 [.ref a2, .int (nI sz)], oO r3 2 [.ref a3, .int (nI sz)], aI D a1 16 (thF ft (fun k => if k = left then i else g k) (left + 1)), aI D a2 16 (upd (thF fv g left) left ((thF fv g left) i)), aI D a3 16 (upd (thF fe g left) left ((thF fe g left) i))] := hD
          have hcv8 : (thF fv (fun k => if k = left then i else g k) (left + 1)) = (upd (thF fv g left) left ((thF fv g left) i)) := (thF_push (by omega)).symm
          have hP := Eq.mpr (congrArg (fun z9 => va_P D cls [oO t 4 [.ref r1, .ref r2, .ref r3], oO r1 2 [.ref a1, .int (nI sz)], oO r2 2 [.ref a2, .int (nI sz)], oO r3 2 [.ref a3, .int (nI sz)], aI D a1 16 (thF ft (fun k => if k = left then i else g k) (left + 1)), aI D a2 16 z9, aI D a3 16 (upd (thF fe g left) left ((thF fe g left) i))] H) hcv8) hP
          have hD := Eq.mpr (congrArg (fun z9 => va_D A [oO t 4 [.ref r1, .ref r2, .ref r3], oO r1 2 [.ref a1, .int (nI sz)], oO r2 2 [.ref a2, .int (nI sz)], oO r3 2 [.ref a3, .int (nI sz)], aI D a1 16 (thF ft (fun k => if k = left then i else g k) (left + 1)), aI D a2 16 z9, aI D a3 16 (upd (thF fe g left) left ((thF fe g left) i))]) hcv8) hD
          have hP : va_P D cls [oO t 4 [.ref r1, .ref r2, .ref r3], oO r1 2 [.ref a1, .int (nI sz)], oO r2 2 [.ref a2, .int (nI sz)], oO r3 2 [.ref a3, .int (nI sz)], aI D a1 16 (thF ft (fun k => if k = left then i else g k) (left + 1)), aI D a2 16 (thF fv (fun k => if k = left then i else g k) (left + 1)), aI D a3 16 (upd (thF fe g left) left ((thF fe g left) i))] H := hP
          have hD : va_D A [oO t 4 [.ref r1, .ref r2, .ref r3], oO r1 2 [.ref a1, .int (nI sz)], oO r2 2 [.ref a2, .int (nI sz)], oO r3 2 [.ref a3, .int (nI sz)], aI D a1 16 (thF ft (fun k => if k = left then i else g k) (left + 1)), aI D a2 16 (thF fv (fun k => if k = left then i else g k) (left + 1)), aI D a3 16 (upd (thF fe g left) left ((thF fe g left) i))] := hD
          have hcv9 : (thF fe (fun k => if k = left then i else g k) (left + 1)) = (upd (thF fe g left) left ((thF fe g left) i)) := (thF_push (by omega)).symm
          have hP := Eq.mpr (congrArg (fun z9 => va_P D cls [oO t 4 [.ref r1, .ref r2, .ref r3], oO r1 2 [.ref a1, .int (nI sz)], oO r2 2 [.ref a2, .int (nI sz)], oO r3 2 [.ref a3, .int (nI sz)], aI D a1 16 (thF ft (fun k => if k = left then i else g k) (left + 1)), aI D a2 16 (thF fv (fun k => if k = left then i else g k) (left + 1)), aI D a3 16 z9] H) hcv9) hP
          have hD := Eq.mpr (congrArg (fun z9 => va_D A [oO t 4 [.ref r1, .ref r2, .ref r3], oO r1 2 [.ref a1, .int (nI sz)], oO r2 2 [.ref a2, .int (nI sz)], oO r3 2 [.ref a3, .int (nI sz)], aI D a1 16 (thF ft (fun k => if k = left then i else g k) (left + 1)), aI D a2 16 (thF fv (fun k => if k = left then i else g k) (left + 1)), aI D a3 16 z9]) hcv9) hD
          have hP : va_P D cls [oO t 4 [.ref r1, .ref r2, .ref r3], oO r1 2 [.ref a1, .int (nI sz)], oO r2 2 [.ref a2, .int (nI sz)], oO r3 2 [.ref a3, .int (nI sz)], aI D a1 16 (thF ft (fun k => if k = left then i else g k) (left + 1)), aI D a2 16 (thF fv (fun k => if k = left then i else g k) (left + 1)), aI D a3 16 (thF fe (fun k => if k = left then i else g k) (left + 1))] H := hP
          have hD : va_D A [oO t 4 [.ref r1, .ref r2, .ref r3], oO r1 2 [.ref a1, .int (nI sz)], oO r2 2 [.ref a2, .int (nI sz)], oO r3 2 [.ref a3, .int (nI sz)], aI D a1 16 (thF ft (fun k => if k = left then i else g k) (left + 1)), aI D a2 16 (thF fv (fun k => if k = left then i else g k) (left + 1)), aI D a3 16 (thF fe (fun k => if k = left then i else g k) (left + 1))] := hD
          refine lv_iinc (v := nI (left + 1)) (lv' := [(3, .int (nI (left + 1))), (0, .ref t), (1, .int tol), (2, .int (nI sz)), (4, .int (nI last)), (5, .int (nI i))]) hx hb dX4_thinOut_51 hl (k := 3) rfl (nI_1 _) (by decide) rfl (fun ls hl => ?_)
          refine lv_iload hx hb dX4_thinOut_54 (lv_at hl 5 rfl) ?_
          refine lv_istore (lv' := [(4, .int (nI i)), (3, .int (nI (left + 1))), (0, .ref t), (1, .int tol), (2, .int (nI sz)), (5, .int (nI i))]) hx hb dX4_thinOut_56 hl (by decide) rfl (fun ls hl => ?_)
          refine lv_iinc (v := nI (i + 1)) (lv' := [(5, .int (nI (i + 1))), (4, .int (nI i)), (3, .int (nI (left + 1))), (0, .ref t), (1, .int tol), (2, .int (nI sz))]) hx hb dX4_thinOut_58 hl (k := 5) rfl (nI_1 _) (by decide) rfl (fun ls hl => ?_)
          refine lv_goto (tgt := 22) hx hb dX4_thinOut_61 (by decide) ?_
          exact ih22 (i + 1) (left + 1) i (fun k => if k = left then i else g k) (by omega) (by omega) (by omega) (thS_far hi1 hst hb38) (by omega) (by omega) (by omega) (fun k h1 h2 => by
            have e : k = left := by omega
            subst e
            show (if k = k then i else g k) = k
            rw [if_pos rfl]
            omega) _ _ _ hP hD hS (lv_sub hl [3, 4, 5, 2, 1, 0] rfl)
  have hcv10 : (thF ft (fun _ => 0) 1) = ft := thF_1 _
  have hP := Eq.mpr (congrArg (fun z9 => va_P D cls [oO t 4 [.ref r1, .ref r2, .ref r3], oO r1 2 [.ref a1, .int (nI sz)], oO r2 2 [.ref a2, .int (nI sz)], oO r3 2 [.ref a3, .int (nI sz)], aI D a1 16 z9, aI D a2 16 fv, aI D a3 16 fe] H) hcv10) hP
  have hD := Eq.mpr (congrArg (fun z9 => va_D A [oO t 4 [.ref r1, .ref r2, .ref r3], oO r1 2 [.ref a1, .int (nI sz)], oO r2 2 [.ref a2, .int (nI sz)], oO r3 2 [.ref a3, .int (nI sz)], aI D a1 16 z9, aI D a2 16 fv, aI D a3 16 fe]) hcv10) hD
  have hP : va_P D cls [oO t 4 [.ref r1, .ref r2, .ref r3], oO r1 2 [.ref a1, .int (nI sz)], oO r2 2 [.ref a2, .int (nI sz)], oO r3 2 [.ref a3, .int (nI sz)], aI D a1 16 (thF ft (fun _ => 0) 1), aI D a2 16 fv, aI D a3 16 fe] H := hP
  have hD : va_D A [oO t 4 [.ref r1, .ref r2, .ref r3], oO r1 2 [.ref a1, .int (nI sz)], oO r2 2 [.ref a2, .int (nI sz)], oO r3 2 [.ref a3, .int (nI sz)], aI D a1 16 (thF ft (fun _ => 0) 1), aI D a2 16 fv, aI D a3 16 fe] := hD
  have hcv11 : (thF fv (fun _ => 0) 1) = fv := thF_1 _
  have hP := Eq.mpr (congrArg (fun z9 => va_P D cls [oO t 4 [.ref r1, .ref r2, .ref r3], oO r1 2 [.ref a1, .int (nI sz)], oO r2 2 [.ref a2, .int (nI sz)], oO r3 2 [.ref a3, .int (nI sz)], aI D a1 16 (thF ft (fun _ => 0) 1), aI D a2 16 z9, aI D a3 16 fe] H) hcv11) hP
  have hD := Eq.mpr (congrArg (fun z9 => va_D A [oO t 4 [.ref r1, .ref r2, .ref r3], oO r1 2 [.ref a1, .int (nI sz)], oO r2 2 [.ref a2, .int (nI sz)], oO r3 2 [.ref a3, .int (nI sz)], aI D a1 16 (thF ft (fun _ => 0) 1), aI D a2 16 z9, aI D a3 16 fe]) hcv11) hD
  have hP : va_P D cls [oO t 4 [.ref r1, .ref r2, .ref r3], oO r1 2 [.ref a1, .int (nI sz)], oO r2 2 [.ref a2, .int (nI sz)], oO r3 2 [.ref a3, .int (nI sz)], aI D a1 16 (thF ft (fun _ => 0) 1), aI D a2 16 (thF fv (fun _ => 0) 1), aI D a3 16 fe] H := hP
  have hD : va_D A [oO t 4 [.ref r1, .ref r2, .ref r3], oO r1 2 [.ref a1, .int (nI sz)], oO r2 2 [.ref a2, .int (nI sz)], oO r3 2 [.ref a3, .int (nI sz)], aI D a1 16 (thF ft (fun _ => 0) 1), aI D a2 16 (thF fv (fun _ => 0) 1), aI D a3 16 fe] := hD
  have hcv12 : (thF fe (fun _ => 0) 1) = fe := thF_1 _
  have hP := Eq.mpr (congrArg (fun z9 => va_P D cls [oO t 4 [.ref r1, .ref r2, .ref r3], oO r1 2 [.ref a1, .int (nI sz)], oO r2 2 [.ref a2, .int (nI sz)], oO r3 2 [.ref a3, .int (nI sz)], aI D a1 16 (thF ft (fun _ => 0) 1), aI D a2 16 (thF fv (fun _ => 0) 1), aI D a3 16 z9] H) hcv12) hP
  have hD := Eq.mpr (congrArg (fun z9 => va_D A [oO t 4 [.ref r1, .ref r2, .ref r3], oO r1 2 [.ref a1, .int (nI sz)], oO r2 2 [.ref a2, .int (nI sz)], oO r3 2 [.ref a3, .int (nI sz)], aI D a1 16 (thF ft (fun _ => 0) 1), aI D a2 16 (thF fv (fun _ => 0) 1), aI D a3 16 z9]) hcv12) hD
  have hP : va_P D cls [oO t 4 [.ref r1, .ref r2, .ref r3], oO r1 2 [.ref a1, .int (nI sz)], oO r2 2 [.ref a2, .int (nI sz)], oO r3 2 [.ref a3, .int (nI sz)], aI D a1 16 (thF ft (fun _ => 0) 1), aI D a2 16 (thF fv (fun _ => 0) 1), aI D a3 16 (thF fe (fun _ => 0) 1)] H := hP
  have hD : va_D A [oO t 4 [.ref r1, .ref r2, .ref r3], oO r1 2 [.ref a1, .int (nI sz)], oO r2 2 [.ref a2, .int (nI sz)], oO r3 2 [.ref a3, .int (nI sz)], aI D a1 16 (thF ft (fun _ => 0) 1), aI D a2 16 (thF fv (fun _ => 0) 1), aI D a3 16 (thF fe (fun _ => 0) 1)] := hD
  exact loop22 _ 1 1 0 (fun _ => 0) (Nat.lt_succ_self _) (by omega) (by omega) (rfl) (by omega) (by omega) (by omega) (fun k h1 h2 => by omega) _ _ _ hP hD hS (lv_sub hl [4, 5, 3, 2, 1, 0] rfl)
set_option maxHeartbeats 4000000 in
set_option maxRecDepth 100000 in
theorem c_Track_init (l : Launch) (D : va_G) {t : Nat} (hz0 : Nat)  : Met l yX4_init (ws_ yX4_init cX4_init 1 none) ({ frames := 2, cells := 6, slots := 54, locals := 41 } : Room) (va_Pc [.ref t] (SW D [oO t 4 [.null, .null, .null]] hz0)) (va_Qv (fun _ => True) (AT D (va_A [oO t 4 [.null, .null, .null]] hz0) (fun ((r1, a1, r2, a2, r3, a3) : Nat × Nat × Nat × Nat × Nat × Nat) => [oO t 4 [.ref r1, .ref r2, .ref r3], oO r1 2 [.ref a1, .int (nI 0)], oO r2 2 [.ref a2, .int (nI 0)], oO r3 2 [.ref a3, .int (nI 0)], aI D a1 16 (fun _ => 0), aI D a2 16 (fun _ => 0), aI D a3 16 (fun _ => 0)])) (va_A [oO t 4 [.null, .null, .null]] hz0)) 6 54 (va_A [oO t 4 [.null, .null, .null]] hz0) := by
  refine Met.ofW (cc := cX4_init) (maxL := 1) (ret := none) (by decide) rfl ?_
  intro p e s m args below meth c s₁ B hml hv
  obtain ⟨rfl, hsz, hG, hP, hD0⟩ := hv
  have hx := B.exec
  have hb := B.bytes
  have hr := B.returns
  have hts : ∀ w ∈ wsL_law, w.before _ s = true := fun w h => atoms_spec (ws := (ws_ yX4_init cX4_init 1 none)) B.pre w (List.mem_cons_of_mem _ h)
  have hown : s.vm.findClass RX4 = some m.cls := findClass_of_methodNamed B.named
  have hlk := B.notSynchronized
  have hC : CallFix p m c cX4_init 1 s _ wsL_law RX4 := ⟨hx, hb, hml, hown, hts⟩
  have hin : meth.name = "<init>" := (name_of_methodNamed B.named B.method).1
  subst hsz
  have hD := hD0.self (sz := s.heap.size)
  generalize hAe : va_A [oO t 4 [.null, .null, .null]] s.heap.size = A at hD ⊢
  have hA : ∀ q : Nat, s.heap.size ≤ q → A q := fun q h => by rw [← hAe]; exact Or.inr h
  have hS : va_S A s.heap s.heap [] := va_S.rf
  obtain ⟨H, hHe⟩ : ∃ H, H = s.heap := ⟨_, rfl⟩
  rw [← hHe] at hP
  have hS : va_S A s.heap H [] := by rw [hHe]; exact hS
  have hl := lv_entry ([.ref t]) (n := 1) (Nat.le_of_ble_eq_true rfl)
  rw [lg_entry_eq]
  generalize (lg_sl ([.ref t]) ++ List.replicate (1 - (lg_sl ([.ref t])).length) Slot.unset).toArray = ls at hl ⊢
  have hl : lv_has ls 1 [(0, .ref t)] := hl
  rw [← hHe]
  refine lv_aload_n hx hb dX4_init_0 rfl (lv_at hl 0 rfl) ?_
  refine W.objInit hx hb hown (hts _ mM_X4_3) (hts _ mI_objectInit) (hts _ mC_objectInit) rfl (by rw [hml]; exact hl.1) rfl dX4_init_1 (Nat.le_of_ble_eq_true rfl) (Nat.le_of_ble_eq_true rfl) ?_
  refine W.eq (g2 := F0 m 4 ls []) rfl ?_
  refine lv_aload_n hx hb dX4_init_4 rfl (lv_at hl 0 rfl) ?_
  refine va_new (ci := 2) (fs := [.null, .int 0]) (C := RX2) (T := TX2) (N := 2) hx hb hts inlX2 tyX2 tyX2_ok hown (hts _ mK_X4_9) (hts _ mB_X2) (hts _ mN_X2) hG.K hP hD hS hA rfl (fun j hj => by rcases (show j = 0 ∨ j = 1 by omega) with rfl | rfl <;> rfl) (Nat.le_of_ble_eq_true rfl) (Nat.le_of_ble_eq_true rfl) dX4_init_5 (fun r1 H hP hD hS => ?_)
  have hP : va_P D cls [oO t 4 [.null, .null, .null], oO r1 2 [.null, .int 0]] H := hP
  have hD : va_D A [oO t 4 [.null, .null, .null], oO r1 2 [.null, .int 0]] := hD
  refine lv_dup hx hb dX4_init_8 rfl ?_
  refine lv_bipush (v := 16) hx hb dX4_init_9 (by decide) ?_
  have hP9 := hP.sub (ws' := [oO r1 2 [.null, .int 0]]) [1] rfl
  have hD9 := (hD.sub (ws' := [oO r1 2 [.null, .int 0]]) [1] (by decide) rfl).weaken (B := fun _ => True) (fun _ _ _ _ => trivial)
  refine kv (wr := [oO t 4 [.null, .null, .null]]) (rI (rest := [.ref r1, .ref t]) [.int 16] 1 1 16 hC (c_Row_init l D (r := r1) (n := 16) (hz0 := H.size) (by omega) (by omega)) mM_X4_11 mI_X2_init mN_X2 mC_X2_init rfl (by decide +kernel) rfl rfl ⟨Nat.le_of_ble_eq_true rfl, Nat.le_of_ble_eq_true rfl⟩ hG hP9 hD9 rfl hl.1 rfl (Nat.le_of_ble_eq_true rfl) dX4_init_11 ⟨Nat.le_of_ble_eq_true rfl, Nat.le_of_ble_eq_true rfl⟩) hP hD hS hA [1] [0] rfl rfl (by decide) (by decide) (fun u11 H locs h11 hP hD hS hz hfr => ?_)
  obtain ⟨a1, rfl⟩ : ∃ z, z = u11 := ⟨_, rfl⟩
  have hP : va_P D cls [oO t 4 [.null, .null, .null], oO r1 2 [.ref a1, .int (nI 0)], aI D a1 16 (fun _ => 0)] H := hP
  have hD : va_D A [oO t 4 [.null, .null, .null], oO r1 2 [.ref a1, .int (nI 0)], aI D a1 16 (fun _ => 0)] := hD
  refine va_putF (D := D) (ci := 4) (v := .ref r1) (ty := .object "KeyStage$Row") (C := RX4) (T := TX4) (N := 3) hx hb hts inlX4 tyX4 tyX4_ok nmX4 hown hG.K hP hD hS 0 rfl rfl 0 (by decide) (hts _ mF_X4_14) (fun _ h9 => h9) rfl hin rfl (by decide +kernel) rfl rfl (Nat.le_of_ble_eq_true rfl) dX4_init_14 (fun H locs hP hD hS => ?_)
  have hP : va_P D cls [oO t 4 [.ref r1, .null, .null], oO r1 2 [.ref a1, .int (nI 0)], aI D a1 16 (fun _ => 0)] H := hP
  have hD : va_D A [oO t 4 [.ref r1, .null, .null], oO r1 2 [.ref a1, .int (nI 0)], aI D a1 16 (fun _ => 0)] := hD
  refine lv_aload_n hx hb dX4_init_17 rfl (lv_at hl 0 rfl) ?_
  refine va_new (ci := 2) (fs := [.null, .int 0]) (C := RX2) (T := TX2) (N := 2) hx hb hts inlX2 tyX2 tyX2_ok hown (hts _ mK_X4_9) (hts _ mB_X2) (hts _ mN_X2) hG.K hP hD hS hA rfl (fun j hj => by rcases (show j = 0 ∨ j = 1 by omega) with rfl | rfl <;> rfl) (Nat.le_of_ble_eq_true rfl) (Nat.le_of_ble_eq_true rfl) dX4_init_18 (fun r2 H hP hD hS => ?_)
  have hP : va_P D cls [oO t 4 [.ref r1, .null, .null], oO r1 2 [.ref a1, .int (nI 0)], aI D a1 16 (fun _ => 0), oO r2 2 [.null, .int 0]] H := hP
  have hD : va_D A [oO t 4 [.ref r1, .null, .null], oO r1 2 [.ref a1, .int (nI 0)], aI D a1 16 (fun _ => 0), oO r2 2 [.null, .int 0]] := hD
  refine lv_dup hx hb dX4_init_21 rfl ?_
  refine lv_bipush (v := 16) hx hb dX4_init_22 (by decide) ?_
  have hP9 := hP.sub (ws' := [oO r2 2 [.null, .int 0]]) [3] rfl
  have hD9 := (hD.sub (ws' := [oO r2 2 [.null, .int 0]]) [3] (by decide) rfl).weaken (B := fun _ => True) (fun _ _ _ _ => trivial)
  refine kv (wr := [oO t 4 [.ref r1, .null, .null], oO r1 2 [.ref a1, .int (nI 0)], aI D a1 16 (fun _ => 0)]) (rI (rest := [.ref r2, .ref t]) [.int 16] 1 1 16 hC (c_Row_init l D (r := r2) (n := 16) (hz0 := H.size) (by omega) (by omega)) mM_X4_11 mI_X2_init mN_X2 mC_X2_init rfl (by decide +kernel) rfl rfl ⟨Nat.le_of_ble_eq_true rfl, Nat.le_of_ble_eq_true rfl⟩ hG hP9 hD9 rfl hl.1 rfl (Nat.le_of_ble_eq_true rfl) dX4_init_24 ⟨Nat.le_of_ble_eq_true rfl, Nat.le_of_ble_eq_true rfl⟩) hP hD hS hA [3] [0, 1, 2] rfl rfl (by decide) (by decide) (fun u24 H locs h24 hP hD hS hz hfr => ?_)
  obtain ⟨a2, rfl⟩ : ∃ z, z = u24 := ⟨_, rfl⟩
  have hP : va_P D cls [oO t 4 [.ref r1, .null, .null], oO r1 2 [.ref a1, .int (nI 0)], aI D a1 16 (fun _ => 0), oO r2 2 [.ref a2, .int (nI 0)], aI D a2 16 (fun _ => 0)] H := hP
  have hD : va_D A [oO t 4 [.ref r1, .null, .null], oO r1 2 [.ref a1, .int (nI 0)], aI D a1 16 (fun _ => 0), oO r2 2 [.ref a2, .int (nI 0)], aI D a2 16 (fun _ => 0)] := hD
  refine va_putF (D := D) (ci := 4) (v := .ref r2) (ty := .object "KeyStage$Row") (C := RX4) (T := TX4) (N := 3) hx hb hts inlX4 tyX4 tyX4_ok nmX4 hown hG.K hP hD hS 0 rfl rfl 1 (by decide) (hts _ mF_X4_20) (fun _ h9 => h9) rfl hin rfl (by decide +kernel) rfl rfl (Nat.le_of_ble_eq_true rfl) dX4_init_27 (fun H locs hP hD hS => ?_)
  have hP : va_P D cls [oO t 4 [.ref r1, .ref r2, .null], oO r1 2 [.ref a1, .int (nI 0)], aI D a1 16 (fun _ => 0), oO r2 2 [.ref a2, .int (nI 0)], aI D a2 16 (fun _ => 0)] H := hP
  have hD : va_D A [oO t 4 [.ref r1, .ref r2, .null], oO r1 2 [.ref a1, .int (nI 0)], aI D a1 16 (fun _ => 0), oO r2 2 [.ref a2, .int (nI 0)], aI D a2 16 (fun _ => 0)] := hD
  refine lv_aload_n hx hb dX4_init_30 rfl (lv_at hl 0 rfl) ?_
  refine va_new (ci := 2) (fs := [.null, .int 0]) (C := RX2) (T := TX2) (N := 2) hx hb hts inlX2 tyX2 tyX2_ok hown (hts _ mK_X4_9) (hts _ mB_X2) (hts _ mN_X2) hG.K hP hD hS hA rfl (fun j hj => by rcases (show j = 0 ∨ j = 1 by omega) with rfl | rfl <;> rfl) (Nat.le_of_ble_eq_true rfl) (Nat.le_of_ble_eq_true rfl) dX4_init_31 (fun r3 H hP hD hS => ?_)
  have hP : va_P D cls [oO t 4 [.ref r1, .ref r2, .null], oO r1 2 [.ref a1, .int (nI 0)], aI D a1 16 (fun _ => 0), oO r2 2 [.ref a2, .int (nI 0)], aI D a2 16 (fun _ => 0), oO r3 2 [.null, .int 0]] H := hP
  have hD : va_D A [oO t 4 [.ref r1, .ref r2, .null], oO r1 2 [.ref a1, .int (nI 0)], aI D a1 16 (fun _ => 0), oO r2 2 [.ref a2, .int (nI 0)], aI D a2 16 (fun _ => 0), oO r3 2 [.null, .int 0]] := hD
  refine lv_dup hx hb dX4_init_34 rfl ?_
  refine lv_bipush (v := 16) hx hb dX4_init_35 (by decide) ?_
  have hP9 := hP.sub (ws' := [oO r3 2 [.null, .int 0]]) [5] rfl
  have hD9 := (hD.sub (ws' := [oO r3 2 [.null, .int 0]]) [5] (by decide) rfl).weaken (B := fun _ => True) (fun _ _ _ _ => trivial)
  refine kv (wr := [oO t 4 [.ref r1, .ref r2, .null], oO r1 2 [.ref a1, .int (nI 0)], aI D a1 16 (fun _ => 0), oO r2 2 [.ref a2, .int (nI 0)], aI D a2 16 (fun _ => 0)]) (rI (rest := [.ref r3, .ref t]) [.int 16] 1 1 16 hC (c_Row_init l D (r := r3) (n := 16) (hz0 := H.size) (by omega) (by omega)) mM_X4_11 mI_X2_init mN_X2 mC_X2_init rfl (by decide +kernel) rfl rfl ⟨Nat.le_of_ble_eq_true rfl, Nat.le_of_ble_eq_true rfl⟩ hG hP9 hD9 rfl hl.1 rfl (Nat.le_of_ble_eq_true rfl) dX4_init_37 ⟨Nat.le_of_ble_eq_true rfl, Nat.le_of_ble_eq_true rfl⟩) hP hD hS hA [5] [0, 1, 2, 3, 4] rfl rfl (by decide) (by decide) (fun u37 H locs h37 hP hD hS hz hfr => ?_)
  obtain ⟨a3, rfl⟩ : ∃ z, z = u37 := ⟨_, rfl⟩
  have hP : va_P D cls [oO t 4 [.ref r1, .ref r2, .null], oO r1 2 [.ref a1, .int (nI 0)], aI D a1 16 (fun _ => 0), oO r2 2 [.ref a2, .int (nI 0)], aI D a2 16 (fun _ => 0), oO r3 2 [.ref a3, .int (nI 0)], aI D a3 16 (fun _ => 0)] H := hP
  have hD : va_D A [oO t 4 [.ref r1, .ref r2, .null], oO r1 2 [.ref a1, .int (nI 0)], aI D a1 16 (fun _ => 0), oO r2 2 [.ref a2, .int (nI 0)], aI D a2 16 (fun _ => 0), oO r3 2 [.ref a3, .int (nI 0)], aI D a3 16 (fun _ => 0)] := hD
  refine va_putF (D := D) (ci := 4) (v := .ref r3) (ty := .object "KeyStage$Row") (C := RX4) (T := TX4) (N := 3) hx hb hts inlX4 tyX4 tyX4_ok nmX4 hown hG.K hP hD hS 0 rfl rfl 2 (by decide) (hts _ mF_X4_23) (fun _ h9 => h9) rfl hin rfl (by decide +kernel) rfl rfl (Nat.le_of_ble_eq_true rfl) dX4_init_40 (fun H locs hP hD hS => ?_)
  have hP : va_P D cls [oO t 4 [.ref r1, .ref r2, .ref r3], oO r1 2 [.ref a1, .int (nI 0)], aI D a1 16 (fun _ => 0), oO r2 2 [.ref a2, .int (nI 0)], aI D a2 16 (fun _ => 0), oO r3 2 [.ref a3, .int (nI 0)], aI D a3 16 (fun _ => 0)] H := hP
  have hD : va_D A [oO t 4 [.ref r1, .ref r2, .ref r3], oO r1 2 [.ref a1, .int (nI 0)], aI D a1 16 (fun _ => 0), oO r2 2 [.ref a2, .int (nI 0)], aI D a2 16 (fun _ => 0), oO r3 2 [.ref a3, .int (nI 0)], aI D a3 16 (fun _ => 0)] := hD
  refine Wv (r1, a1, r2, a2, r3, a3) hx hb hr hlk ?_ (hP.sub [0, 1, 3, 5, 2, 4, 6] rfl) (hD.sub [0, 1, 3, 5, 2, 4, 6] (by decide) rfl) hS (Nat.le_of_ble_eq_true rfl) (by first | exact Nat.le_of_ble_eq_true rfl | exact Nat.le_of_eq (Nat.zero_add _)) dX4_init_43
  exact trivial
