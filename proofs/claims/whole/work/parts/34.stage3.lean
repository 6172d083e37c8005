set_option maxHeartbeats 4000000 in
set_option maxRecDepth 100000 in
theorem c_end (l : Launch) (D : va_G) {xo lc lt bo yo no : Nat} {et nS : Nat} {m2 : Int32} {sl ck cl ta : Nat → Nat} {pt : Nat → Nat → Int32} {len : Nat → Int32} {q : Nat → Nat → Nat} (hnS : nS ≤ 10) (hp : ∀ i, i < nS → 0 < pt i 5) : Met l yX5_end (ws_ yX5_end cX5_end 3 (some .int)) ({ frames := 3, cells := 0, slots := 0, locals := 81 } : Room) (va_Pc [.ref xo] (PXW D [oO xo 5 [.ref lc, .ref lt, .ref bo, .ref yo, .ref no], oO lt 7 [.int m2, .ref et, .int (nI nS)]] (FX D nS (fun i => [aO D et 10 (lsF sl nS), oO (sl i) 3 [.ref (cl (ck i)), .int (pt i 0), .int (pt i 1), .int (pt i 3), .int (pt i 4), .int (pt i 5), .int (pt i 6), .int (pt i 7), .int (pt i 8), .int (pt i 9), .int (pt i 10), .int (pt i 11), .int (pt i 12)], oO (cl (ck i)) 0 [.int (len (ck i)), .ref (ta (ck i)), .ref (q (ck i) 0), .ref (q (ck i) 1)]]) (fun _ => False)))) (vp_Si (fun v => v = endAll (fun i => endS (len (ck i)) (pt i)) nS)) 0 0 (fun _ => False) := by
  refine Met.ofW (cc := cX5_end) (maxL := 3) (ret := (some .int)) (by decide) rfl ?_
  intro p e s m args below meth c s₁ B hml hv
  obtain ⟨rfl, ⟨hG, hP⟩, hX⟩ := hv
  have hx := B.exec
  have hb := B.bytes
  have hr := B.returns
  have hts : ∀ w ∈ wsL_law, w.before _ s = true := fun w h => atoms_spec (ws := (ws_ yX5_end cX5_end 3 (some .int))) B.pre w (List.mem_cons_of_mem _ h)
  have hown : s.vm.findClass RX5 = some m.cls := findClass_of_methodNamed B.named
  have hlk := B.notSynchronized
  have hC : CallFix p m c cX5_end 3 s _ wsL_law RX5 := ⟨hx, hb, hml, hown, hts⟩
  have hl := lv_entry ([.ref xo]) (n := 3) (Nat.le_of_ble_eq_true rfl)
  rw [lg_entry_eq]
  generalize (lg_sl ([.ref xo]) ++ List.replicate (3 - (lg_sl ([.ref xo])).length) Slot.unset).toArray = ls at hl ⊢
  have hl : lv_has ls 3 [(0, .ref xo)] := hl
  refine lv_iconst (v := 0) hx hb dX5_end_0 (by decide) ?_
  refine lv_istore_n (lv' := [(1, .int 0), (0, .ref xo)]) hx hb dX5_end_1 rfl hl (by decide) rfl (fun ls hl => ?_)
  refine lv_iconst (v := 0) hx hb dX5_end_2 (by decide) ?_
  refine lv_istore_n (lv' := [(2, .int 0), (1, .int 0), (0, .ref xo)]) hx hb dX5_end_3 rfl hl (by decide) rfl (fun ls hl => ?_)
  have loop4 : ∀ (d9 : Nat) (i : Nat), (nS - i) < d9 → (i ≤ nS) → ∀ (ls : Array Slot), lv_has ls 3 [(0, .ref xo), (1, .int (endAll (fun i => endS (len (ck i)) (pt i)) i)), (2, .int (nI i))] → W p l e ({ frames := 3, cells := 0, slots := 0, locals := 81 } : Room) s m ([.ref xo] : List Value).toArray below meth c s.heap [] 0 0 (MQ below (vp_Si (fun v => v = endAll (fun i => endS (len (ck i)) (pt i)) nS)) ([.ref xo] : List Value).toArray s 0 0 (fun _ => False)) (F0 m 4 ls []) := by
    intro d9
    induction d9 with
    | zero => intro i hd; exact absurd hd (Nat.not_lt_zero _)
    | succ d9 ih4 =>
      intro i hd4 hi ls hl
      refine lv_iload_n hx hb dX5_end_4 rfl (lv_at hl 2 rfl) ?_
      refine lv_aload_n hx hb dX5_end_5 rfl (lv_at hl 0 rfl) ?_
      refine va_get (D := D) (ci := 5) (v := .ref lt) (C := RX5) (T := TX5) (N := 5) hx hb hts inlX5 hown hG.K hP 0 rfl rfl 1 (by decide) (hts _ mF_X5_16) (fun _ h9 => h9) rfl dX5_end_6 ?_
      have hP9 := hP.sub (ws' := [oO lt 7 [.int m2, .ref et, .int (nI nS)]]) [1] rfl
      refine vp_callSi (pV (rest := [.int (nI i)]) (qc := (RJx4a65c, TJx4a65c, 3)) [] 0 hC (c_list_size l D (lo := lt) (mc := m2) (ea := et) (n := nS) ) rfl (hP 1 _ rfl) (gV mM_X5_52 mI_Jx4a65c_size_8abf5 mS_Jx4a65c_size_8abf5 mN_Jx4a65c mC_Jx4a65c_size_8abf5) (by decide +kernel) rfl rfl ⟨Nat.le_of_ble_eq_true rfl, Nat.le_of_ble_eq_true rfl⟩ hG hP9 rfl hl.1 rfl (Nat.le_of_ble_eq_true rfl) dX5_end_9 ⟨Nat.le_of_ble_eq_true rfl, Nat.le_of_ble_eq_true rfl⟩) (fun r9 h9 => ?_)
      obtain rfl : r9 = (nI nS) := h9
      refine lv_icmp_ge (tgt := 40) hx hb dX5_end_12 (by decide) (fun c12 => ?_) (fun c12 => ?_)
      · skip
        have n12 := (nI_leI (a := nS) (b := i) (by omega) (by omega)).mp c12
        obtain rfl : i = nS := by omega
        refine lv_iload_n hx hb dX5_end_40 rfl (lv_at hl 1 rfl) ?_
        refine Ri hx hb hr hlk ?_ dX5_end_41
        exact rfl
      · skip
        have n12 := mt (nI_leI (a := nS) (b := i) (by omega) (by omega)).mpr c12
        have hW : va_P D cls [aO D et 10 (lsF sl nS), oO (sl i) 3 [.ref (cl (ck i)), .int (pt i 0), .int (pt i 1), .int (pt i 3), .int (pt i 4), .int (pt i 5), .int (pt i 6), .int (pt i 7), .int (pt i 8), .int (pt i 9), .int (pt i 10), .int (pt i 11), .int (pt i 12)], oO (cl (ck i)) 0 [.int (len (ck i)), .ref (ta (ck i)), .ref (q (ck i) 0), .ref (q (ck i) 1)]] s.heap := (hX i (by omega)).1
        refine lv_iload_n hx hb dX5_end_15 rfl (lv_at hl 1 rfl) ?_
        refine lv_aload_n hx hb dX5_end_16 rfl (lv_at hl 0 rfl) ?_
        refine va_get (D := D) (ci := 5) (v := .ref lt) (C := RX5) (T := TX5) (N := 5) hx hb hts inlX5 hown hG.K hP 0 rfl rfl 1 (by decide) (hts _ mF_X5_16) (fun _ h9 => h9) rfl dX5_end_17 ?_
        refine lv_iload_n hx hb dX5_end_20 rfl (lv_at hl 2 rfl) ?_
        have hP8 := ((hP.sub (ws' := [oO lt 7 [.int m2, .ref et, .int (nI nS)]]) [1] rfl).app (hW.sub (ws' := [aO D et 10 (lsF sl nS)]) [0] rfl))
        have hP9 : va_P D cls [oO lt 7 [.int m2, .ref et, .int (nI nS)], aO D et 10 (lsF sl nS)] s.heap := hP8.sub [0, 1] rfl
        refine va_csq (pV (rest := [.int (endAll (fun i => endS (len (ck i)) (pt i)) i)]) (qc := (RJx4a65c, TJx4a65c, 3)) [.int (nI i)] 1 hC (c_list_get l D (lo := lt) (i := i) (mc := m2) (ea := et) (n := nS) (k := 10) (f := lsF sl nS) (by omega) (by omega) (by omega)) rfl (hP 1 _ rfl) (gV mM_X5_250 mI_Jx4a65c_get_915e3 mS_Jx4a65c_get_915e3 mN_Jx4a65c mC_Jx4a65c_get_915e3) (by decide +kernel) rfl rfl ⟨Nat.le_of_ble_eq_true rfl, Nat.le_of_ble_eq_true rfl⟩ hG hP9 rfl hl.1 rfl (Nat.le_of_ble_eq_true rfl) dX5_end_21 ⟨Nat.le_of_ble_eq_true rfl, Nat.le_of_ble_eq_true rfl⟩) (fun r21 h21 => ?_)
        obtain rfl : r21 = ((lsF sl nS) i) := h21
        refine tpv (y := .ref (sl i)) (lsF_ref (by omega)) ?_
        refine va_castS (nm := RX3) hx hb hown (hts _ mK_X5_183) (hG.K.1 3 _ rfl).2 (rcv hG (hW 1 _ rfl) (ci := 3) rfl) dX5_end_24 ?_
        have hP9 := hW.sub (ws' := [oO (sl i) 3 [.ref (cl (ck i)), .int (pt i 0), .int (pt i 1), .int (pt i 3), .int (pt i 4), .int (pt i 5), .int (pt i 6), .int (pt i 7), .int (pt i 8), .int (pt i 9), .int (pt i 10), .int (pt i 11), .int (pt i 12)], oO (cl (ck i)) 0 [.int (len (ck i)), .ref (ta (ck i)), .ref (q (ck i) 0), .ref (q (ck i) 1)]]) [1, 2] rfl
        refine vp_callSi (pV (rest := [.int (endAll (fun i => endS (len (ck i)) (pt i)) i)]) (qc := (RX3, TX3, 13)) [] 0 hC (c_endTime l D (pt := pt i) (q := q (ck i)) (so := sl i) (co := cl (ck i)) (len := len (ck i)) (ta := ta (ck i)) (hp i (by omega))) rfl (hW 1 _ rfl) (gV mM_X5_206 mI_X3_endTime mS_X3_endTime mN_X3 mC_X3_endTime) (by decide +kernel) rfl rfl ⟨Nat.le_of_ble_eq_true rfl, Nat.le_of_ble_eq_true rfl⟩ hG hP9 rfl hl.1 rfl (Nat.le_of_ble_eq_true rfl) dX5_end_27 ⟨Nat.le_of_ble_eq_true rfl, Nat.le_of_ble_eq_true rfl⟩) (fun r27 h27 => ?_)
        obtain rfl : r27 = (endS (len (ck i)) (pt i)) := h27
        refine va_mmax hx hb (by rw [hml]; exact hl.1.symm) hown (hts _ mM_X5_252) (hts _ mT_Lib_Math_max_name) (hts _ mN__java_lang_Math_) (hts _ mC_Lib_Math_max_name) (Nat.le_of_ble_eq_true rfl) (Nat.le_of_ble_eq_true rfl) (Nat.le_of_ble_eq_true rfl) (Nat.le_of_ble_eq_true rfl) dX5_end_30 ?_
        refine lv_istore_n (lv' := [(1, .int (if (endAll (fun i => endS (len (ck i)) (pt i)) i) < (endS (len (ck i)) (pt i)) then (endS (len (ck i)) (pt i)) else (endAll (fun i => endS (len (ck i)) (pt i)) i))), (0, .ref xo), (2, .int (nI i))]) hx hb dX5_end_33 rfl hl (by decide) rfl (fun ls hl => ?_)
        refine lv_iinc (v := nI (i + 1)) (lv' := [(2, .int (nI (i + 1))), (1, .int (if (endAll (fun i => endS (len (ck i)) (pt i)) i) < (endS (len (ck i)) (pt i)) then (endS (len (ck i)) (pt i)) else (endAll (fun i => endS (len (ck i)) (pt i)) i))), (0, .ref xo)]) hx hb dX5_end_34 hl (k := 2) rfl (nI_1 _) (by decide) rfl (fun ls hl => ?_)
        refine lv_goto (tgt := 4) hx hb dX5_end_37 (by decide) ?_
        exact ih4 (i + 1) (by omega) (by omega) _ (lv_sub hl [2, 1, 0] rfl)
  exact loop4 _ 0 (Nat.lt_succ_self _) (by omega) _ (lv_sub hl [2, 1, 0] rfl)
