set_option maxHeartbeats 40000000 in
set_option maxRecDepth 100000 in
theorem law_main {p : Program} {l : Launch} {e : Env} {s : State} {m : MethodId} {below : List Frame} {meth : Method} {c : Code} {Q : State → Prop} {D : va_G} {z xo ln st9 ky mn sb L : Nat} {xs : Nat → Int32} {A0 : Nat → Prop} (C : LX p s m c sb L xs D z A0) {nS kN0 : Nat} {len bf0 : Nat → Int32} {sz : Nat → Nat → Nat} {ff0 : Nat → Nat → Nat → Int32} {nc0 ck : Nat → Nat} {ct0 cn0 pt0 nf0 : Nat → Nat → Int32} {cnt0 : Int32} {fl fs fk fm : Nat → Int32} {H : Heap} {locs : List Loc} {ls : Array Slot} (hnS1 : 1 ≤ nS) (hnS6 : nS ≤ 6) (hSG : SG 2 len sz nc0 fl) (hst : ∀ q, q < nS → fs (13 * q + 1) = pt0 q 1) (hK : KB D A0 z xo [aI D ln 2 fl, aI D st9 130 fs, aI D ky 120 fk, aI D mn 2 fm] H 2 len sz ff0 nc0 ct0 cn0 bf0 nS ck pt0 kN0 nf0 cnt0) (hS : va_S A0 s.heap H locs) (hl : lv_has ls 12 [(0, .ref sb), (1, .ref xo), (2, .ref ln), (3, .ref st9), (4, .int (nI nS))]) (hfin : ∀ (H1 : Heap) (locs1 : List Loc) (ls1 : Array Slot), va_S A0 s.heap H1 locs1 → W p l e room_1 s m #[Value.ref sb] below meth c H1 locs1 600086 7301442 Q (F0 m 726 ls1 [.int 1])) : W p l e room_1 s m #[Value.ref sb] below meth c H locs 1000 10000 Q (F0 m 41 ls []) := by
  obtain ⟨⟨hx, hb, hown, hml, hts⟩, ⟨hX, hL⟩, hG, hZL, hA⟩ := C
  have hC : CallFix p m c cL_law 12 s _ wsL_law RL := ⟨hx, hb, hml, hown, hts⟩
  refine lv_iconst (v := 0) hx hb dL_law_41 (by decide) ?_
  refine lv_istore (lv' := [(5, .int 0), (0, .ref sb), (1, .ref xo), (2, .ref ln), (3, .ref st9), (4, .int (nI nS))]) hx hb dL_law_42 hl (by decide) rfl (fun ls hl => ?_)
  have loop44 : ∀ (d9 : Nat) (i1 : Nat) (nc1 : Nat → Nat) (ct1 : Nat → Nat → Int32) (cn1 : Nat → Nat → Int32), (5 - i1) < d9 → (i1 ≤ 5) → (∀ y, y < 2 → nc1 y ≤ i1) → ∀ (H : Heap) (locs : List Loc) (ls : Array Slot), KB D A0 z xo [aI D ln 2 fl, aI D st9 130 fs, aI D ky 120 fk, aI D mn 2 fm] H 2 len sz ff0 nc1 ct1 cn1 bf0 nS ck pt0 kN0 nf0 cnt0 → va_S A0 s.heap H locs → lv_has ls 12 [(0, .ref sb), (1, .ref xo), (2, .ref ln), (3, .ref st9), (4, .int (nI nS)), (5, .int (nI i1))] → W p l e room_1 s m #[Value.ref sb] below meth c H locs 1000 10000 Q (F0 m 44 ls []) := by
    intro d9
    induction d9 with
    | zero => intro i1 nc1 ct1 cn1 hd; exact absurd hd (Nat.not_lt_zero _)
    | succ d9 ih44 =>
      intro i1 nc1 ct1 cn1 hd44 hi1 hnc H locs ls hK hS hl
      refine lv_iload hx hb dL_law_44 (lv_at hl 5 rfl) ?_
      refine lv_iconst (v := 5) hx hb dL_law_46 (by decide) ?_
      refine lv_icmp_ge (tgt := 89) hx hb dL_law_47 (by decide) (fun c47 => ?_) (fun c47 => ?_)
      · skip
        have n47 := (nI_leI (a := 5) (b := i1) (by omega) (by omega)).mp c47
        refine lv_iconst (v := 0) hx hb dL_law_89 (by decide) ?_
        refine lv_istore (lv' := [(5, .int 0), (0, .ref sb), (1, .ref xo), (2, .ref ln), (3, .ref st9), (4, .int (nI nS))]) hx hb dL_law_90 hl (by decide) rfl (fun ls hl => ?_)
        have loop92 : ∀ (d9 : Nat) (c1 : Nat) (ff1 : Nat → Nat → Nat → Int32) (ct2 : Nat → Nat → Int32) (cn2 : Nat → Nat → Int32), (2 - c1) < d9 → (c1 ≤ 2) → ∀ (H : Heap) (locs : List Loc) (ls : Array Slot), KB D A0 z xo [aI D ln 2 fl, aI D st9 130 fs, aI D ky 120 fk, aI D mn 2 fm] H 2 len sz ff1 nc1 ct2 cn2 bf0 nS ck pt0 kN0 nf0 cnt0 → va_S A0 s.heap H locs → lv_has ls 12 [(0, .ref sb), (1, .ref xo), (2, .ref ln), (3, .ref st9), (4, .int (nI nS)), (5, .int (nI c1))] → W p l e room_1 s m #[Value.ref sb] below meth c H locs (1000 + c1) (10000 + 50 * c1) Q (F0 m 92 ls []) := by
          intro d9
          induction d9 with
          | zero => intro c1 ff1 ct2 cn2 hd; exact absurd hd (Nat.not_lt_zero _)
          | succ d9 ih92 =>
            intro c1 ff1 ct2 cn2 hd92 hc2 H locs ls hK hS hl
            refine lv_iload hx hb dL_law_92 (lv_at hl 5 rfl) ?_
            refine lv_iconst (v := 2) hx hb dL_law_94 (by decide) ?_
            refine lv_icmp_ge (tgt := 372) hx hb dL_law_95 (by decide) (fun c95 => ?_) (fun c95 => ?_)
            · skip
              have n95 := (nI_leI (a := 2) (b := c1) (by omega) (by omega)).mp c95
              refine lv_aload_n hx hb dL_law_372 rfl (lv_at hl 0 rfl) ?_
              refine lv_bipush (v := 14) hx hb dL_law_373 (by decide) ?_
              have hP9 : va_P D cls [] H := fun k q h => by simp at h
              refine vp_callSi (pSX (rest := []) SCR.blind (hX.pre hS (fun _ h => h.elim)) [.ref sb, .int 14] 2 hC (c_cell l D (b := sb) (L := L) (k := 14) (xs := xs) (by omega) (by omega)) (gS mM_L_9 mT_L_cell mN_L mC_L_cell) (by decide +kernel) rfl rfl ⟨Nat.le_of_ble_eq_true rfl, Nat.le_of_ble_eq_true rfl⟩ hG hP9 rfl hl.1 rfl (Nat.le_of_ble_eq_true rfl) dL_law_375 ⟨by show _ ≤ 600086; omega, by show _ ≤ 7301442; omega⟩) (fun r375 h375 => ?_)
              refine lv_sipush (v := 2001) hx hb dL_law_378 (by decide) ?_
              have hP9 : va_P D cls [] H := fun k q h => by simp at h
              refine vp_callSi (pS (rest := []) [.int r375, .int 2001] 2 hC (c_below l D (x := r375) (n := 2001) (by omega) (by omega)) (gS mM_L_15 mT_L_below mN_L mC_L_below) (by decide +kernel) rfl rfl ⟨Nat.le_of_ble_eq_true rfl, Nat.le_of_ble_eq_true rfl⟩ hG hP9 rfl hl.1 rfl (Nat.le_of_ble_eq_true rfl) dL_law_381 ⟨by show _ ≤ 600086; omega, by show _ ≤ 7301442; omega⟩) (fun r381 h381 => ?_)
              obtain ⟨k381, hk381, rfl⟩ := h381
              refine lv_sipush (v := 1000) hx hb dL_law_384 (by decide) ?_
              refine lv_isub hx hb dL_law_387 ?_
              obtain ⟨bs, hbs⟩ : ∃ z9, z9 = nI k381 - 1000 := ⟨_, rfl⟩
              have hbsb : (-10000 : Int32) ≤ bs ∧ bs ≤ 10000 := by rw [hbs]; exact bs_ok hk381
              refine tpi (y := bs) (hbs.symm) ?_
              refine lv_istore (lv' := [(5, .int bs), (0, .ref sb), (1, .ref xo), (2, .ref ln), (3, .ref st9), (4, .int (nI nS))]) hx hb dL_law_388 hl (by decide) rfl (fun ls hl => ?_)
              refine lv_aload_n hx hb dL_law_390 rfl (lv_at hl 2 rfl) ?_
              refine lv_iconst (v := 1) hx hb dL_law_391 (by decide) ?_
              refine lv_iload hx hb dL_law_392 (lv_at hl 0 rfl) ?_
              refine k_setBase (j := 1) (y := bs) hC hl.1 (Nat.le_of_ble_eq_true rfl) (Nat.le_of_ble_eq_true rfl) (by show _ ≤ 600086; omega) (by show _ ≤ 7301442; omega) (Nat.le_of_ble_eq_true rfl) hG hZL hA hS hK dL_law_394 (by omega) (hbsb) (fun H locs hK hS => ?_)
              have hK : KB D A0 z xo [aI D ln 2 fl, aI D st9 130 fs, aI D ky 120 fk, aI D mn 2 fm] H 2 len sz ff1 nc1 ct2 cn2 (upd bf0 1 bs) nS ck pt0 kN0 nf0 cnt0 := hK
              obtain ⟨bf2, hbf2⟩ : ∃ z9, z9 = upd bf0 1 bs := ⟨_, rfl⟩
              have hK : KB D A0 z xo [aI D ln 2 fl, aI D st9 130 fs, aI D ky 120 fk, aI D mn 2 fm] H 2 len sz ff1 nc1 ct2 cn2 bf2 nS ck pt0 kN0 nf0 cnt0 := by rw [hbf2]; exact hK
              have hb1 : bf2 1 = bs := by rw [hbf2]; exact upd_at
              refine lv_pop hx hb dL_law_397 rfl ?_
              refine lv_ldc hx hb hown (hts _ mG_L_65) dL_law_398 ?_
              refine lv_istore (lv' := [(6, .int 99999), (5, .int bs), (0, .ref sb), (1, .ref xo), (2, .ref ln), (3, .ref st9), (4, .int (nI nS))]) hx hb dL_law_400 hl (by decide) rfl (fun ls hl => ?_)
              refine lv_iconst (v := 0) hx hb dL_law_402 (by decide) ?_
              refine lv_istore (lv' := [(7, .int 0), (6, .int 99999), (5, .int bs), (0, .ref sb), (1, .ref xo), (2, .ref ln), (3, .ref st9), (4, .int (nI nS))]) hx hb dL_law_403 hl (by decide) rfl (fun ls hl => ?_)
              have loop405 : ∀ (d9 : Nat) (i4 : Nat) (sv : Int32), (nS - i4) < d9 → (i4 ≤ nS) → (sv ≤ 99999) → (∀ q, q < i4 → sv ≤ pt0 q 1) → ∀ (H : Heap) (locs : List Loc) (ls : Array Slot), KB D A0 z xo [aI D ln 2 fl, aI D st9 130 fs, aI D ky 120 fk, aI D mn 2 fm] H 2 len sz ff1 nc1 ct2 cn2 bf2 nS ck pt0 kN0 nf0 cnt0 → va_S A0 s.heap H locs → lv_has ls 12 [(0, .ref sb), (1, .ref xo), (2, .ref ln), (3, .ref st9), (4, .int (nI nS)), (5, .int bs), (6, .int sv), (7, .int (nI i4))] → W p l e room_1 s m #[Value.ref sb] below meth c H locs 1010 10200 Q (F0 m 405 ls []) := by
                intro d9
                induction d9 with
                | zero => intro i4 sv hd; exact absurd hd (Nat.not_lt_zero _)
                | succ d9 ih405 =>
                  intro i4 sv hd405 hi4 hsv9 hsv H locs ls hK hS hl
                  refine lv_iload hx hb dL_law_405 (lv_at hl 7 rfl) ?_
                  refine lv_iload hx hb dL_law_407 (lv_at hl 4 rfl) ?_
                  refine lv_icmp_ge (tgt := 434) hx hb dL_law_409 (by decide) (fun c409 => ?_) (fun c409 => ?_)
                  · skip
                    have n409 := (nI_leI (a := nS) (b := i4) (by omega) (by omega)).mp c409
                    refine lv_iconst (v := 0) hx hb dL_law_434 (by decide) ?_
                    refine lv_istore (lv' := [(7, .int 0), (0, .ref sb), (1, .ref xo), (2, .ref ln), (3, .ref st9), (4, .int (nI nS)), (5, .int bs), (6, .int sv)]) hx hb dL_law_435 hl (by decide) rfl (fun ls hl => ?_)
                    have loop437 : ∀ (d9 : Nat) (t2 : Nat), (100001 - t2) < d9 → (t2 ≤ 100000) → ∀ (H : Heap) (locs : List Loc) (ls : Array Slot), KB D A0 z xo [aI D ln 2 fl, aI D st9 130 fs, aI D ky 120 fk, aI D mn 2 fm] H 2 len sz ff1 nc1 ct2 cn2 bf2 nS ck pt0 kN0 nf0 cnt0 → va_S A0 s.heap H locs → lv_has ls 12 [(0, .ref sb), (1, .ref xo), (2, .ref ln), (3, .ref st9), (4, .int (nI nS)), (5, .int bs), (6, .int sv), (7, .int (nI t2))] → W p l e room_1 s m #[Value.ref sb] below meth c H locs 1010 10200 Q (F0 m 437 ls []) := by
                      intro d9
                      induction d9 with
                      | zero => intro t2 hd; exact absurd hd (Nat.not_lt_zero _)
                      | succ d9 ih437 =>
                        intro t2 hd437 ht2 H locs ls hK hS hl
                        refine lv_iload hx hb dL_law_437 (lv_at hl 7 rfl) ?_
                        refine lv_iload hx hb dL_law_439 (lv_at hl 6 rfl) ?_
                        refine lv_icmp_ge (tgt := 464) hx hb dL_law_441 (by decide) (fun c441 => ?_) (fun c441 => ?_)
                        · skip
                          refine lv_aload_n hx hb dL_law_464 rfl (lv_at hl 0 rfl) ?_
                          refine lv_bipush (v := 15) hx hb dL_law_465 (by decide) ?_
                          have hP9 : va_P D cls [] H := fun k q h => by simp at h
                          refine vp_callSi (pSX (rest := []) SCR.blind (hX.pre hS (fun _ h => h.elim)) [.ref sb, .int 15] 2 hC (c_cell l D (b := sb) (L := L) (k := 15) (xs := xs) (by omega) (by omega)) (gS mM_L_9 mT_L_cell mN_L mC_L_cell) (by decide +kernel) rfl rfl ⟨Nat.le_of_ble_eq_true rfl, Nat.le_of_ble_eq_true rfl⟩ hG hP9 rfl hl.1 rfl (Nat.le_of_ble_eq_true rfl) dL_law_467 ⟨by show _ ≤ 600086; omega, by show _ ≤ 7301442; omega⟩) (fun r467 h467 => ?_)
                          refine lv_bipush (v := 120) hx hb dL_law_470 (by decide) ?_
                          have hP9 : va_P D cls [] H := fun k q h => by simp at h
                          refine vp_callSi (pS (rest := []) [.int r467, .int 120] 2 hC (c_below l D (x := r467) (n := 120) (by omega) (by omega)) (gS mM_L_15 mT_L_below mN_L mC_L_below) (by decide +kernel) rfl rfl ⟨Nat.le_of_ble_eq_true rfl, Nat.le_of_ble_eq_true rfl⟩ hG hP9 rfl hl.1 rfl (Nat.le_of_ble_eq_true rfl) dL_law_472 ⟨by show _ ≤ 600086; omega, by show _ ≤ 7301442; omega⟩) (fun r472 h472 => ?_)
                          obtain ⟨k472, hk472, rfl⟩ := h472
                          refine lv_istore (lv' := [(7, .int (nI k472)), (0, .ref sb), (1, .ref xo), (2, .ref ln), (3, .ref st9), (4, .int (nI nS)), (5, .int bs), (6, .int sv)]) hx hb dL_law_475 hl (by decide) rfl (fun ls hl => ?_)
                          refine lv_aload_n hx hb dL_law_477 rfl (lv_at hl 2 rfl) ?_
                          refine lv_iconst (v := 0) hx hb dL_law_478 (by decide) ?_
                          refine lv_ldc hx hb hown (hts _ mG_L_90) dL_law_479 ?_
                          refine k_play (x := 0) (y := 100000) hC hl.1 (Nat.le_of_ble_eq_true rfl) (Nat.le_of_ble_eq_true rfl) (by show _ ≤ 600086; omega) (by show _ ≤ 7301442; omega) (Nat.le_of_ble_eq_true rfl) hG hZL hA hS hK dL_law_481 (by decide) (by decide) (fun H locs hK hS => ?_)
                          have hK : KB D A0 z xo [aI D ln 2 fl, aI D st9 130 fs, aI D ky 120 fk, aI D mn 2 fm] H 2 len sz ff1 nc1 ct2 cn2 bf2 nS ck pt0 ((ncP (fun z => len (ck z)) pt0 (fun z => ct2 (ck z)) (fun z => cn2 (ck z)) (fun z => nc1 (ck z)) (fun i9 => (pt0 i9 3).toInt.toNat) 0 100000 (0, nf0, 0) nS).1) ((ncP (fun z => len (ck z)) pt0 (fun z => ct2 (ck z)) (fun z => cn2 (ck z)) (fun z => nc1 (ck z)) (fun i9 => (pt0 i9 3).toInt.toNat) 0 100000 (0, nf0, 0) nS).2.1) ((ncP (fun z => len (ck z)) pt0 (fun z => ct2 (ck z)) (fun z => cn2 (ck z)) (fun z => nc1 (ck z)) (fun i9 => (pt0 i9 3).toInt.toNat) 0 100000 (0, nf0, 0) nS).2.2) := hK
                          obtain ⟨S1, hS1⟩ : ∃ z9, z9 = ncP (fun z => len (ck z)) pt0 (fun z => ct2 (ck z)) (fun z => cn2 (ck z)) (fun z => nc1 (ck z)) (fun i9 => (pt0 i9 3).toInt.toNat) 0 100000 (0, nf0, 0) nS := ⟨_, rfl⟩
                          have hK : KB D A0 z xo [aI D ln 2 fl, aI D st9 130 fs, aI D ky 120 fk, aI D mn 2 fm] H 2 len sz ff1 nc1 ct2 cn2 bf2 nS ck pt0 S1.1 S1.2.1 S1.2.2 := by rw [hS1]; exact hK
                          refine tpi (y := S1.2.2) (by rw [hS1]) ?_
                          obtain ⟨M1, hMM1, hN1⟩ : ∃ M, M ≤ 72 * nS ∧ NK 0 100000 M S1 := by rw [hS1]; exact ncP_ok nS (inv_nc hK.inv.1)
                          refine tpi (y := nI M1) (hN1.2.1) ?_
                          refine lv_istore (lv' := [(8, .int (nI M1)), (7, .int (nI k472)), (0, .ref sb), (1, .ref xo), (2, .ref ln), (3, .ref st9), (4, .int (nI nS)), (5, .int bs), (6, .int sv)]) hx hb dL_law_484 hl (by decide) rfl (fun ls hl => ?_)
                          refine lv_bipush (v := 100) hx hb dL_law_486 (by decide) ?_
                          refine lv_iload hx hb dL_law_488 (lv_at hl 0 rfl) ?_
                          refine va_mmin hx hb (by rw [hml]; exact hl.1.symm) hown (hts _ mM_L_70) (hts _ mT_Lib_Math_min_name) (hts _ mN__java_lang_Math_) (hts _ mC_Lib_Math_min_name) (Nat.le_of_ble_eq_true rfl) (Nat.le_of_ble_eq_true rfl) (by show _ ≤ 600086; omega) (by show _ ≤ 7301442; omega) dL_law_490 ?_
                          refine tpi (y := nI (min M1 100)) (mn100 (by omega)) ?_
                          refine knew (N := min M1 100) hx hb hts hG hK hS hA (nI_pos (by omega)) (nI_clamp (by omega)) (by omega) (by show _ ≤ 600086; omega) (by show _ ≤ 7301442; omega) dL_law_493 (fun q493 H hK hS => ?_)
                          have hK : KB D A0 z xo [aI D ln 2 fl, aI D st9 130 fs, aI D ky 120 fk, aI D mn 2 fm, aI D q493 (min M1 100) (fun _ => 0)] H 2 len sz ff1 nc1 ct2 cn2 bf2 nS ck pt0 S1.1 S1.2.1 S1.2.2 := hK
                          refine lv_astore (lv' := [(9, .ref q493), (8, .int (nI M1)), (7, .int (nI k472)), (0, .ref sb), (1, .ref xo), (2, .ref ln), (3, .ref st9), (4, .int (nI nS)), (5, .int bs), (6, .int sv)]) hx hb dL_law_495 hl (by decide) rfl (fun ls hl => ?_)
                          refine lv_iconst (v := 0) hx hb dL_law_497 (by decide) ?_
                          refine lv_istore (lv' := [(10, .int 0), (9, .ref q493), (8, .int (nI M1)), (7, .int (nI k472)), (0, .ref sb), (1, .ref xo), (2, .ref ln), (3, .ref st9), (4, .int (nI nS)), (5, .int bs), (6, .int sv)]) hx hb dL_law_498 hl (by decide) rfl (fun ls hl => ?_)
                          have loop500 : ∀ (d9 : Nat) (i5 : Nat) (ft9 : Nat → Int32), (min M1 100 - i5) < d9 → (i5 ≤ min M1 100) → (∀ q, q < i5 → ft9 q = S1.2.1 0 q) → ∀ (H : Heap) (locs : List Loc) (ls : Array Slot), KB D A0 z xo [aI D ln 2 fl, aI D st9 130 fs, aI D ky 120 fk, aI D mn 2 fm, aI D q493 (min M1 100) ft9] H 2 len sz ff1 nc1 ct2 cn2 bf2 nS ck pt0 S1.1 S1.2.1 S1.2.2 → va_S A0 s.heap H locs → lv_has ls 12 [(0, .ref sb), (1, .ref xo), (2, .ref ln), (3, .ref st9), (4, .int (nI nS)), (5, .int bs), (7, .int (nI k472)), (8, .int (nI M1)), (9, .ref q493), (10, .int (nI i5))] → W p l e room_1 s m #[Value.ref sb] below meth c H locs 1012 10400 Q (F0 m 500 ls []) := by
                            intro d9
                            induction d9 with
                            | zero => intro i5 ft9 hd; exact absurd hd (Nat.not_lt_zero _)
                            | succ d9 ih500 =>
                              intro i5 ft9 hd500 hi5 hft H locs ls hK hS hl
                              refine lv_iload hx hb dL_law_500 (lv_at hl 9 rfl) ?_
                              refine lv_aload hx hb dL_law_502 (lv_at hl 8 rfl) ?_
                              refine iln hx hb hG hK.own.1 4 rfl dL_law_504 ?_
                              refine lv_icmp_ge (tgt := 548) hx hb dL_law_505 (by decide) (fun c505 => ?_) (fun c505 => ?_)
                              · skip
                                have n505 := (nI_leI (a := min M1 100) (b := i5) (by omega) (by omega)).mp c505
                                refine lv_aload_n hx hb dL_law_548 rfl (lv_at hl 1 rfl) ?_
                                refine lv_iconst (v := 0) hx hb dL_law_549 (by decide) ?_
                                refine lv_iload hx hb dL_law_550 (lv_at hl 6 rfl) ?_
                                refine k_play (x := 0) (y := nI k472) hC hl.1 (Nat.le_of_ble_eq_true rfl) (Nat.le_of_ble_eq_true rfl) (by show _ ≤ 600086; omega) (by show _ ≤ 7301442; omega) (Nat.le_of_ble_eq_true rfl) hG hZL hA hS hK dL_law_552 (by decide) (⟨(nI_leI (a := 0) (b := k472) (by omega) (by omega)).mpr (by omega), (nI_leI (a := k472) (b := 100000) (by omega) (by omega)).mpr (by omega)⟩) (fun H locs hK hS => ?_)
                                have hK : KB D A0 z xo [aI D ln 2 fl, aI D st9 130 fs, aI D ky 120 fk, aI D mn 2 fm, aI D q493 (min M1 100) ft9] H 2 len sz ff1 nc1 ct2 cn2 bf2 nS ck pt0 ((ncP (fun z => len (ck z)) pt0 (fun z => ct2 (ck z)) (fun z => cn2 (ck z)) (fun z => nc1 (ck z)) (fun i9 => (pt0 i9 3).toInt.toNat) 0 (nI k472) (0, S1.2.1, 0) nS).1) ((ncP (fun z => len (ck z)) pt0 (fun z => ct2 (ck z)) (fun z => cn2 (ck z)) (fun z => nc1 (ck z)) (fun i9 => (pt0 i9 3).toInt.toNat) 0 (nI k472) (0, S1.2.1, 0) nS).2.1) ((ncP (fun z => len (ck z)) pt0 (fun z => ct2 (ck z)) (fun z => cn2 (ck z)) (fun z => nc1 (ck z)) (fun i9 => (pt0 i9 3).toInt.toNat) 0 (nI k472) (0, S1.2.1, 0) nS).2.2) := hK
                                obtain ⟨S2, hS2⟩ : ∃ z9, z9 = ncP (fun z => len (ck z)) pt0 (fun z => ct2 (ck z)) (fun z => cn2 (ck z)) (fun z => nc1 (ck z)) (fun i9 => (pt0 i9 3).toInt.toNat) 0 (nI k472) (0, S1.2.1, 0) nS := ⟨_, rfl⟩
                                have hK : KB D A0 z xo [aI D ln 2 fl, aI D st9 130 fs, aI D ky 120 fk, aI D mn 2 fm, aI D q493 (min M1 100) ft9] H 2 len sz ff1 nc1 ct2 cn2 bf2 nS ck pt0 S2.1 S2.2.1 S2.2.2 := by rw [hS2]; exact hK
                                refine tpi (y := S2.2.2) (by rw [hS2]) ?_
                                obtain ⟨M2, hMM2, hN2⟩ : ∃ M, M ≤ 72 * nS ∧ NK 0 (nI k472) M S2 := by rw [hS2]; exact ncP_ok nS (inv_nc hK.inv.1)
                                refine tpi (y := nI M2) (hN2.2.1) ?_
                                refine lv_istore (lv' := [(10, .int (nI M2)), (0, .ref sb), (1, .ref xo), (2, .ref ln), (3, .ref st9), (4, .int (nI nS)), (5, .int bs), (7, .int (nI k472)), (8, .int (nI M1)), (9, .ref q493)]) hx hb dL_law_555 hl (by decide) rfl (fun ls hl => ?_)
                                refine lv_iload hx hb dL_law_557 (lv_at hl 0 rfl) ?_
                                refine lv_if_le (tgt := 583) hx hb dL_law_559 (by decide) (fun c559 => ?_) (fun c559 => ?_)
                                · skip
                                  have n559 := (nI_leI (a := M2) (b := 0) (by omega) (by omega)).mp c559
                                  refine lv_iload hx hb dL_law_583 (lv_at hl 0 rfl) ?_
                                  refine lv_aload_n hx hb dL_law_585 rfl (lv_at hl 2 rfl) ?_
                                  refine lv_iload hx hb dL_law_586 (lv_at hl 7 rfl) ?_
                                  refine lv_iconst (v := 1) hx hb dL_law_588 (by decide) ?_
                                  refine lv_iadd hx hb dL_law_589 ?_
                                  refine lv_ldc hx hb hown (hts _ mG_L_90) dL_law_590 ?_
                                  refine k_play (x := (nI k472) + 1) (y := 100000) hC hl.1 (Nat.le_of_ble_eq_true rfl) (Nat.le_of_ble_eq_true rfl) (by show _ ≤ 600086; omega) (by show _ ≤ 7301442; omega) (Nat.le_of_ble_eq_true rfl) hG hZL hA hS hK dL_law_592 (by rw [nI_1]; exact ⟨(nI_leI (a := 0) (b := (k472 + 1)) (by omega) (by omega)).mpr (by omega), (nI_leI (a := (k472 + 1)) (b := 100000) (by omega) (by omega)).mpr (by omega)⟩) (⟨by rw [nI_1]; exact (nI_leI (a := k472 + 1) (b := 100000) (by omega) (by omega)).mpr (by omega), by decide⟩) (fun H locs hK hS => ?_)
                                  have hK : KB D A0 z xo [aI D ln 2 fl, aI D st9 130 fs, aI D ky 120 fk, aI D mn 2 fm, aI D q493 (min M1 100) ft9] H 2 len sz ff1 nc1 ct2 cn2 bf2 nS ck pt0 ((ncP (fun z => len (ck z)) pt0 (fun z => ct2 (ck z)) (fun z => cn2 (ck z)) (fun z => nc1 (ck z)) (fun i9 => (pt0 i9 3).toInt.toNat) ((nI k472) + 1) 100000 (0, S2.2.1, 0) nS).1) ((ncP (fun z => len (ck z)) pt0 (fun z => ct2 (ck z)) (fun z => cn2 (ck z)) (fun z => nc1 (ck z)) (fun i9 => (pt0 i9 3).toInt.toNat) ((nI k472) + 1) 100000 (0, S2.2.1, 0) nS).2.1) ((ncP (fun z => len (ck z)) pt0 (fun z => ct2 (ck z)) (fun z => cn2 (ck z)) (fun z => nc1 (ck z)) (fun i9 => (pt0 i9 3).toInt.toNat) ((nI k472) + 1) 100000 (0, S2.2.1, 0) nS).2.2) := hK
                                  obtain ⟨S3, hS3⟩ : ∃ z9, z9 = ncP (fun z => len (ck z)) pt0 (fun z => ct2 (ck z)) (fun z => cn2 (ck z)) (fun z => nc1 (ck z)) (fun i9 => (pt0 i9 3).toInt.toNat) ((nI k472) + 1) 100000 (0, S2.2.1, 0) nS := ⟨_, rfl⟩
                                  have hK : KB D A0 z xo [aI D ln 2 fl, aI D st9 130 fs, aI D ky 120 fk, aI D mn 2 fm, aI D q493 (min M1 100) ft9] H 2 len sz ff1 nc1 ct2 cn2 bf2 nS ck pt0 S3.1 S3.2.1 S3.2.2 := by rw [hS3]; exact hK
                                  refine tpi (y := S3.2.2) (by rw [hS3]) ?_
                                  have hCut : nI M2 + S3.2.2 = nI M1 := by
                                    rw [← hN2.2.1, ← hN1.2.1, hS1, hS2, hS3]
                                    exact ncP_cut (nI_pos' (by omega)) ((nI_ltI (a := k472) (b := 100000) (by omega) (by omega)).mpr (by omega)) nS
                                  refine lv_iadd hx hb dL_law_595 ?_
                                  refine tpi (y := nI M1) (hCut) ?_
                                  refine lv_iload hx hb dL_law_596 (lv_at hl 8 rfl) ?_
                                  refine lv_icmp_eq (tgt := 603) hx hb dL_law_598 (by decide) (fun _ => ?_) (fun h9 => absurd ((nI_eq (a := M1) (b := M1) (by omega) (by omega)).mpr (by omega)) h9)
                                  refine lv_iconst (v := 0) hx hb dL_law_603 (by decide) ?_
                                  refine lv_istore (lv' := [(11, .int 0), (10, .int (nI M2)), (0, .ref sb), (1, .ref xo), (2, .ref ln), (3, .ref st9), (4, .int (nI nS)), (5, .int bs), (7, .int (nI k472)), (8, .int (nI M1)), (9, .ref q493)]) hx hb dL_law_604 hl (by decide) rfl (fun ls hl => ?_)
                                  have loop606 : ∀ (d9 : Nat) (i6 : Nat) (pt6 : Nat → Nat → Int32), (nS - i6) < d9 → (i6 ≤ nS) → (∀ q, q < i6 → pt6 q 8 = 0) → ∀ (H : Heap) (locs : List Loc) (ls : Array Slot), KB D A0 z xo [aI D ln 2 fl, aI D st9 130 fs, aI D ky 120 fk, aI D mn 2 fm] H 2 len sz ff1 nc1 ct2 cn2 bf2 nS ck pt6 S3.1 S3.2.1 S3.2.2 → va_S A0 s.heap H locs → lv_has ls 12 [(0, .ref sb), (1, .ref xo), (2, .ref ln), (3, .ref st9), (4, .int (nI nS)), (5, .int bs), (11, .int (nI i6))] → W p l e room_1 s m #[Value.ref sb] below meth c H locs 1020 10500 Q (F0 m 606 ls []) := by
                                    intro d9
                                    induction d9 with
                                    | zero => intro i6 pt6 hd; exact absurd hd (Nat.not_lt_zero _)
                                    | succ d9 ih606 =>
                                      intro i6 pt6 hd606 hi6 hp6 H locs ls hK hS hl
                                      refine lv_iload hx hb dL_law_606 (lv_at hl 6 rfl) ?_
                                      refine lv_iload hx hb dL_law_608 (lv_at hl 4 rfl) ?_
                                      refine lv_icmp_ge (tgt := 641) hx hb dL_law_610 (by decide) (fun c610 => ?_) (fun c610 => ?_)
                                      · skip
                                        have n610 := (nI_leI (a := nS) (b := i6) (by omega) (by omega)).mp c610
                                        refine lv_iconst (v := 0) hx hb dL_law_641 (by decide) ?_
                                        refine lv_istore (lv' := [(11, .int 0), (0, .ref sb), (1, .ref xo), (2, .ref ln), (3, .ref st9), (4, .int (nI nS)), (5, .int bs)]) hx hb dL_law_642 hl (by decide) rfl (fun ls hl => ?_)
                                        have loop644 : ∀ (d9 : Nat) (t3 : Nat), (201 - t3) < d9 → (t3 ≤ 200) → ∀ (H : Heap) (locs : List Loc) (ls : Array Slot), KB D A0 z xo [aI D ln 2 fl, aI D st9 130 fs, aI D ky 120 fk, aI D mn 2 fm] H 2 len sz ff1 nc1 ct2 cn2 bf2 nS ck pt6 S3.1 S3.2.1 S3.2.2 → va_S A0 s.heap H locs → lv_has ls 12 [(0, .ref sb), (1, .ref xo), (2, .ref ln), (3, .ref st9), (4, .int (nI nS)), (5, .int bs), (11, .int (nI t3))] → W p l e room_1 s m #[Value.ref sb] below meth c H locs 1020 10500 Q (F0 m 644 ls []) := by
                                          intro d9
                                          induction d9 with
                                          | zero => intro t3 hd; exact absurd hd (Nat.not_lt_zero _)
                                          | succ d9 ih644 =>
                                            intro t3 hd644 ht3 H locs ls hK hS hl
                                            refine lv_iload hx hb dL_law_644 (lv_at hl 6 rfl) ?_
                                            refine lv_bipush (v := 100) hx hb dL_law_646 (by decide) ?_
                                            refine lv_icmp_ge (tgt := 671) hx hb dL_law_648 (by decide) (fun c648 => ?_) (fun c648 => ?_)
                                            · skip
                                              have n648 := (nI_leI (a := 100) (b := t3) (by omega) (by omega)).mp c648
                                              have loop671 : ∀ (d9 : Nat) (a1 : Nat) (ck7 : Nat → Nat) (pt7 : Nat → Nat → Int32), a1 < d9 → (a1 ≤ nS) → ∀ (H : Heap) (locs : List Loc) (ls : Array Slot), KB D A0 z xo [aI D ln 2 fl, aI D st9 130 fs, aI D ky 120 fk, aI D mn 2 fm] H 2 len sz ff1 nc1 ct2 cn2 bf2 a1 ck7 pt7 S3.1 S3.2.1 S3.2.2 → va_S A0 s.heap H locs → lv_has ls 12 [(0, .ref sb), (1, .ref xo), (2, .ref ln), (3, .ref st9), (4, .int (nI a1)), (5, .int bs)] → W p l e room_1 s m #[Value.ref sb] below meth c H locs 1020 10500 Q (F0 m 671 ls []) := by
                                                intro d9
                                                induction d9 with
                                                | zero => intro a1 ck7 pt7 hd; exact absurd hd (Nat.not_lt_zero _)
                                                | succ d9 ih671 =>
                                                  intro a1 ck7 pt7 hd671 ha1 H locs ls hK hS hl
                                                  refine lv_iload hx hb dL_law_671 (lv_at hl 4 rfl) ?_
                                                  refine lv_if_le (tgt := 691) hx hb dL_law_673 (by decide) (fun c673 => ?_) (fun c673 => ?_)
                                                  · skip
                                                    have n673 := (nI_leI (a := a1) (b := 0) (by omega) (by omega)).mp c673
                                                    obtain rfl : a1 = 0 := by omega
                                                    refine lv_aload_n hx hb dL_law_691 rfl (lv_at hl 1 rfl) ?_
                                                    refine k_end  hC hl.1 (Nat.le_of_ble_eq_true rfl) (Nat.le_of_ble_eq_true rfl) (by show _ ≤ 600086; omega) (by show _ ≤ 7301442; omega) (Nat.le_of_ble_eq_true rfl) hG hZL hA hS hK dL_law_692  ?_
                                                    refine tpi (y := 0) (rfl) ?_
                                                    refine lv_if_ne (tgt := 725) hx hb dL_law_695 (by decide) (fun h9 => (h9 (by decide)).elim) (fun _ => ?_)
                                                    refine lv_aload_n hx hb dL_law_698 rfl (lv_at hl 1 rfl) ?_
                                                    refine lv_iconst (v := 0) hx hb dL_law_699 (by decide) ?_
                                                    refine lv_sipush (v := 500) hx hb dL_law_700 (by decide) ?_
                                                    refine k_play (x := 0) (y := 500) hC hl.1 (Nat.le_of_ble_eq_true rfl) (Nat.le_of_ble_eq_true rfl) (by show _ ≤ 600086; omega) (by show _ ≤ 7301442; omega) (Nat.le_of_ble_eq_true rfl) hG hZL hA hS hK dL_law_703 (by decide) (by decide) (fun H locs hK hS => ?_)
                                                    have hK : KB D A0 z xo [aI D ln 2 fl, aI D st9 130 fs, aI D ky 120 fk, aI D mn 2 fm] H 2 len sz ff1 nc1 ct2 cn2 bf2 0 ck7 pt7 ((ncP (fun z => len (ck7 z)) pt7 (fun z => ct2 (ck7 z)) (fun z => cn2 (ck7 z)) (fun z => nc1 (ck7 z)) (fun i9 => (pt7 i9 3).toInt.toNat) 0 500 (0, S3.2.1, 0) 0).1) ((ncP (fun z => len (ck7 z)) pt7 (fun z => ct2 (ck7 z)) (fun z => cn2 (ck7 z)) (fun z => nc1 (ck7 z)) (fun i9 => (pt7 i9 3).toInt.toNat) 0 500 (0, S3.2.1, 0) 0).2.1) ((ncP (fun z => len (ck7 z)) pt7 (fun z => ct2 (ck7 z)) (fun z => cn2 (ck7 z)) (fun z => nc1 (ck7 z)) (fun i9 => (pt7 i9 3).toInt.toNat) 0 500 (0, S3.2.1, 0) 0).2.2) := hK
                                                    refine tpi (y := 0) (rfl) ?_
                                                    refine lv_if_ne (tgt := 725) hx hb dL_law_706 (by decide) (fun h9 => (h9 (by decide)).elim) (fun _ => ?_)
                                                    refine lv_aload_n hx hb dL_law_709 rfl (lv_at hl 1 rfl) ?_
                                                    refine lv_iconst (v := 1) hx hb dL_law_710 (by decide) ?_
                                                    refine lv_bipush (v := 50) hx hb dL_law_711 (by decide) ?_
                                                    refine k_at (j := 1) (x := 50) hC hl.1 (Nat.le_of_ble_eq_true rfl) (Nat.le_of_ble_eq_true rfl) (by show _ ≤ 600086; omega) (by show _ ≤ 7301442; omega) (Nat.le_of_ble_eq_true rfl) hG hZL hA hS hK dL_law_713 (by omega) (by decide) (fun H locs hK hS => ?_)
                                                    have hK : KB D A0 z xo [aI D ln 2 fl, aI D st9 130 fs, aI D ky 120 fk, aI D mn 2 fm] H 2 len sz ff1 nc1 ct2 cn2 bf2 0 ck7 pt7 ((ncP (fun z => len (ck7 z)) pt7 (fun z => ct2 (ck7 z)) (fun z => cn2 (ck7 z)) (fun z => nc1 (ck7 z)) (fun i9 => (pt7 i9 3).toInt.toNat) 0 500 (0, S3.2.1, 0) 0).1) ((ncP (fun z => len (ck7 z)) pt7 (fun z => ct2 (ck7 z)) (fun z => cn2 (ck7 z)) (fun z => nc1 (ck7 z)) (fun i9 => (pt7 i9 3).toInt.toNat) 0 500 (0, S3.2.1, 0) 0).2.1) ((ncP (fun z => len (ck7 z)) pt7 (fun z => ct2 (ck7 z)) (fun z => cn2 (ck7 z)) (fun z => nc1 (ck7 z)) (fun i9 => (pt7 i9 3).toInt.toNat) 0 500 (0, S3.2.1, 0) 0).2.2) := hK
                                                    refine tpi (y := bs) ((at_base (j := 1) (fun z hz => absurd hz (Nat.not_lt_zero _))).trans hb1) ?_
                                                    refine lv_iload hx hb dL_law_716 (lv_at hl 5 rfl) ?_
                                                    refine lv_icmp_ne (tgt := 725) hx hb dL_law_718 (by decide) (fun c718 => absurd (rfl) c718) (fun c718 => ?_)
                                                    refine lv_iconst (v := 1) hx hb dL_law_721 (by decide) ?_
                                                    refine lv_goto (tgt := 726) hx hb dL_law_722 (by decide) ?_
                                                    refine W.widen (k := 600086) (n := 7301442) (by omega) (by omega) ?_
                                                    exact hfin _ _ _ hS
                                                  · skip
                                                    have n673 := mt (nI_leI (a := a1) (b := 0) (by omega) (by omega)).mpr c673
                                                    refine lv_iinc (v := nI (a1 - 1)) (lv' := [(4, .int (nI (a1 - 1))), (0, .ref sb), (1, .ref xo), (2, .ref ln), (3, .ref st9), (5, .int bs)]) hx hb dL_law_676 hl (k := 4) rfl (sb_m1 (by omega)) (by decide) rfl (fun ls hl => ?_)
                                                    refine lv_aload_n hx hb dL_law_679 rfl (lv_at hl 2 rfl) ?_
                                                    refine lv_iconst (v := 0) hx hb dL_law_680 (by decide) ?_
                                                    refine k_removeStrip (s0 := 0) hC hl.1 (Nat.le_of_ble_eq_true rfl) (Nat.le_of_ble_eq_true rfl) (by show _ ≤ 600086; omega) (by show _ ≤ 7301442; omega) (Nat.le_of_ble_eq_true rfl) hG hZL hA hS hK dL_law_681 (by omega) (fun H locs hK hS => ?_)
                                                    have hK : KB D A0 z xo [aI D ln 2 fl, aI D st9 130 fs, aI D ky 120 fk, aI D mn 2 fm] H 2 len sz ff1 nc1 ct2 cn2 bf2 (a1 - 1) (shC ck7 0) (shC pt7 0) S3.1 S3.2.1 S3.2.2 := hK
                                                    refine lv_iload hx hb dL_law_684 (lv_at hl 0 rfl) ?_
                                                    refine lv_icmp_eq (tgt := 671) hx hb dL_law_686 (by decide) (fun _ => ?_) (fun h9 => absurd ((nI_eq (a := a1 - 1) (b := a1 - 1) (by omega) (by omega)).mpr (by omega)) h9)
                                                    exact ih671 (a1 - 1) (shC ck7 0) (shC pt7 0) (by omega) (by omega) _ _ _ hK hS (lv_sub hl [1, 2, 3, 4, 0, 5] rfl)
                                              exact loop671 _ nS ck pt6 (Nat.lt_succ_self _) (by omega) _ _ _ hK hS (lv_sub hl [0, 1, 2, 3, 4, 5] rfl)
                                            · skip
                                              have n648 := mt (nI_leI (a := 100) (b := t3) (by omega) (by omega)).mpr c648
                                              refine lv_aload_n hx hb dL_law_651 rfl (lv_at hl 1 rfl) ?_
                                              refine lv_iconst (v := 1) hx hb dL_law_652 (by decide) ?_
                                              refine lv_iload hx hb dL_law_653 (lv_at hl 6 rfl) ?_
                                              refine k_at (j := 1) (x := nI t3) hC hl.1 (Nat.le_of_ble_eq_true rfl) (Nat.le_of_ble_eq_true rfl) (by show _ ≤ 600086; omega) (by show _ ≤ 7301442; omega) (Nat.le_of_ble_eq_true rfl) hG hZL hA hS hK dL_law_655 (by omega) (⟨(nI_leI (a := 0) (b := t3) (by omega) (by omega)).mpr (by omega), (nI_leI (a := t3) (b := 100000) (by omega) (by omega)).mpr (by omega)⟩) (fun H locs hK hS => ?_)
                                              have hK : KB D A0 z xo [aI D ln 2 fl, aI D st9 130 fs, aI D ky 120 fk, aI D mn 2 fm] H 2 len sz ff1 nc1 ct2 cn2 bf2 nS ck pt6 S3.1 S3.2.1 S3.2.2 := hK
                                              refine tpi (y := bs) ((at_base (j := 1) (fun z hz => bl_0 ((hK.inv.1).2.2.2.2.2.1 z hz).2.2 (hp6 z (by omega)) (y0_of ⟨(nI_leI (a := 0) (b := t3) (by omega) (by omega)).mpr (by omega), (nI_leI (a := t3) (b := 100000) (by omega) (by omega)).mpr (by omega)⟩).1 (y0_of ⟨(nI_leI (a := 0) (b := t3) (by omega) (by omega)).mpr (by omega), (nI_leI (a := t3) (b := 100000) (by omega) (by omega)).mpr (by omega)⟩).2)).trans hb1) ?_
                                              refine lv_iload hx hb dL_law_658 (lv_at hl 5 rfl) ?_
                                              refine lv_icmp_eq (tgt := 665) hx hb dL_law_660 (by decide) (fun c660 => ?_) (fun c660 => absurd (rfl) c660)
                                              refine lv_iinc (v := nI (t3 + 7)) (lv' := [(11, .int (nI (t3 + 7))), (0, .ref sb), (1, .ref xo), (2, .ref ln), (3, .ref st9), (4, .int (nI nS)), (5, .int bs)]) hx hb dL_law_665 hl (k := 6) rfl ((congrArg (fun v => nI t3 + v) (show Int32.ofInt 7 = nI 7 by decide)).trans (nI_add t3 7)) (by decide) rfl (fun ls hl => ?_)
                                              refine lv_goto (tgt := 644) hx hb dL_law_668 (by decide) ?_
                                              exact ih644 (t3 + 7) (by omega) (by omega) _ _ _ hK hS (lv_sub hl [1, 2, 3, 4, 5, 6, 0] rfl)
                                        exact loop644 _ 0 (Nat.lt_succ_self _) (by omega) _ _ _ hK hS (lv_sub hl [1, 2, 3, 4, 5, 6, 0] rfl)
                                      · skip
                                        have n610 := mt (nI_leI (a := nS) (b := i6) (by omega) (by omega)).mpr c610
                                        refine lv_aload_n hx hb dL_law_613 rfl (lv_at hl 1 rfl) ?_
                                        refine lv_iload hx hb dL_law_614 (lv_at hl 6 rfl) ?_
                                        refine lv_iconst (v := 0) hx hb dL_law_616 (by decide) ?_
                                        refine lv_iconst (v := 0) hx hb dL_law_617 (by decide) ?_
                                        refine lv_iload hx hb dL_law_618 (lv_at hl 6 rfl) ?_
                                        refine lv_iconst (v := 2) hx hb dL_law_620 (by decide) ?_
                                        refine lv_irem hx hb dL_law_621 (by decide) ?_
                                        refine tpi (y := nI (i6 % 2)) (pk_rem (a := i6) (d := 2) (by omega) (by decide) (by decide)) ?_
                                        have join622 : ∀ b622 : Int32, (b622 = 0 ∨ b622 = 1) → W p l e room_1 s m #[Value.ref sb] below meth c H locs 1020 10500 Q (F0 m 630 ls [.int b622, .int 0, .int 0, .int (nI i6), .ref xo]) := by
                                          intro b622 hb622
                                          refine lv_iconst (v := 0) hx hb dL_law_630 (by decide) ?_
                                          refine k_setBlend (s0 := i6) (x := 0) (y := 0) (ad := b622) (hd := 0) hC hl.1 (Nat.le_of_ble_eq_true rfl) (Nat.le_of_ble_eq_true rfl) (by show _ ≤ 600086; omega) (by show _ ≤ 7301442; omega) (Nat.le_of_ble_eq_true rfl) hG hZL hA hS hK dL_law_631 (by omega) (by decide) (hb622) (Or.inl rfl) (fun H locs hK hS => ?_)
                                          have hK : KB D A0 z xo [aI D ln 2 fl, aI D st9 130 fs, aI D ky 120 fk, aI D mn 2 fm] H 2 len sz ff1 nc1 ct2 cn2 bf2 nS ck (upC pt6 i6 (upd (upd (upd (upd (pt6 i6) 7 0) 8 0) 9 b622) 10 0)) S3.1 S3.2.1 S3.2.2 := hK
                                          obtain ⟨pt8, hpt8⟩ : ∃ z9, z9 = upC pt6 i6 (upd (upd (upd (upd (pt6 i6) 7 0) 8 0) 9 b622) 10 0) := ⟨_, rfl⟩
                                          have hK : KB D A0 z xo [aI D ln 2 fl, aI D st9 130 fs, aI D ky 120 fk, aI D mn 2 fm] H 2 len sz ff1 nc1 ct2 cn2 bf2 nS ck pt8 S3.1 S3.2.1 S3.2.2 := by rw [hpt8]; exact hK
                                          have hp8 : ∀ q, q < i6 + 1 → pt8 q 8 = 0 := fun q hq => by
                                            rw [hpt8]
                                            by_cases e9 : q = i6
                                            · rw [e9, upC_at]
                                              rfl
                                            · rw [upC_ne e9]
                                              exact hp6 q (by omega)
                                          refine lv_pop hx hb dL_law_634 rfl ?_
                                          refine lv_iinc (v := nI (i6 + 1)) (lv' := [(11, .int (nI (i6 + 1))), (0, .ref sb), (1, .ref xo), (2, .ref ln), (3, .ref st9), (4, .int (nI nS)), (5, .int bs)]) hx hb dL_law_635 hl (k := 6) rfl (nI_1 _) (by decide) rfl (fun ls hl => ?_)
                                          refine lv_goto (tgt := 606) hx hb dL_law_638 (by decide) ?_
                                          exact ih606 (i6 + 1) pt8 (by omega) (by omega) (hp8) _ _ _ hK hS (lv_sub hl [1, 2, 3, 4, 5, 6, 0] rfl)
                                        refine lv_if_ne (tgt := 629) hx hb dL_law_622 (by decide) (fun c622 => ?_) (fun c622 => ?_)
                                        · skip
                                          have n622 := mt (nI_eq (a := i6 % 2) (b := 0) (by omega) (by omega)).mpr c622
                                          refine lv_iconst (v := 0) hx hb dL_law_629 (by decide) ?_
                                          exact join622 0 (Or.inl rfl)
                                        · skip
                                          have n622 := (nI_eq (a := i6 % 2) (b := 0) (by omega) (by omega)).mp c622
                                          refine lv_iconst (v := 1) hx hb dL_law_625 (by decide) ?_
                                          refine lv_goto (tgt := 630) hx hb dL_law_626 (by decide) ?_
                                          exact join622 1 (Or.inr rfl)
                                  have hK := hK.less (n := 4)
                                  have hK : KB D A0 z xo [aI D ln 2 fl, aI D st9 130 fs, aI D ky 120 fk, aI D mn 2 fm] H 2 len sz ff1 nc1 ct2 cn2 bf2 nS ck pt0 S3.1 S3.2.1 S3.2.2 := hK
                                  refine W.widen (k := 1020) (n := 10500) (by omega) (by omega) ?_
                                  exact loop606 _ 0 pt0 (Nat.lt_succ_self _) (by omega) (fun q hq => absurd hq (Nat.not_lt_zero _)) _ _ _ hK hS (lv_sub hl [2, 3, 4, 5, 6, 7, 0] rfl)
                                · skip
                                  have n559 := mt (nI_leI (a := M2) (b := 0) (by omega) (by omega)).mpr c559
                                  refine lv_aload_n hx hb dL_law_562 rfl (lv_at hl 2 rfl) ?_
                                  refine lv_iload hx hb dL_law_563 (lv_at hl 0 rfl) ?_
                                  refine lv_bipush (v := 100) hx hb dL_law_565 (by decide) ?_
                                  refine va_mmin hx hb (by rw [hml]; exact hl.1.symm) hown (hts _ mM_L_70) (hts _ mT_Lib_Math_min_name) (hts _ mN__java_lang_Math_) (hts _ mC_Lib_Math_min_name) (Nat.le_of_ble_eq_true rfl) (Nat.le_of_ble_eq_true rfl) (by show _ ≤ 600086; omega) (by show _ ≤ 7301442; omega) dL_law_567 ?_
                                  refine tpi (y := nI (min M2 100)) (mn100' (by omega)) ?_
                                  refine lv_iconst (v := 1) hx hb dL_law_570 (by decide) ?_
                                  refine lv_isub hx hb dL_law_571 ?_
                                  refine tpi (y := nI ((min M2 100) - 1)) (pk_sub (a := (min M2 100)) (b := 1) (by omega)) ?_
                                  refine lv_iconst (v := 0) hx hb dL_law_572 (by decide) ?_
                                  refine k_met (d := (min M2 100) - 1) (w := 0) hC hl.1 (Nat.le_of_ble_eq_true rfl) (Nat.le_of_ble_eq_true rfl) (by show _ ≤ 600086; omega) (by show _ ≤ 7301442; omega) (Nat.le_of_ble_eq_true rfl) hG hZL hA hS hK dL_law_573 (by have := hN2.1; omega) (by omega) ?_
                                  refine lv_iload hx hb dL_law_576 (lv_at hl 7 rfl) ?_
                                  refine lv_icmp_le (tgt := 583) hx hb dL_law_578 (by decide) (fun c578 => ?_) (fun c578 => absurd ((hN2.2.2.2 _ (by have := hN2.1; omega)).2) c578)
                                  refine lv_iload hx hb dL_law_583 (lv_at hl 0 rfl) ?_
                                  refine lv_aload_n hx hb dL_law_585 rfl (lv_at hl 2 rfl) ?_
                                  refine lv_iload hx hb dL_law_586 (lv_at hl 7 rfl) ?_
                                  refine lv_iconst (v := 1) hx hb dL_law_588 (by decide) ?_
                                  refine lv_iadd hx hb dL_law_589 ?_
                                  refine lv_ldc hx hb hown (hts _ mG_L_90) dL_law_590 ?_
                                  refine k_play (x := (nI k472) + 1) (y := 100000) hC hl.1 (Nat.le_of_ble_eq_true rfl) (Nat.le_of_ble_eq_true rfl) (by show _ ≤ 600086; omega) (by show _ ≤ 7301442; omega) (Nat.le_of_ble_eq_true rfl) hG hZL hA hS hK dL_law_592 (by rw [nI_1]; exact ⟨(nI_leI (a := 0) (b := (k472 + 1)) (by omega) (by omega)).mpr (by omega), (nI_leI (a := (k472 + 1)) (b := 100000) (by omega) (by omega)).mpr (by omega)⟩) (⟨by rw [nI_1]; exact (nI_leI (a := k472 + 1) (b := 100000) (by omega) (by omega)).mpr (by omega), by decide⟩) (fun H locs hK hS => ?_)
                                  have hK : KB D A0 z xo [aI D ln 2 fl, aI D st9 130 fs, aI D ky 120 fk, aI D mn 2 fm, aI D q493 (min M1 100) ft9] H 2 len sz ff1 nc1 ct2 cn2 bf2 nS ck pt0 ((ncP (fun z => len (ck z)) pt0 (fun z => ct2 (ck z)) (fun z => cn2 (ck z)) (fun z => nc1 (ck z)) (fun i9 => (pt0 i9 3).toInt.toNat) ((nI k472) + 1) 100000 (0, S2.2.1, 0) nS).1) ((ncP (fun z => len (ck z)) pt0 (fun z => ct2 (ck z)) (fun z => cn2 (ck z)) (fun z => nc1 (ck z)) (fun i9 => (pt0 i9 3).toInt.toNat) ((nI k472) + 1) 100000 (0, S2.2.1, 0) nS).2.1) ((ncP (fun z => len (ck z)) pt0 (fun z => ct2 (ck z)) (fun z => cn2 (ck z)) (fun z => nc1 (ck z)) (fun i9 => (pt0 i9 3).toInt.toNat) ((nI k472) + 1) 100000 (0, S2.2.1, 0) nS).2.2) := hK
                                  obtain ⟨S3, hS3⟩ : ∃ z9, z9 = ncP (fun z => len (ck z)) pt0 (fun z => ct2 (ck z)) (fun z => cn2 (ck z)) (fun z => nc1 (ck z)) (fun i9 => (pt0 i9 3).toInt.toNat) ((nI k472) + 1) 100000 (0, S2.2.1, 0) nS := ⟨_, rfl⟩
                                  have hK : KB D A0 z xo [aI D ln 2 fl, aI D st9 130 fs, aI D ky 120 fk, aI D mn 2 fm, aI D q493 (min M1 100) ft9] H 2 len sz ff1 nc1 ct2 cn2 bf2 nS ck pt0 S3.1 S3.2.1 S3.2.2 := by rw [hS3]; exact hK
                                  refine tpi (y := S3.2.2) (by rw [hS3]) ?_
                                  have hCut : nI M2 + S3.2.2 = nI M1 := by
                                    rw [← hN2.2.1, ← hN1.2.1, hS1, hS2, hS3]
                                    exact ncP_cut (nI_pos' (by omega)) ((nI_ltI (a := k472) (b := 100000) (by omega) (by omega)).mpr (by omega)) nS
                                  refine lv_iadd hx hb dL_law_595 ?_
                                  refine tpi (y := nI M1) (hCut) ?_
                                  refine lv_iload hx hb dL_law_596 (lv_at hl 8 rfl) ?_
                                  refine lv_icmp_eq (tgt := 603) hx hb dL_law_598 (by decide) (fun _ => ?_) (fun h9 => absurd ((nI_eq (a := M1) (b := M1) (by omega) (by omega)).mpr (by omega)) h9)
                                  refine lv_iconst (v := 0) hx hb dL_law_603 (by decide) ?_
                                  refine lv_istore (lv' := [(11, .int 0), (10, .int (nI M2)), (0, .ref sb), (1, .ref xo), (2, .ref ln), (3, .ref st9), (4, .int (nI nS)), (5, .int bs), (7, .int (nI k472)), (8, .int (nI M1)), (9, .ref q493)]) hx hb dL_law_604 hl (by decide) rfl (fun ls hl => ?_)
                                  have loop606 : ∀ (d9 : Nat) (i6 : Nat) (pt6 : Nat → Nat → Int32), (nS - i6) < d9 → (i6 ≤ nS) → (∀ q, q < i6 → pt6 q 8 = 0) → ∀ (H : Heap) (locs : List Loc) (ls : Array Slot), KB D A0 z xo [aI D ln 2 fl, aI D st9 130 fs, aI D ky 120 fk, aI D mn 2 fm] H 2 len sz ff1 nc1 ct2 cn2 bf2 nS ck pt6 S3.1 S3.2.1 S3.2.2 → va_S A0 s.heap H locs → lv_has ls 12 [(0, .ref sb), (1, .ref xo), (2, .ref ln), (3, .ref st9), (4, .int (nI nS)), (5, .int bs), (11, .int (nI i6))] → W p l e room_1 s m #[Value.ref sb] below meth c H locs 1020 10500 Q (F0 m 606 ls []) := by
                                    intro d9
                                    induction d9 with
                                    | zero => intro i6 pt6 hd; exact absurd hd (Nat.not_lt_zero _)
                                    | succ d9 ih606 =>
                                      intro i6 pt6 hd606 hi6 hp6 H locs ls hK hS hl
                                      refine lv_iload hx hb dL_law_606 (lv_at hl 6 rfl) ?_
                                      refine lv_iload hx hb dL_law_608 (lv_at hl 4 rfl) ?_
                                      refine lv_icmp_ge (tgt := 641) hx hb dL_law_610 (by decide) (fun c610 => ?_) (fun c610 => ?_)
                                      · skip
                                        have n610 := (nI_leI (a := nS) (b := i6) (by omega) (by omega)).mp c610
                                        refine lv_iconst (v := 0) hx hb dL_law_641 (by decide) ?_
                                        refine lv_istore (lv' := [(11, .int 0), (0, .ref sb), (1, .ref xo), (2, .ref ln), (3, .ref st9), (4, .int (nI nS)), (5, .int bs)]) hx hb dL_law_642 hl (by decide) rfl (fun ls hl => ?_)
                                        have loop644 : ∀ (d9 : Nat) (t3 : Nat), (201 - t3) < d9 → (t3 ≤ 200) → ∀ (H : Heap) (locs : List Loc) (ls : Array Slot), KB D A0 z xo [aI D ln 2 fl, aI D st9 130 fs, aI D ky 120 fk, aI D mn 2 fm] H 2 len sz ff1 nc1 ct2 cn2 bf2 nS ck pt6 S3.1 S3.2.1 S3.2.2 → va_S A0 s.heap H locs → lv_has ls 12 [(0, .ref sb), (1, .ref xo), (2, .ref ln), (3, .ref st9), (4, .int (nI nS)), (5, .int bs), (11, .int (nI t3))] → W p l e room_1 s m #[Value.ref sb] below meth c H locs 1020 10500 Q (F0 m 644 ls []) := by
                                          intro d9
                                          induction d9 with
                                          | zero => intro t3 hd; exact absurd hd (Nat.not_lt_zero _)
                                          | succ d9 ih644 =>
                                            intro t3 hd644 ht3 H locs ls hK hS hl
                                            refine lv_iload hx hb dL_law_644 (lv_at hl 6 rfl) ?_
                                            refine lv_bipush (v := 100) hx hb dL_law_646 (by decide) ?_
                                            refine lv_icmp_ge (tgt := 671) hx hb dL_law_648 (by decide) (fun c648 => ?_) (fun c648 => ?_)
                                            · skip
                                              have n648 := (nI_leI (a := 100) (b := t3) (by omega) (by omega)).mp c648
                                              have loop671 : ∀ (d9 : Nat) (a1 : Nat) (ck7 : Nat → Nat) (pt7 : Nat → Nat → Int32), a1 < d9 → (a1 ≤ nS) → ∀ (H : Heap) (locs : List Loc) (ls : Array Slot), KB D A0 z xo [aI D ln 2 fl, aI D st9 130 fs, aI D ky 120 fk, aI D mn 2 fm] H 2 len sz ff1 nc1 ct2 cn2 bf2 a1 ck7 pt7 S3.1 S3.2.1 S3.2.2 → va_S A0 s.heap H locs → lv_has ls 12 [(0, .ref sb), (1, .ref xo), (2, .ref ln), (3, .ref st9), (4, .int (nI a1)), (5, .int bs)] → W p l e room_1 s m #[Value.ref sb] below meth c H locs 1020 10500 Q (F0 m 671 ls []) := by
                                                intro d9
                                                induction d9 with
                                                | zero => intro a1 ck7 pt7 hd; exact absurd hd (Nat.not_lt_zero _)
                                                | succ d9 ih671 =>
                                                  intro a1 ck7 pt7 hd671 ha1 H locs ls hK hS hl
                                                  refine lv_iload hx hb dL_law_671 (lv_at hl 4 rfl) ?_
                                                  refine lv_if_le (tgt := 691) hx hb dL_law_673 (by decide) (fun c673 => ?_) (fun c673 => ?_)
                                                  · skip
                                                    have n673 := (nI_leI (a := a1) (b := 0) (by omega) (by omega)).mp c673
                                                    obtain rfl : a1 = 0 := by omega
                                                    refine lv_aload_n hx hb dL_law_691 rfl (lv_at hl 1 rfl) ?_
                                                    refine k_end  hC hl.1 (Nat.le_of_ble_eq_true rfl) (Nat.le_of_ble_eq_true rfl) (by show _ ≤ 600086; omega) (by show _ ≤ 7301442; omega) (Nat.le_of_ble_eq_true rfl) hG hZL hA hS hK dL_law_692  ?_
                                                    refine tpi (y := 0) (rfl) ?_
                                                    refine lv_if_ne (tgt := 725) hx hb dL_law_695 (by decide) (fun h9 => (h9 (by decide)).elim) (fun _ => ?_)
                                                    refine lv_aload_n hx hb dL_law_698 rfl (lv_at hl 1 rfl) ?_
                                                    refine lv_iconst (v := 0) hx hb dL_law_699 (by decide) ?_
                                                    refine lv_sipush (v := 500) hx hb dL_law_700 (by decide) ?_
                                                    refine k_play (x := 0) (y := 500) hC hl.1 (Nat.le_of_ble_eq_true rfl) (Nat.le_of_ble_eq_true rfl) (by show _ ≤ 600086; omega) (by show _ ≤ 7301442; omega) (Nat.le_of_ble_eq_true rfl) hG hZL hA hS hK dL_law_703 (by decide) (by decide) (fun H locs hK hS => ?_)
                                                    have hK : KB D A0 z xo [aI D ln 2 fl, aI D st9 130 fs, aI D ky 120 fk, aI D mn 2 fm] H 2 len sz ff1 nc1 ct2 cn2 bf2 0 ck7 pt7 ((ncP (fun z => len (ck7 z)) pt7 (fun z => ct2 (ck7 z)) (fun z => cn2 (ck7 z)) (fun z => nc1 (ck7 z)) (fun i9 => (pt7 i9 3).toInt.toNat) 0 500 (0, S3.2.1, 0) 0).1) ((ncP (fun z => len (ck7 z)) pt7 (fun z => ct2 (ck7 z)) (fun z => cn2 (ck7 z)) (fun z => nc1 (ck7 z)) (fun i9 => (pt7 i9 3).toInt.toNat) 0 500 (0, S3.2.1, 0) 0).2.1) ((ncP (fun z => len (ck7 z)) pt7 (fun z => ct2 (ck7 z)) (fun z => cn2 (ck7 z)) (fun z => nc1 (ck7 z)) (fun i9 => (pt7 i9 3).toInt.toNat) 0 500 (0, S3.2.1, 0) 0).2.2) := hK
                                                    refine tpi (y := 0) (rfl) ?_
                                                    refine lv_if_ne (tgt := 725) hx hb dL_law_706 (by decide) (fun h9 => (h9 (by decide)).elim) (fun _ => ?_)
                                                    refine lv_aload_n hx hb dL_law_709 rfl (lv_at hl 1 rfl) ?_
                                                    refine lv_iconst (v := 1) hx hb dL_law_710 (by decide) ?_
                                                    refine lv_bipush (v := 50) hx hb dL_law_711 (by decide) ?_
                                                    refine k_at (j := 1) (x := 50) hC hl.1 (Nat.le_of_ble_eq_true rfl) (Nat.le_of_ble_eq_true rfl) (by show _ ≤ 600086; omega) (by show _ ≤ 7301442; omega) (Nat.le_of_ble_eq_true rfl) hG hZL hA hS hK dL_law_713 (by omega) (by decide) (fun H locs hK hS => ?_)
                                                    have hK : KB D A0 z xo [aI D ln 2 fl, aI D st9 130 fs, aI D ky 120 fk, aI D mn 2 fm] H 2 len sz ff1 nc1 ct2 cn2 bf2 0 ck7 pt7 ((ncP (fun z => len (ck7 z)) pt7 (fun z => ct2 (ck7 z)) (fun z => cn2 (ck7 z)) (fun z => nc1 (ck7 z)) (fun i9 => (pt7 i9 3).toInt.toNat) 0 500 (0, S3.2.1, 0) 0).1) ((ncP (fun z => len (ck7 z)) pt7 (fun z => ct2 (ck7 z)) (fun z => cn2 (ck7 z)) (fun z => nc1 (ck7 z)) (fun i9 => (pt7 i9 3).toInt.toNat) 0 500 (0, S3.2.1, 0) 0).2.1) ((ncP (fun z => len (ck7 z)) pt7 (fun z => ct2 (ck7 z)) (fun z => cn2 (ck7 z)) (fun z => nc1 (ck7 z)) (fun i9 => (pt7 i9 3).toInt.toNat) 0 500 (0, S3.2.1, 0) 0).2.2) := hK
                                                    refine tpi (y := bs) ((at_base (j := 1) (fun z hz => absurd hz (Nat.not_lt_zero _))).trans hb1) ?_
                                                    refine lv_iload hx hb dL_law_716 (lv_at hl 5 rfl) ?_
                                                    refine lv_icmp_ne (tgt := 725) hx hb dL_law_718 (by decide) (fun c718 => absurd (rfl) c718) (fun c718 => ?_)
                                                    refine lv_iconst (v := 1) hx hb dL_law_721 (by decide) ?_
                                                    refine lv_goto (tgt := 726) hx hb dL_law_722 (by decide) ?_
                                                    refine W.widen (k := 600086) (n := 7301442) (by omega) (by omega) ?_
                                                    exact hfin _ _ _ hS
                                                  · skip
                                                    have n673 := mt (nI_leI (a := a1) (b := 0) (by omega) (by omega)).mpr c673
                                                    refine lv_iinc (v := nI (a1 - 1)) (lv' := [(4, .int (nI (a1 - 1))), (0, .ref sb), (1, .ref xo), (2, .ref ln), (3, .ref st9), (5, .int bs)]) hx hb dL_law_676 hl (k := 4) rfl (sb_m1 (by omega)) (by decide) rfl (fun ls hl => ?_)
                                                    refine lv_aload_n hx hb dL_law_679 rfl (lv_at hl 2 rfl) ?_
                                                    refine lv_iconst (v := 0) hx hb dL_law_680 (by decide) ?_
                                                    refine k_removeStrip (s0 := 0) hC hl.1 (Nat.le_of_ble_eq_true rfl) (Nat.le_of_ble_eq_true rfl) (by show _ ≤ 600086; omega) (by show _ ≤ 7301442; omega) (Nat.le_of_ble_eq_true rfl) hG hZL hA hS hK dL_law_681 (by omega) (fun H locs hK hS => ?_)
                                                    have hK : KB D A0 z xo [aI D ln 2 fl, aI D st9 130 fs, aI D ky 120 fk, aI D mn 2 fm] H 2 len sz ff1 nc1 ct2 cn2 bf2 (a1 - 1) (shC ck7 0) (shC pt7 0) S3.1 S3.2.1 S3.2.2 := hK
                                                    refine lv_iload hx hb dL_law_684 (lv_at hl 0 rfl) ?_
                                                    refine lv_icmp_eq (tgt := 671) hx hb dL_law_686 (by decide) (fun _ => ?_) (fun h9 => absurd ((nI_eq (a := a1 - 1) (b := a1 - 1) (by omega) (by omega)).mpr (by omega)) h9)
                                                    exact ih671 (a1 - 1) (shC ck7 0) (shC pt7 0) (by omega) (by omega) _ _ _ hK hS (lv_sub hl [1, 2, 3, 4, 0, 5] rfl)
                                              exact loop671 _ nS ck pt6 (Nat.lt_succ_self _) (by omega) _ _ _ hK hS (lv_sub hl [0, 1, 2, 3, 4, 5] rfl)
                                            · skip
                                              have n648 := mt (nI_leI (a := 100) (b := t3) (by omega) (by omega)).mpr c648
                                              refine lv_aload_n hx hb dL_law_651 rfl (lv_at hl 1 rfl) ?_
                                              refine lv_iconst (v := 1) hx hb dL_law_652 (by decide) ?_
                                              refine lv_iload hx hb dL_law_653 (lv_at hl 6 rfl) ?_
                                              refine k_at (j := 1) (x := nI t3) hC hl.1 (Nat.le_of_ble_eq_true rfl) (Nat.le_of_ble_eq_true rfl) (by show _ ≤ 600086; omega) (by show _ ≤ 7301442; omega) (Nat.le_of_ble_eq_true rfl) hG hZL hA hS hK dL_law_655 (by omega) (⟨(nI_leI (a := 0) (b := t3) (by omega) (by omega)).mpr (by omega), (nI_leI (a := t3) (b := 100000) (by omega) (by omega)).mpr (by omega)⟩) (fun H locs hK hS => ?_)
                                              have hK : KB D A0 z xo [aI D ln 2 fl, aI D st9 130 fs, aI D ky 120 fk, aI D mn 2 fm] H 2 len sz ff1 nc1 ct2 cn2 bf2 nS ck pt6 S3.1 S3.2.1 S3.2.2 := hK
                                              refine tpi (y := bs) ((at_base (j := 1) (fun z hz => bl_0 ((hK.inv.1).2.2.2.2.2.1 z hz).2.2 (hp6 z (by omega)) (y0_of ⟨(nI_leI (a := 0) (b := t3) (by omega) (by omega)).mpr (by omega), (nI_leI (a := t3) (b := 100000) (by omega) (by omega)).mpr (by omega)⟩).1 (y0_of ⟨(nI_leI (a := 0) (b := t3) (by omega) (by omega)).mpr (by omega), (nI_leI (a := t3) (b := 100000) (by omega) (by omega)).mpr (by omega)⟩).2)).trans hb1) ?_
                                              refine lv_iload hx hb dL_law_658 (lv_at hl 5 rfl) ?_
                                              refine lv_icmp_eq (tgt := 665) hx hb dL_law_660 (by decide) (fun c660 => ?_) (fun c660 => absurd (rfl) c660)
                                              refine lv_iinc (v := nI (t3 + 7)) (lv' := [(11, .int (nI (t3 + 7))), (0, .ref sb), (1, .ref xo), (2, .ref ln), (3, .ref st9), (4, .int (nI nS)), (5, .int bs)]) hx hb dL_law_665 hl (k := 6) rfl ((congrArg (fun v => nI t3 + v) (show Int32.ofInt 7 = nI 7 by decide)).trans (nI_add t3 7)) (by decide) rfl (fun ls hl => ?_)
                                              refine lv_goto (tgt := 644) hx hb dL_law_668 (by decide) ?_
                                              exact ih644 (t3 + 7) (by omega) (by omega) _ _ _ hK hS (lv_sub hl [1, 2, 3, 4, 5, 6, 0] rfl)
                                        exact loop644 _ 0 (Nat.lt_succ_self _) (by omega) _ _ _ hK hS (lv_sub hl [1, 2, 3, 4, 5, 6, 0] rfl)
                                      · skip
                                        have n610 := mt (nI_leI (a := nS) (b := i6) (by omega) (by omega)).mpr c610
                                        refine lv_aload_n hx hb dL_law_613 rfl (lv_at hl 1 rfl) ?_
                                        refine lv_iload hx hb dL_law_614 (lv_at hl 6 rfl) ?_
                                        refine lv_iconst (v := 0) hx hb dL_law_616 (by decide) ?_
                                        refine lv_iconst (v := 0) hx hb dL_law_617 (by decide) ?_
                                        refine lv_iload hx hb dL_law_618 (lv_at hl 6 rfl) ?_
                                        refine lv_iconst (v := 2) hx hb dL_law_620 (by decide) ?_
                                        refine lv_irem hx hb dL_law_621 (by decide) ?_
                                        refine tpi (y := nI (i6 % 2)) (pk_rem (a := i6) (d := 2) (by omega) (by decide) (by decide)) ?_
                                        have join622 : ∀ b622 : Int32, (b622 = 0 ∨ b622 = 1) → W p l e room_1 s m #[Value.ref sb] below meth c H locs 1020 10500 Q (F0 m 630 ls [.int b622, .int 0, .int 0, .int (nI i6), .ref xo]) := by
                                          intro b622 hb622
                                          refine lv_iconst (v := 0) hx hb dL_law_630 (by decide) ?_
                                          refine k_setBlend (s0 := i6) (x := 0) (y := 0) (ad := b622) (hd := 0) hC hl.1 (Nat.le_of_ble_eq_true rfl) (Nat.le_of_ble_eq_true rfl) (by show _ ≤ 600086; omega) (by show _ ≤ 7301442; omega) (Nat.le_of_ble_eq_true rfl) hG hZL hA hS hK dL_law_631 (by omega) (by decide) (hb622) (Or.inl rfl) (fun H locs hK hS => ?_)
                                          have hK : KB D A0 z xo [aI D ln 2 fl, aI D st9 130 fs, aI D ky 120 fk, aI D mn 2 fm] H 2 len sz ff1 nc1 ct2 cn2 bf2 nS ck (upC pt6 i6 (upd (upd (upd (upd (pt6 i6) 7 0) 8 0) 9 b622) 10 0)) S3.1 S3.2.1 S3.2.2 := hK
                                          obtain ⟨pt8, hpt8⟩ : ∃ z9, z9 = upC pt6 i6 (upd (upd (upd (upd (pt6 i6) 7 0) 8 0) 9 b622) 10 0) := ⟨_, rfl⟩
                                          have hK : KB D A0 z xo [aI D ln 2 fl, aI D st9 130 fs, aI D ky 120 fk, aI D mn 2 fm] H 2 len sz ff1 nc1 ct2 cn2 bf2 nS ck pt8 S3.1 S3.2.1 S3.2.2 := by rw [hpt8]; exact hK
                                          have hp8 : ∀ q, q < i6 + 1 → pt8 q 8 = 0 := fun q hq => by
                                            rw [hpt8]
                                            by_cases e9 : q = i6
                                            · rw [e9, upC_at]
                                              rfl
                                            · rw [upC_ne e9]
                                              exact hp6 q (by omega)
                                          refine lv_pop hx hb dL_law_634 rfl ?_
                                          refine lv_iinc (v := nI (i6 + 1)) (lv' := [(11, .int (nI (i6 + 1))), (0, .ref sb), (1, .ref xo), (2, .ref ln), (3, .ref st9), (4, .int (nI nS)), (5, .int bs)]) hx hb dL_law_635 hl (k := 6) rfl (nI_1 _) (by decide) rfl (fun ls hl => ?_)
                                          refine lv_goto (tgt := 606) hx hb dL_law_638 (by decide) ?_
                                          exact ih606 (i6 + 1) pt8 (by omega) (by omega) (hp8) _ _ _ hK hS (lv_sub hl [1, 2, 3, 4, 5, 6, 0] rfl)
                                        refine lv_if_ne (tgt := 629) hx hb dL_law_622 (by decide) (fun c622 => ?_) (fun c622 => ?_)
                                        · skip
                                          have n622 := mt (nI_eq (a := i6 % 2) (b := 0) (by omega) (by omega)).mpr c622
                                          refine lv_iconst (v := 0) hx hb dL_law_629 (by decide) ?_
                                          exact join622 0 (Or.inl rfl)
                                        · skip
                                          have n622 := (nI_eq (a := i6 % 2) (b := 0) (by omega) (by omega)).mp c622
                                          refine lv_iconst (v := 1) hx hb dL_law_625 (by decide) ?_
                                          refine lv_goto (tgt := 630) hx hb dL_law_626 (by decide) ?_
                                          exact join622 1 (Or.inr rfl)
                                  have hK := hK.less (n := 4)
                                  have hK : KB D A0 z xo [aI D ln 2 fl, aI D st9 130 fs, aI D ky 120 fk, aI D mn 2 fm] H 2 len sz ff1 nc1 ct2 cn2 bf2 nS ck pt0 S3.1 S3.2.1 S3.2.2 := hK
                                  refine W.widen (k := 1020) (n := 10500) (by omega) (by omega) ?_
                                  exact loop606 _ 0 pt0 (Nat.lt_succ_self _) (by omega) (fun q hq => absurd hq (Nat.not_lt_zero _)) _ _ _ hK hS (lv_sub hl [2, 3, 4, 5, 6, 7, 0] rfl)
                              · skip
                                have n505 := mt (nI_leI (a := min M1 100) (b := i5) (by omega) (by omega)).mpr c505
                                refine lv_aload hx hb dL_law_508 (lv_at hl 8 rfl) ?_
                                refine lv_iload hx hb dL_law_510 (lv_at hl 9 rfl) ?_
                                refine lv_aload_n hx hb dL_law_512 rfl (lv_at hl 1 rfl) ?_
                                refine lv_iload hx hb dL_law_513 (lv_at hl 9 rfl) ?_
                                refine lv_iconst (v := 0) hx hb dL_law_515 (by decide) ?_
                                refine k_met (d := i5) (w := 0) hC hl.1 (Nat.le_of_ble_eq_true rfl) (Nat.le_of_ble_eq_true rfl) (by show _ ≤ 600086; omega) (by show _ ≤ 7301442; omega) (Nat.le_of_ble_eq_true rfl) hG hZL hA hS hK dL_law_516 (by have := hN1.1; omega) (by omega) ?_
                                refine kist (n := min M1 100) (j := i5) hx hb hG hK hS 4 rfl (by omega) (by omega) dL_law_519 (fun H locs hK hS => ?_)
                                have hK : KB D A0 z xo [aI D ln 2 fl, aI D st9 130 fs, aI D ky 120 fk, aI D mn 2 fm, aI D q493 (min M1 100) (upd ft9 i5 (S1.2.1 0 i5))] H 2 len sz ff1 nc1 ct2 cn2 bf2 nS ck pt0 S1.1 S1.2.1 S1.2.2 := hK
                                refine lv_iload hx hb dL_law_520 (lv_at hl 9 rfl) ?_
                                refine lv_if_le (tgt := 542) hx hb dL_law_522 (by decide) (fun c522 => ?_) (fun c522 => ?_)
                                · skip
                                  have n522 := (nI_leI (a := i5) (b := 0) (by omega) (by omega)).mp c522
                                  refine lv_iinc (v := nI (i5 + 1)) (lv' := [(10, .int (nI (i5 + 1))), (0, .ref sb), (1, .ref xo), (2, .ref ln), (3, .ref st9), (4, .int (nI nS)), (5, .int bs), (7, .int (nI k472)), (8, .int (nI M1)), (9, .ref q493)]) hx hb dL_law_542 hl (k := 9) rfl (nI_1 _) (by decide) rfl (fun ls hl => ?_)
                                  refine lv_goto (tgt := 500) hx hb dL_law_545 (by decide) ?_
                                  exact ih500 (i5 + 1) (upd ft9 i5 (S1.2.1 0 i5)) (by omega) (by omega) (fun q hq => by
                                    by_cases e9 : q = i5
                                    · rw [e9, upd_at]
                                    · rw [upd_ne e9]
                                      exact hft q (by omega)) _ _ _ hK hS (lv_sub hl [1, 2, 3, 4, 5, 6, 7, 8, 9, 0] rfl)
                                · skip
                                  have n522 := mt (nI_leI (a := i5) (b := 0) (by omega) (by omega)).mpr c522
                                  refine lv_aload hx hb dL_law_525 (lv_at hl 8 rfl) ?_
                                  refine lv_iload hx hb dL_law_527 (lv_at hl 9 rfl) ?_
                                  refine ild (n := min M1 100) (j := i5) hx hb hG hK.own.1 4 rfl (by omega) (by omega) dL_law_529 ?_
                                  refine tpi (y := S1.2.1 0 i5) (upd_at) ?_
                                  refine lv_aload hx hb dL_law_530 (lv_at hl 8 rfl) ?_
                                  refine lv_iload hx hb dL_law_532 (lv_at hl 9 rfl) ?_
                                  refine lv_iconst (v := 1) hx hb dL_law_534 (by decide) ?_
                                  refine lv_isub hx hb dL_law_535 ?_
                                  refine tpi (y := nI (i5 - 1)) (pk_sub (a := i5) (b := 1) (by omega)) ?_
                                  refine ild (n := min M1 100) (j := i5 - 1) hx hb hG hK.own.1 4 rfl (by omega) (by omega) dL_law_536 ?_
                                  refine tpi (y := S1.2.1 0 (i5 - 1)) ((upd_ne (by omega)).trans (hft (i5 - 1) (by omega))) ?_
                                  refine lv_icmp_ge (tgt := 542) hx hb dL_law_537 (by decide) (fun c537 => ?_) (fun c537 => absurd (hN1.2.2.1 (i5 - 1) i5 (by omega) (by have := hN1.1; omega)) c537)
                                  refine lv_iinc (v := nI (i5 + 1)) (lv' := [(10, .int (nI (i5 + 1))), (0, .ref sb), (1, .ref xo), (2, .ref ln), (3, .ref st9), (4, .int (nI nS)), (5, .int bs), (7, .int (nI k472)), (8, .int (nI M1)), (9, .ref q493)]) hx hb dL_law_542 hl (k := 9) rfl (nI_1 _) (by decide) rfl (fun ls hl => ?_)
                                  refine lv_goto (tgt := 500) hx hb dL_law_545 (by decide) ?_
                                  exact ih500 (i5 + 1) (upd ft9 i5 (S1.2.1 0 i5)) (by omega) (by omega) (fun q hq => by
                                    by_cases e9 : q = i5
                                    · rw [e9, upd_at]
                                    · rw [upd_ne e9]
                                      exact hft q (by omega)) _ _ _ hK hS (lv_sub hl [1, 2, 3, 4, 5, 6, 7, 8, 9, 0] rfl)
                          refine W.widen (k := 1012) (n := 10400) (by omega) (by omega) ?_
                          exact loop500 _ 0 (fun _ => 0) (Nat.lt_succ_self _) (by omega) (fun q hq => absurd hq (Nat.not_lt_zero _)) _ _ _ hK hS (lv_sub hl [4, 5, 6, 7, 8, 9, 3, 2, 1, 0] rfl)
                        · skip
                          have hlt := Int32.not_le.mp c441
                          have htb : t2 < 99999 := (nI_ltI (a := t2) (b := 99999) (by omega) (by omega)).mp (Int32.lt_of_lt_of_le hlt hsv9)
                          refine lv_aload_n hx hb dL_law_444 rfl (lv_at hl 1 rfl) ?_
                          refine lv_iconst (v := 1) hx hb dL_law_445 (by decide) ?_
                          refine lv_iload hx hb dL_law_446 (lv_at hl 7 rfl) ?_
                          refine k_at (j := 1) (x := nI t2) hC hl.1 (Nat.le_of_ble_eq_true rfl) (Nat.le_of_ble_eq_true rfl) (by show _ ≤ 600086; omega) (by show _ ≤ 7301442; omega) (Nat.le_of_ble_eq_true rfl) hG hZL hA hS hK dL_law_448 (by omega) (⟨(nI_leI (a := 0) (b := t2) (by omega) (by omega)).mpr (by omega), (nI_leI (a := t2) (b := 100000) (by omega) (by omega)).mpr (by omega)⟩) (fun H locs hK hS => ?_)
                          have hK : KB D A0 z xo [aI D ln 2 fl, aI D st9 130 fs, aI D ky 120 fk, aI D mn 2 fm] H 2 len sz ff1 nc1 ct2 cn2 bf2 nS ck pt0 kN0 nf0 cnt0 := hK
                          refine tpi (y := bs) ((at_base (j := 1) (fun z hz => bl_ahead (Int32.lt_of_lt_of_le hlt (hsv z (by omega))))).trans hb1) ?_
                          refine lv_iload hx hb dL_law_451 (lv_at hl 5 rfl) ?_
                          refine lv_icmp_eq (tgt := 458) hx hb dL_law_453 (by decide) (fun c453 => ?_) (fun c453 => absurd (rfl) c453)
                          refine lv_iinc (v := nI (t2 + 1)) (lv' := [(7, .int (nI (t2 + 1))), (0, .ref sb), (1, .ref xo), (2, .ref ln), (3, .ref st9), (4, .int (nI nS)), (5, .int bs), (6, .int sv)]) hx hb dL_law_458 hl (k := 7) rfl (nI_1 _) (by decide) rfl (fun ls hl => ?_)
                          refine lv_goto (tgt := 437) hx hb dL_law_461 (by decide) ?_
                          exact ih437 (t2 + 1) (by omega) (by omega) _ _ _ hK hS (lv_sub hl [1, 2, 3, 4, 5, 6, 7, 0] rfl)
                    exact loop437 _ 0 (Nat.lt_succ_self _) (by omega) _ _ _ hK hS (lv_sub hl [1, 2, 3, 4, 5, 6, 7, 0] rfl)
                  · skip
                    have n409 := mt (nI_leI (a := nS) (b := i4) (by omega) (by omega)).mpr c409
                    refine lv_iload hx hb dL_law_412 (lv_at hl 6 rfl) ?_
                    refine lv_aload_n hx hb dL_law_414 rfl (lv_at hl 3 rfl) ?_
                    refine lv_bipush (v := 13) hx hb dL_law_415 (by decide) ?_
                    refine lv_iload hx hb dL_law_417 (lv_at hl 7 rfl) ?_
                    refine lv_imul hx hb dL_law_419 ?_
                    refine tpi (y := nI (13 * i4)) (pk_mul 13 i4) ?_
                    refine lv_iconst (v := 1) hx hb dL_law_420 (by decide) ?_
                    refine lv_iadd hx hb dL_law_421 ?_
                    refine tpi (y := nI ((13 * i4) + 1)) (nI_add (13 * i4) 1) ?_
                    refine ild (n := 130) (j := (13 * i4) + 1) hx hb hG hK.own.1 1 rfl (by omega) (by omega) dL_law_422 ?_
                    refine tpi (y := pt0 i4 1) (hst i4 (by omega)) ?_
                    refine va_mmin hx hb (by rw [hml]; exact hl.1.symm) hown (hts _ mM_L_70) (hts _ mT_Lib_Math_min_name) (hts _ mN__java_lang_Math_) (hts _ mC_Lib_Math_min_name) (Nat.le_of_ble_eq_true rfl) (Nat.le_of_ble_eq_true rfl) (by show _ ≤ 600086; omega) (by show _ ≤ 7301442; omega) dL_law_423 ?_
                    refine lv_istore (lv' := [(6, .int (if (pt0 i4 1) < sv then (pt0 i4 1) else sv)), (0, .ref sb), (1, .ref xo), (2, .ref ln), (3, .ref st9), (4, .int (nI nS)), (5, .int bs), (7, .int (nI i4))]) hx hb dL_law_426 hl (by decide) rfl (fun ls hl => ?_)
                    refine lv_iinc (v := nI (i4 + 1)) (lv' := [(7, .int (nI (i4 + 1))), (6, .int (if (pt0 i4 1) < sv then (pt0 i4 1) else sv)), (0, .ref sb), (1, .ref xo), (2, .ref ln), (3, .ref st9), (4, .int (nI nS)), (5, .int bs)]) hx hb dL_law_428 hl (k := 7) rfl (nI_1 _) (by decide) rfl (fun ls hl => ?_)
                    refine lv_goto (tgt := 405) hx hb dL_law_431 (by decide) ?_
                    exact ih405 (i4 + 1) (if pt0 i4 1 < sv then pt0 i4 1 else sv) (by omega) (by omega) (Int32.le_trans (mn_le1 _ _) hsv9) (fun q hq => by
                      by_cases e9 : q = i4
                      · rw [e9]
                        exact mn_le2 _ _
                      · exact Int32.le_trans (mn_le1 _ _) (hsv q (by omega))) _ _ _ hK hS (lv_sub hl [2, 3, 4, 5, 6, 7, 1, 0] rfl)
              refine W.widen (k := 1010) (n := 10200) (by omega) (by omega) ?_
              exact loop405 _ 0 99999 (Nat.lt_succ_self _) (by omega) (by decide) (fun q hq => absurd hq (Nat.not_lt_zero _)) _ _ _ hK hS (lv_sub hl [3, 4, 5, 6, 7, 2, 1, 0] rfl)
            · skip
              have n95 := mt (nI_leI (a := 2) (b := c1) (by omega) (by omega)).mpr c95
              have hko := (hK.inv.1).2.2.1 c1 (by omega) 1 (by omega)
              have hlk := (hK.inv.1).2.1 c1 (by omega)
              obtain ⟨hf9, ⟨hn1, -⟩, v9, hv9, hl9⟩ := hSG c1 (by omega)
              have hn16 := hko.1
              refine lv_aload_n hx hb dL_law_98 rfl (lv_at hl 1 rfl) ?_
              refine lv_iload hx hb dL_law_99 (lv_at hl 5 rfl) ?_
              refine lv_iconst (v := 1) hx hb dL_law_101 (by decide) ?_
              refine k_keys (c0 := c1) (j := 1) hC hl.1 (Nat.le_of_ble_eq_true rfl) (Nat.le_of_ble_eq_true rfl) (by show _ ≤ 600086; omega) (by show _ ≤ 7301442; omega) (Nat.le_of_ble_eq_true rfl) hG hZL hA hS hK dL_law_102 (by omega) (by omega) ?_
              refine lv_istore (lv' := [(6, .int (nI (sz c1 1))), (0, .ref sb), (1, .ref xo), (2, .ref ln), (3, .ref st9), (4, .int (nI nS)), (5, .int (nI c1))]) hx hb dL_law_105 hl (by decide) rfl (fun ls hl => ?_)
              refine lv_ldc hx hb hown (hts _ mG_L_65) dL_law_107 ?_
              refine lv_istore (lv' := [(7, .int 99999), (6, .int (nI (sz c1 1))), (0, .ref sb), (1, .ref xo), (2, .ref ln), (3, .ref st9), (4, .int (nI nS)), (5, .int (nI c1))]) hx hb dL_law_109 hl (by decide) rfl (fun ls hl => ?_)
              refine lv_ldc hx hb hown (hts _ mG_L_66) dL_law_111 ?_
              refine lv_istore (lv' := [(8, .int (-99999)), (7, .int 99999), (6, .int (nI (sz c1 1))), (0, .ref sb), (1, .ref xo), (2, .ref ln), (3, .ref st9), (4, .int (nI nS)), (5, .int (nI c1))]) hx hb dL_law_113 hl (by decide) rfl (fun ls hl => ?_)
              refine lv_iconst (v := 3) hx hb dL_law_115 (by decide) ?_
              refine lv_iload hx hb dL_law_116 (lv_at hl 2 rfl) ?_
              refine lv_imul hx hb dL_law_118 ?_
              refine tpi (y := nI (3 * (sz c1 1))) (pk_mul 3 (sz c1 1)) ?_
              refine knew (N := 3 * sz c1 1) hx hb hts hG hK hS hA (nI_pos (by omega)) (nI_clamp (by omega)) (by omega) (by show _ ≤ 600086; omega) (by show _ ≤ 7301442; omega) dL_law_119 (fun q119 H hK hS => ?_)
              have hK : KB D A0 z xo [aI D ln 2 fl, aI D st9 130 fs, aI D ky 120 fk, aI D mn 2 fm, aI D q119 (3 * sz c1 1) (fun _ => 0)] H 2 len sz ff1 nc1 ct2 cn2 bf0 nS ck pt0 kN0 nf0 cnt0 := hK
              refine lv_astore (lv' := [(9, .ref q119), (8, .int (-99999)), (7, .int 99999), (6, .int (nI (sz c1 1))), (0, .ref sb), (1, .ref xo), (2, .ref ln), (3, .ref st9), (4, .int (nI nS)), (5, .int (nI c1))]) hx hb dL_law_121 hl (by decide) rfl (fun ls hl => ?_)
              refine lv_iconst (v := 0) hx hb dL_law_123 (by decide) ?_
              refine lv_istore (lv' := [(10, .int 0), (9, .ref q119), (8, .int (-99999)), (7, .int 99999), (6, .int (nI (sz c1 1))), (0, .ref sb), (1, .ref xo), (2, .ref ln), (3, .ref st9), (4, .int (nI nS)), (5, .int (nI c1))]) hx hb dL_law_124 hl (by decide) rfl (fun ls hl => ?_)
              have loop126 : ∀ (d9 : Nat) (i2 : Nat) (fb : Nat → Int32) (lo : Int32) (hi : Int32), (3 * sz c1 1 - i2) < d9 → (i2 ≤ 3 * sz c1 1) → (BF (ff1 c1) i2 fb) → (MM i2 fb lo hi) → ∀ (H : Heap) (locs : List Loc) (ls : Array Slot), KB D A0 z xo [aI D ln 2 fl, aI D st9 130 fs, aI D ky 120 fk, aI D mn 2 fm, aI D q119 (3 * sz c1 1) fb] H 2 len sz ff1 nc1 ct2 cn2 bf0 nS ck pt0 kN0 nf0 cnt0 → va_S A0 s.heap H locs → lv_has ls 12 [(0, .ref sb), (1, .ref xo), (2, .ref ln), (3, .ref st9), (4, .int (nI nS)), (5, .int (nI c1)), (6, .int (nI (sz c1 1))), (7, .int lo), (8, .int hi), (9, .ref q119), (10, .int (nI i2))] → W p l e room_1 s m #[Value.ref sb] below meth c H locs (1000 + c1 + 1) (10000 + 50 * c1 + 48) Q (F0 m 126 ls []) := by
                intro d9
                induction d9 with
                | zero => intro i2 fb lo hi hd; exact absurd hd (Nat.not_lt_zero _)
                | succ d9 ih126 =>
                  intro i2 fb lo hi hd126 hi2 hBF hMM H locs ls hK hS hl
                  refine lv_iload hx hb dL_law_126 (lv_at hl 10 rfl) ?_
                  refine lv_iconst (v := 3) hx hb dL_law_128 (by decide) ?_
                  refine lv_iload hx hb dL_law_129 (lv_at hl 6 rfl) ?_
                  refine lv_imul hx hb dL_law_131 ?_
                  refine tpi (y := nI (3 * (sz c1 1))) (pk_mul 3 (sz c1 1)) ?_
                  refine lv_icmp_ge (tgt := 201) hx hb dL_law_132 (by decide) (fun c132 => ?_) (fun c132 => ?_)
                  · skip
                    have n132 := (nI_leI (a := 3 * (sz c1 1)) (b := i2) (by omega) (by omega)).mp c132
                    obtain rfl : i2 = 3 * sz c1 1 := by omega
                    refine lv_iconst (v := 0) hx hb dL_law_201 (by decide) ?_
                    refine lv_istore (lv' := [(10, .int 0), (0, .ref sb), (1, .ref xo), (2, .ref ln), (3, .ref st9), (4, .int (nI nS)), (5, .int (nI c1)), (6, .int (nI (sz c1 1))), (7, .int lo), (8, .int hi), (9, .ref q119)]) hx hb dL_law_202 hl (by decide) rfl (fun ls hl => ?_)
                    have loop204 : ∀ (d9 : Nat) (t1 : Nat), (100 - t1) < d9 → (t1 ≤ 2 + v9) → ∀ (H : Heap) (locs : List Loc) (ls : Array Slot), KB D A0 z xo [aI D ln 2 fl, aI D st9 130 fs, aI D ky 120 fk, aI D mn 2 fm, aI D q119 (3 * sz c1 1) fb] H 2 len sz ff1 nc1 ct2 cn2 bf0 nS ck pt0 kN0 nf0 cnt0 → va_S A0 s.heap H locs → lv_has ls 12 [(0, .ref sb), (1, .ref xo), (2, .ref ln), (3, .ref st9), (4, .int (nI nS)), (5, .int (nI c1)), (6, .int (nI (sz c1 1))), (7, .int lo), (8, .int hi), (9, .ref q119), (10, .int (nI t1))] → W p l e room_1 s m #[Value.ref sb] below meth c H locs (1000 + c1 + 1) (10000 + 50 * c1 + 48) Q (F0 m 204 ls []) := by
                      intro d9
                      induction d9 with
                      | zero => intro t1 hd; exact absurd hd (Nat.not_lt_zero _)
                      | succ d9 ih204 =>
                        intro t1 hd204 ht1 H locs ls hK hS hl
                        refine lv_iload hx hb dL_law_204 (lv_at hl 10 rfl) ?_
                        refine lv_aload_n hx hb dL_law_206 rfl (lv_at hl 2 rfl) ?_
                        refine lv_iload hx hb dL_law_207 (lv_at hl 5 rfl) ?_
                        refine ild (n := 2) (j := c1) hx hb hG hK.own.1 0 rfl (by omega) (by omega) dL_law_209 ?_
                        refine tpi (y := nI (1 + v9)) (hf9.trans hl9) ?_
                        refine lv_icmp_gt (tgt := 249) hx hb dL_law_210 (by decide) (fun c210 => ?_) (fun c210 => ?_)
                        · skip
                          have n210 := (nI_ltI (a := 1 + v9) (b := t1) (by omega) (by omega)).mp c210
                          refine lv_aload_n hx hb dL_law_249 rfl (lv_at hl 1 rfl) ?_
                          refine lv_iload hx hb dL_law_250 (lv_at hl 5 rfl) ?_
                          refine k_mirror (c0 := c1) hC hl.1 (Nat.le_of_ble_eq_true rfl) (Nat.le_of_ble_eq_true rfl) (by show _ ≤ 600086; omega) (by show _ ≤ 7301442; omega) (Nat.le_of_ble_eq_true rfl) hG hZL hA hS hK dL_law_252 (by omega) (fun H locs hK hS => ?_)
                          have hK : KB D A0 z xo [aI D ln 2 fl, aI D st9 130 fs, aI D ky 120 fk, aI D mn 2 fm, aI D q119 (3 * sz c1 1) fb] H 2 len sz (upC ff1 c1 (mirC (len c1) (sz c1) (ff1 c1))) nc1 (upC ct2 c1 (rvF (mpF (fun z => len c1 - z) (ct2 c1) (nc1 c1)) (nc1 c1))) (upC cn2 c1 (rvF (cn2 c1) (nc1 c1))) bf0 nS ck pt0 kN0 nf0 cnt0 := hK
                          obtain ⟨ffm, hffm⟩ : ∃ z9, z9 = upC ff1 c1 (mirC (len c1) (sz c1) (ff1 c1)) := ⟨_, rfl⟩
                          have hK : KB D A0 z xo [aI D ln 2 fl, aI D st9 130 fs, aI D ky 120 fk, aI D mn 2 fm, aI D q119 (3 * sz c1 1) fb] H 2 len sz ffm nc1 (upC ct2 c1 (rvF (mpF (fun z => len c1 - z) (ct2 c1) (nc1 c1)) (nc1 c1))) (upC cn2 c1 (rvF (cn2 c1) (nc1 c1))) bf0 nS ck pt0 kN0 nf0 cnt0 := by rw [hffm]; exact hK
                          have hm1 : ffm c1 = mirC (len c1) (sz c1) (ff1 c1) := by rw [hffm, upC_at]
                          obtain ⟨ctm, hctm⟩ : ∃ z9, z9 = upC ct2 c1 (rvF (mpF (fun z => len c1 - z) (ct2 c1) (nc1 c1)) (nc1 c1)) := ⟨_, rfl⟩
                          have hK : KB D A0 z xo [aI D ln 2 fl, aI D st9 130 fs, aI D ky 120 fk, aI D mn 2 fm, aI D q119 (3 * sz c1 1) fb] H 2 len sz ffm nc1 ctm (upC cn2 c1 (rvF (cn2 c1) (nc1 c1))) bf0 nS ck pt0 kN0 nf0 cnt0 := by rw [hctm]; exact hK
                          obtain ⟨cnm, hcnm⟩ : ∃ z9, z9 = upC cn2 c1 (rvF (cn2 c1) (nc1 c1)) := ⟨_, rfl⟩
                          have hK : KB D A0 z xo [aI D ln 2 fl, aI D st9 130 fs, aI D ky 120 fk, aI D mn 2 fm, aI D q119 (3 * sz c1 1) fb] H 2 len sz ffm nc1 ctm cnm bf0 nS ck pt0 kN0 nf0 cnt0 := by rw [hcnm]; exact hK
                          refine lv_pop hx hb dL_law_255 rfl ?_
                          refine lv_aload_n hx hb dL_law_256 rfl (lv_at hl 1 rfl) ?_
                          refine lv_iload hx hb dL_law_257 (lv_at hl 5 rfl) ?_
                          refine lv_iconst (v := 1) hx hb dL_law_259 (by decide) ?_
                          refine lv_iconst (v := 0) hx hb dL_law_260 (by decide) ?_
                          refine k_trackAt (c0 := c1) (j := 1) (x := 0) hC hl.1 (Nat.le_of_ble_eq_true rfl) (Nat.le_of_ble_eq_true rfl) (by show _ ≤ 600086; omega) (by show _ ≤ 7301442; omega) (Nat.le_of_ble_eq_true rfl) hG hZL hA hS hK dL_law_261 (by omega) (by omega) (⟨by decide, by rw [hl9]; exact nI_pos' (by omega)⟩) (by omega) ?_
                          refine tpi (y := ff1 c1 (3 * 1 + 1) (sz c1 1 - 1)) (by rw [hm1]; exact mir_first hko hlk hn1) ?_
                          refine lv_aload hx hb dL_law_264 (lv_at hl 9 rfl) ?_
                          refine lv_iconst (v := 3) hx hb dL_law_266 (by decide) ?_
                          refine lv_iload hx hb dL_law_267 (lv_at hl 6 rfl) ?_
                          refine lv_imul hx hb dL_law_269 ?_
                          refine tpi (y := nI (3 * (sz c1 1))) (pk_mul 3 (sz c1 1)) ?_
                          refine lv_iconst (v := 2) hx hb dL_law_270 (by decide) ?_
                          refine lv_isub hx hb dL_law_271 ?_
                          refine tpi (y := nI ((3 * (sz c1 1)) - 2)) (pk_sub (a := (3 * (sz c1 1))) (b := 2) (by omega)) ?_
                          refine ild (n := 3 * sz c1 1) (j := (3 * (sz c1 1)) - 2) hx hb hG hK.own.1 4 rfl (by omega) (by omega) dL_law_272 ?_
                          refine tpi (y := ff1 c1 (3 * 1 + 1) (sz c1 1 - 1)) ((hBF _ (by omega)).trans (by rw [show (3 * sz c1 1 - 2) % 3 = 1 by omega, show (3 * sz c1 1 - 2) / 3 = sz c1 1 - 1 by omega])) ?_
                          refine lv_icmp_ne (tgt := 294) hx hb dL_law_273 (by decide) (fun c273 => absurd (rfl) c273) (fun c273 => ?_)
                          refine lv_aload_n hx hb dL_law_276 rfl (lv_at hl 1 rfl) ?_
                          refine lv_iload hx hb dL_law_277 (lv_at hl 5 rfl) ?_
                          refine lv_iconst (v := 1) hx hb dL_law_279 (by decide) ?_
                          refine lv_aload_n hx hb dL_law_280 rfl (lv_at hl 2 rfl) ?_
                          refine lv_iload hx hb dL_law_281 (lv_at hl 5 rfl) ?_
                          refine ild (n := 2) (j := c1) hx hb hG hK.own.1 0 rfl (by omega) (by omega) dL_law_283 ?_
                          refine tpi (y := len c1) (hf9) ?_
                          refine k_trackAt (c0 := c1) (j := 1) (x := len c1) hC hl.1 (Nat.le_of_ble_eq_true rfl) (Nat.le_of_ble_eq_true rfl) (by show _ ≤ 600086; omega) (by show _ ≤ 7301442; omega) (Nat.le_of_ble_eq_true rfl) hG hZL hA hS hK dL_law_284 (by omega) (by omega) (⟨by rw [hl9]; exact nI_pos' (by omega), Int32.le_refl _⟩) (by omega) ?_
                          refine tpi (y := ff1 c1 (3 * 1 + 1) 0) (by rw [hm1]; exact mir_last hko hlk hn1) ?_
                          refine lv_aload hx hb dL_law_287 (lv_at hl 9 rfl) ?_
                          refine lv_iconst (v := 1) hx hb dL_law_289 (by decide) ?_
                          refine ild (n := 3 * sz c1 1) (j := 1) hx hb hG hK.own.1 4 rfl (by omega) (by omega) dL_law_290 ?_
                          refine tpi (y := ff1 c1 (3 * 1 + 1) 0) (hBF 1 (by omega)) ?_
                          refine lv_icmp_eq (tgt := 296) hx hb dL_law_291 (by decide) (fun c291 => ?_) (fun c291 => absurd (rfl) c291)
                          refine lv_aload_n hx hb dL_law_296 rfl (lv_at hl 1 rfl) ?_
                          refine lv_iload hx hb dL_law_297 (lv_at hl 5 rfl) ?_
                          refine k_mirror (c0 := c1) hC hl.1 (Nat.le_of_ble_eq_true rfl) (Nat.le_of_ble_eq_true rfl) (by show _ ≤ 600086; omega) (by show _ ≤ 7301442; omega) (Nat.le_of_ble_eq_true rfl) hG hZL hA hS hK dL_law_299 (by omega) (fun H locs hK hS => ?_)
                          have hK : KB D A0 z xo [aI D ln 2 fl, aI D st9 130 fs, aI D ky 120 fk, aI D mn 2 fm, aI D q119 (3 * sz c1 1) fb] H 2 len sz (upC ffm c1 (mirC (len c1) (sz c1) (ffm c1))) nc1 (upC ctm c1 (rvF (mpF (fun z => len c1 - z) (ctm c1) (nc1 c1)) (nc1 c1))) (upC cnm c1 (rvF (cnm c1) (nc1 c1))) bf0 nS ck pt0 kN0 nf0 cnt0 := hK
                          obtain ⟨ffn, hffn⟩ : ∃ z9, z9 = upC ffm c1 (mirC (len c1) (sz c1) (ffm c1)) := ⟨_, rfl⟩
                          have hK : KB D A0 z xo [aI D ln 2 fl, aI D st9 130 fs, aI D ky 120 fk, aI D mn 2 fm, aI D q119 (3 * sz c1 1) fb] H 2 len sz ffn nc1 (upC ctm c1 (rvF (mpF (fun z => len c1 - z) (ctm c1) (nc1 c1)) (nc1 c1))) (upC cnm c1 (rvF (cnm c1) (nc1 c1))) bf0 nS ck pt0 kN0 nf0 cnt0 := by rw [hffn]; exact hK
                          have hm2 : ffn c1 = mirC (len c1) (sz c1) (mirC (len c1) (sz c1) (ff1 c1)) := by rw [hffn, upC_at, hm1]
                          obtain ⟨ctn, hctn⟩ : ∃ z9, z9 = upC ctm c1 (rvF (mpF (fun z => len c1 - z) (ctm c1) (nc1 c1)) (nc1 c1)) := ⟨_, rfl⟩
                          have hK : KB D A0 z xo [aI D ln 2 fl, aI D st9 130 fs, aI D ky 120 fk, aI D mn 2 fm, aI D q119 (3 * sz c1 1) fb] H 2 len sz ffn nc1 ctn (upC cnm c1 (rvF (cnm c1) (nc1 c1))) bf0 nS ck pt0 kN0 nf0 cnt0 := by rw [hctn]; exact hK
                          obtain ⟨cnn, hcnn⟩ : ∃ z9, z9 = upC cnm c1 (rvF (cnm c1) (nc1 c1)) := ⟨_, rfl⟩
                          have hK : KB D A0 z xo [aI D ln 2 fl, aI D st9 130 fs, aI D ky 120 fk, aI D mn 2 fm, aI D q119 (3 * sz c1 1) fb] H 2 len sz ffn nc1 ctn cnn bf0 nS ck pt0 kN0 nf0 cnt0 := by rw [hcnn]; exact hK
                          refine lv_pop hx hb dL_law_302 rfl ?_
                          refine lv_iconst (v := 0) hx hb dL_law_303 (by decide) ?_
                          refine lv_istore (lv' := [(10, .int 0), (0, .ref sb), (1, .ref xo), (2, .ref ln), (3, .ref st9), (4, .int (nI nS)), (5, .int (nI c1)), (6, .int (nI (sz c1 1))), (7, .int lo), (8, .int hi), (9, .ref q119)]) hx hb dL_law_304 hl (by decide) rfl (fun ls hl => ?_)
                          have loop306 : ∀ (d9 : Nat) (i3 : Nat), (3 * sz c1 1 - i3) < d9 → (i3 ≤ 3 * sz c1 1 - 1) → ∀ (H : Heap) (locs : List Loc) (ls : Array Slot), KB D A0 z xo [aI D ln 2 fl, aI D st9 130 fs, aI D ky 120 fk, aI D mn 2 fm, aI D q119 (3 * sz c1 1) fb] H 2 len sz ffn nc1 ctn cnn bf0 nS ck pt0 kN0 nf0 cnt0 → va_S A0 s.heap H locs → lv_has ls 12 [(0, .ref sb), (1, .ref xo), (2, .ref ln), (3, .ref st9), (4, .int (nI nS)), (5, .int (nI c1)), (6, .int (nI (sz c1 1))), (7, .int lo), (8, .int hi), (9, .ref q119), (10, .int (nI i3))] → W p l e room_1 s m #[Value.ref sb] below meth c H locs (1000 + c1 + 1) (10000 + 50 * c1 + 48) Q (F0 m 306 ls []) := by
                            intro d9
                            induction d9 with
                            | zero => intro i3 hd; exact absurd hd (Nat.not_lt_zero _)
                            | succ d9 ih306 =>
                              intro i3 hd306 hi3 H locs ls hK hS hl
                              refine lv_iload hx hb dL_law_306 (lv_at hl 10 rfl) ?_
                              refine lv_iconst (v := 3) hx hb dL_law_308 (by decide) ?_
                              refine lv_iload hx hb dL_law_309 (lv_at hl 6 rfl) ?_
                              refine lv_imul hx hb dL_law_311 ?_
                              refine tpi (y := nI (3 * (sz c1 1))) (pk_mul 3 (sz c1 1)) ?_
                              refine lv_iconst (v := 1) hx hb dL_law_312 (by decide) ?_
                              refine lv_isub hx hb dL_law_313 ?_
                              refine tpi (y := nI ((3 * (sz c1 1)) - 1)) (pk_sub (a := (3 * (sz c1 1))) (b := 1) (by omega)) ?_
                              refine lv_icmp_ge (tgt := 348) hx hb dL_law_314 (by decide) (fun c314 => ?_) (fun c314 => ?_)
                              · skip
                                have n314 := (nI_leI (a := (3 * (sz c1 1)) - 1) (b := i3) (by omega) (by omega)).mp c314
                                refine lv_aload_n hx hb dL_law_348 rfl (lv_at hl 1 rfl) ?_
                                refine lv_iload hx hb dL_law_349 (lv_at hl 5 rfl) ?_
                                refine lv_iconst (v := 1) hx hb dL_law_351 (by decide) ?_
                                refine lv_iload hx hb dL_law_352 (lv_at hl 6 rfl) ?_
                                refine lv_iconst (v := 1) hx hb dL_law_354 (by decide) ?_
                                refine lv_isub hx hb dL_law_355 ?_
                                refine tpi (y := nI ((sz c1 1) - 1)) (pk_sub (a := (sz c1 1)) (b := 1) (by omega)) ?_
                                refine lv_iconst (v := 2) hx hb dL_law_356 (by decide) ?_
                                refine k_keyOf (c0 := c1) (j := 1) (d := (sz c1 1) - 1) (w := 2) hC hl.1 (Nat.le_of_ble_eq_true rfl) (Nat.le_of_ble_eq_true rfl) (by show _ ≤ 600086; omega) (by show _ ≤ 7301442; omega) (Nat.le_of_ble_eq_true rfl) hG hZL hA hS hK dL_law_357 (by omega) (by omega) (by omega) (by omega) ?_
                                refine tpi (y := 1) (by rw [hm2]; exact mir_mirL hn1) ?_
                                refine lv_iconst (v := 1) hx hb dL_law_360 (by decide) ?_
                                refine lv_icmp_eq (tgt := 366) hx hb dL_law_361 (by decide) (fun _ => ?_) (fun h9 => (h9 (by decide)).elim)
                                refine lv_iinc (v := nI (c1 + 1)) (lv' := [(5, .int (nI (c1 + 1))), (0, .ref sb), (1, .ref xo), (2, .ref ln), (3, .ref st9), (4, .int (nI nS)), (6, .int (nI (sz c1 1))), (7, .int lo), (8, .int hi), (9, .ref q119), (10, .int (nI i3))]) hx hb dL_law_366 hl (k := 5) rfl (nI_1 _) (by decide) rfl (fun ls hl => ?_)
                                refine lv_goto (tgt := 92) hx hb dL_law_369 (by decide) ?_
                                have hK := hK.less (n := 4)
                                have hK : KB D A0 z xo [aI D ln 2 fl, aI D st9 130 fs, aI D ky 120 fk, aI D mn 2 fm] H 2 len sz ffn nc1 ctn cnn bf0 nS ck pt0 kN0 nf0 cnt0 := hK
                                refine W.widen (k := 1000 + (c1 + 1)) (n := 10000 + 50 * (c1 + 1)) (by omega) (by omega) ?_
                                exact ih92 (c1 + 1) ffn ctn cnn (by omega) (by omega) _ _ _ hK hS (lv_sub hl [1, 2, 3, 4, 5, 0] rfl)
                              · skip
                                have n314 := mt (nI_leI (a := (3 * (sz c1 1)) - 1) (b := i3) (by omega) (by omega)).mpr c314
                                refine lv_aload_n hx hb dL_law_317 rfl (lv_at hl 1 rfl) ?_
                                refine lv_iload hx hb dL_law_318 (lv_at hl 5 rfl) ?_
                                refine lv_iconst (v := 1) hx hb dL_law_320 (by decide) ?_
                                refine lv_iload hx hb dL_law_321 (lv_at hl 10 rfl) ?_
                                refine lv_iconst (v := 3) hx hb dL_law_323 (by decide) ?_
                                refine lv_idiv hx hb dL_law_324 (by decide) ?_
                                refine tpi (y := nI (i3 / 3)) (pk_div (a := i3) (d := 3) (by omega) (by decide) (by decide)) ?_
                                refine lv_iload hx hb dL_law_325 (lv_at hl 10 rfl) ?_
                                refine lv_iconst (v := 3) hx hb dL_law_327 (by decide) ?_
                                refine lv_irem hx hb dL_law_328 (by decide) ?_
                                refine tpi (y := nI (i3 % 3)) (pk_rem (a := i3) (d := 3) (by omega) (by decide) (by decide)) ?_
                                refine k_keyOf (c0 := c1) (j := 1) (d := i3 / 3) (w := i3 % 3) hC hl.1 (Nat.le_of_ble_eq_true rfl) (Nat.le_of_ble_eq_true rfl) (by show _ ≤ 600086; omega) (by show _ ≤ 7301442; omega) (Nat.le_of_ble_eq_true rfl) hG hZL hA hS hK dL_law_329 (by omega) (by omega) (by omega) (by omega) ?_
                                refine tpi (y := ff1 c1 (3 * 1 + i3 % 3) (i3 / 3)) (by rw [hm2]; exact mir_mir hko hlk (by omega) (by omega) (by omega)) ?_
                                refine lv_aload hx hb dL_law_332 (lv_at hl 9 rfl) ?_
                                refine lv_iload hx hb dL_law_334 (lv_at hl 10 rfl) ?_
                                refine ild (n := 3 * sz c1 1) (j := i3) hx hb hG hK.own.1 4 rfl (by omega) (by omega) dL_law_336 ?_
                                refine tpi (y := ff1 c1 (3 * 1 + i3 % 3) (i3 / 3)) (hBF i3 (by omega)) ?_
                                refine lv_icmp_eq (tgt := 342) hx hb dL_law_337 (by decide) (fun c337 => ?_) (fun c337 => absurd (rfl) c337)
                                refine lv_iinc (v := nI (i3 + 1)) (lv' := [(10, .int (nI (i3 + 1))), (0, .ref sb), (1, .ref xo), (2, .ref ln), (3, .ref st9), (4, .int (nI nS)), (5, .int (nI c1)), (6, .int (nI (sz c1 1))), (7, .int lo), (8, .int hi), (9, .ref q119)]) hx hb dL_law_342 hl (k := 10) rfl (nI_1 _) (by decide) rfl (fun ls hl => ?_)
                                refine lv_goto (tgt := 306) hx hb dL_law_345 (by decide) ?_
                                exact ih306 (i3 + 1) (by omega) (by omega) _ _ _ hK hS (lv_sub hl [1, 2, 3, 4, 5, 6, 7, 8, 9, 10, 0] rfl)
                          exact loop306 _ 0 (Nat.lt_succ_self _) (by omega) _ _ _ hK hS (lv_sub hl [1, 2, 3, 4, 5, 6, 7, 8, 9, 10, 0] rfl)
                        · skip
                          have n210 := mt (nI_ltI (a := 1 + v9) (b := t1) (by omega) (by omega)).mpr c210
                          have hev := ev_mm (fe := ff1 c1 (3 * 1 + 2)) (y := nI t1) hn1 hko hBF hMM
                          refine lv_aload_n hx hb dL_law_213 rfl (lv_at hl 1 rfl) ?_
                          refine lv_iload hx hb dL_law_214 (lv_at hl 5 rfl) ?_
                          refine lv_iconst (v := 1) hx hb dL_law_216 (by decide) ?_
                          refine lv_iload hx hb dL_law_217 (lv_at hl 10 rfl) ?_
                          refine k_trackAt (c0 := c1) (j := 1) (x := nI t1) hC hl.1 (Nat.le_of_ble_eq_true rfl) (Nat.le_of_ble_eq_true rfl) (by show _ ≤ 600086; omega) (by show _ ≤ 7301442; omega) (Nat.le_of_ble_eq_true rfl) hG hZL hA hS hK dL_law_219 (by omega) (by omega) (⟨nI_pos' (by omega), by rw [hl9]; exact nI_le (by omega) (by omega)⟩) (by omega) ?_
                          refine lv_iload hx hb dL_law_222 (lv_at hl 7 rfl) ?_
                          refine lv_icmp_lt (tgt := 241) hx hb dL_law_224 (by decide) (fun c224 => absurd c224 (Int32.not_lt.mpr hev.1)) (fun c224 => ?_)
                          refine lv_aload_n hx hb dL_law_227 rfl (lv_at hl 1 rfl) ?_
                          refine lv_iload hx hb dL_law_228 (lv_at hl 5 rfl) ?_
                          refine lv_iconst (v := 1) hx hb dL_law_230 (by decide) ?_
                          refine lv_iload hx hb dL_law_231 (lv_at hl 10 rfl) ?_
                          refine k_trackAt (c0 := c1) (j := 1) (x := nI t1) hC hl.1 (Nat.le_of_ble_eq_true rfl) (Nat.le_of_ble_eq_true rfl) (by show _ ≤ 600086; omega) (by show _ ≤ 7301442; omega) (Nat.le_of_ble_eq_true rfl) hG hZL hA hS hK dL_law_233 (by omega) (by omega) (⟨nI_pos' (by omega), by rw [hl9]; exact nI_le (by omega) (by omega)⟩) (by omega) ?_
                          refine lv_iload hx hb dL_law_236 (lv_at hl 8 rfl) ?_
                          refine lv_icmp_le (tgt := 243) hx hb dL_law_238 (by decide) (fun c238 => ?_) (fun c238 => absurd (hev.2) c238)
                          refine lv_iinc (v := nI (t1 + 1)) (lv' := [(10, .int (nI (t1 + 1))), (0, .ref sb), (1, .ref xo), (2, .ref ln), (3, .ref st9), (4, .int (nI nS)), (5, .int (nI c1)), (6, .int (nI (sz c1 1))), (7, .int lo), (8, .int hi), (9, .ref q119)]) hx hb dL_law_243 hl (k := 10) rfl (nI_1 _) (by decide) rfl (fun ls hl => ?_)
                          refine lv_goto (tgt := 204) hx hb dL_law_246 (by decide) ?_
                          exact ih204 (t1 + 1) (by omega) (by omega) _ _ _ hK hS (lv_sub hl [1, 2, 3, 4, 5, 6, 7, 8, 9, 10, 0] rfl)
                    exact loop204 _ 0 (Nat.lt_succ_self _) (by omega) _ _ _ hK hS (lv_sub hl [1, 2, 3, 4, 5, 6, 7, 8, 9, 10, 0] rfl)
                  · skip
                    have n132 := mt (nI_leI (a := 3 * (sz c1 1)) (b := i2) (by omega) (by omega)).mpr c132
                    refine lv_aload hx hb dL_law_135 (lv_at hl 9 rfl) ?_
                    refine lv_iload hx hb dL_law_137 (lv_at hl 10 rfl) ?_
                    refine lv_aload_n hx hb dL_law_139 rfl (lv_at hl 1 rfl) ?_
                    refine lv_iload hx hb dL_law_140 (lv_at hl 5 rfl) ?_
                    refine lv_iconst (v := 1) hx hb dL_law_142 (by decide) ?_
                    refine lv_iload hx hb dL_law_143 (lv_at hl 10 rfl) ?_
                    refine lv_iconst (v := 3) hx hb dL_law_145 (by decide) ?_
                    refine lv_idiv hx hb dL_law_146 (by decide) ?_
                    refine tpi (y := nI (i2 / 3)) (pk_div (a := i2) (d := 3) (by omega) (by decide) (by decide)) ?_
                    refine lv_iload hx hb dL_law_147 (lv_at hl 10 rfl) ?_
                    refine lv_iconst (v := 3) hx hb dL_law_149 (by decide) ?_
                    refine lv_irem hx hb dL_law_150 (by decide) ?_
                    refine tpi (y := nI (i2 % 3)) (pk_rem (a := i2) (d := 3) (by omega) (by decide) (by decide)) ?_
                    refine k_keyOf (c0 := c1) (j := 1) (d := i2 / 3) (w := i2 % 3) hC hl.1 (Nat.le_of_ble_eq_true rfl) (Nat.le_of_ble_eq_true rfl) (by show _ ≤ 600086; omega) (by show _ ≤ 7301442; omega) (Nat.le_of_ble_eq_true rfl) hG hZL hA hS hK dL_law_151 (by omega) (by omega) (by omega) (by omega) ?_
                    refine kist (n := 3 * sz c1 1) (j := i2) hx hb hG hK hS 4 rfl (by omega) (by omega) dL_law_154 (fun H locs hK hS => ?_)
                    have hK : KB D A0 z xo [aI D ln 2 fl, aI D st9 130 fs, aI D ky 120 fk, aI D mn 2 fm, aI D q119 (3 * sz c1 1) (upd fb i2 (ff1 c1 (3 * 1 + (i2 % 3)) (i2 / 3)))] H 2 len sz ff1 nc1 ct2 cn2 bf0 nS ck pt0 kN0 nf0 cnt0 := hK
                    refine lv_iload hx hb dL_law_155 (lv_at hl 10 rfl) ?_
                    refine lv_iconst (v := 3) hx hb dL_law_157 (by decide) ?_
                    refine lv_irem hx hb dL_law_158 (by decide) ?_
                    refine tpi (y := nI (i2 % 3)) (pk_rem (a := i2) (d := 3) (by omega) (by decide) (by decide)) ?_
                    refine lv_iconst (v := 1) hx hb dL_law_159 (by decide) ?_
                    refine lv_icmp_ne (tgt := 175) hx hb dL_law_160 (by decide) (fun c160 => ?_) (fun c160 => ?_)
                    · skip
                      have n160 := mt (nI_eq (a := i2 % 3) (b := 1) (by omega) (by omega)).mpr c160
                      refine lv_iload hx hb dL_law_175 (lv_at hl 10 rfl) ?_
                      refine lv_iconst (v := 3) hx hb dL_law_177 (by decide) ?_
                      refine lv_irem hx hb dL_law_178 (by decide) ?_
                      refine tpi (y := nI (i2 % 3)) (pk_rem (a := i2) (d := 3) (by omega) (by decide) (by decide)) ?_
                      refine lv_iconst (v := 1) hx hb dL_law_179 (by decide) ?_
                      refine lv_icmp_ne (tgt := 195) hx hb dL_law_180 (by decide) (fun _ => ?_) (fun h9 => absurd ((nI_eq (a := i2 % 3) (b := 1) (by omega) (by omega)).mp h9) (by omega))
                      refine lv_iinc (v := nI (i2 + 1)) (lv' := [(10, .int (nI (i2 + 1))), (0, .ref sb), (1, .ref xo), (2, .ref ln), (3, .ref st9), (4, .int (nI nS)), (5, .int (nI c1)), (6, .int (nI (sz c1 1))), (7, .int lo), (8, .int hi), (9, .ref q119)]) hx hb dL_law_195 hl (k := 10) rfl (nI_1 _) (by decide) rfl (fun ls hl => ?_)
                      refine lv_goto (tgt := 126) hx hb dL_law_198 (by decide) ?_
                      exact ih126 (i2 + 1) (upd fb i2 (ff1 c1 (3 * 1 + i2 % 3) (i2 / 3))) lo hi (by omega) (by omega) (hBF.next) (hMM.no n160) _ _ _ hK hS (lv_sub hl [1, 2, 3, 4, 5, 6, 7, 8, 9, 10, 0] rfl)
                    · skip
                      have n160 := (nI_eq (a := i2 % 3) (b := 1) (by omega) (by omega)).mp c160
                      refine lv_iload hx hb dL_law_163 (lv_at hl 7 rfl) ?_
                      refine lv_aload hx hb dL_law_165 (lv_at hl 9 rfl) ?_
                      refine lv_iload hx hb dL_law_167 (lv_at hl 10 rfl) ?_
                      refine ild (n := 3 * sz c1 1) (j := i2) hx hb hG hK.own.1 4 rfl (by omega) (by omega) dL_law_169 ?_
                      refine tpi (y := ff1 c1 (3 * 1 + i2 % 3) (i2 / 3)) (upd_at) ?_
                      refine va_mmin hx hb (by rw [hml]; exact hl.1.symm) hown (hts _ mM_L_70) (hts _ mT_Lib_Math_min_name) (hts _ mN__java_lang_Math_) (hts _ mC_Lib_Math_min_name) (Nat.le_of_ble_eq_true rfl) (Nat.le_of_ble_eq_true rfl) (by show _ ≤ 600086; omega) (by show _ ≤ 7301442; omega) dL_law_170 ?_
                      refine lv_istore (lv' := [(7, .int (if (ff1 c1 (3 * 1 + i2 % 3) (i2 / 3)) < lo then (ff1 c1 (3 * 1 + i2 % 3) (i2 / 3)) else lo)), (0, .ref sb), (1, .ref xo), (2, .ref ln), (3, .ref st9), (4, .int (nI nS)), (5, .int (nI c1)), (6, .int (nI (sz c1 1))), (8, .int hi), (9, .ref q119), (10, .int (nI i2))]) hx hb dL_law_173 hl (by decide) rfl (fun ls hl => ?_)
                      refine lv_iload hx hb dL_law_175 (lv_at hl 10 rfl) ?_
                      refine lv_iconst (v := 3) hx hb dL_law_177 (by decide) ?_
                      refine lv_irem hx hb dL_law_178 (by decide) ?_
                      refine tpi (y := nI (i2 % 3)) (pk_rem (a := i2) (d := 3) (by omega) (by decide) (by decide)) ?_
                      refine lv_iconst (v := 1) hx hb dL_law_179 (by decide) ?_
                      refine lv_icmp_ne (tgt := 195) hx hb dL_law_180 (by decide) (fun h9 => absurd ((nI_eq (a := i2 % 3) (b := 1) (by omega) (by omega)).mpr (by omega)) h9) (fun _ => ?_)
                      refine lv_iload hx hb dL_law_183 (lv_at hl 8 rfl) ?_
                      refine lv_aload hx hb dL_law_185 (lv_at hl 9 rfl) ?_
                      refine lv_iload hx hb dL_law_187 (lv_at hl 10 rfl) ?_
                      refine ild (n := 3 * sz c1 1) (j := i2) hx hb hG hK.own.1 4 rfl (by omega) (by omega) dL_law_189 ?_
                      refine tpi (y := ff1 c1 (3 * 1 + i2 % 3) (i2 / 3)) (upd_at) ?_
                      refine va_mmax hx hb (by rw [hml]; exact hl.1.symm) hown (hts _ mM_L_75) (hts _ mT_Lib_Math_max_name) (hts _ mN__java_lang_Math_) (hts _ mC_Lib_Math_max_name) (Nat.le_of_ble_eq_true rfl) (Nat.le_of_ble_eq_true rfl) (by show _ ≤ 600086; omega) (by show _ ≤ 7301442; omega) dL_law_190 ?_
                      refine lv_istore (lv' := [(8, .int (if hi < (ff1 c1 (3 * 1 + i2 % 3) (i2 / 3)) then (ff1 c1 (3 * 1 + i2 % 3) (i2 / 3)) else hi)), (7, .int (if (ff1 c1 (3 * 1 + i2 % 3) (i2 / 3)) < lo then (ff1 c1 (3 * 1 + i2 % 3) (i2 / 3)) else lo)), (0, .ref sb), (1, .ref xo), (2, .ref ln), (3, .ref st9), (4, .int (nI nS)), (5, .int (nI c1)), (6, .int (nI (sz c1 1))), (9, .ref q119), (10, .int (nI i2))]) hx hb dL_law_193 hl (by decide) rfl (fun ls hl => ?_)
                      refine lv_iinc (v := nI (i2 + 1)) (lv' := [(10, .int (nI (i2 + 1))), (8, .int (if hi < (ff1 c1 (3 * 1 + i2 % 3) (i2 / 3)) then (ff1 c1 (3 * 1 + i2 % 3) (i2 / 3)) else hi)), (7, .int (if (ff1 c1 (3 * 1 + i2 % 3) (i2 / 3)) < lo then (ff1 c1 (3 * 1 + i2 % 3) (i2 / 3)) else lo)), (0, .ref sb), (1, .ref xo), (2, .ref ln), (3, .ref st9), (4, .int (nI nS)), (5, .int (nI c1)), (6, .int (nI (sz c1 1))), (9, .ref q119)]) hx hb dL_law_195 hl (k := 10) rfl (nI_1 _) (by decide) rfl (fun ls hl => ?_)
                      refine lv_goto (tgt := 126) hx hb dL_law_198 (by decide) ?_
                      exact ih126 (i2 + 1) (upd fb i2 (ff1 c1 (3 * 1 + i2 % 3) (i2 / 3))) (if ff1 c1 (3 * 1 + i2 % 3) (i2 / 3) < lo then ff1 c1 (3 * 1 + i2 % 3) (i2 / 3) else lo) (if hi < ff1 c1 (3 * 1 + i2 % 3) (i2 / 3) then ff1 c1 (3 * 1 + i2 % 3) (i2 / 3) else hi) (by omega) (by omega) (hBF.next) (hMM.yes) _ _ _ hK hS (lv_sub hl [3, 4, 5, 6, 7, 8, 9, 2, 1, 10, 0] rfl)
              refine W.widen (k := 1000 + c1 + 1) (n := 10000 + 50 * c1 + 48) (by omega) (by omega) ?_
              exact loop126 _ 0 (fun _ => 0) 99999 (-99999) (Nat.lt_succ_self _) (by omega) (fun q hq => absurd hq (Nat.not_lt_zero _)) (fun q hq => absurd hq (Nat.not_lt_zero _)) _ _ _ hK hS (lv_sub hl [5, 6, 7, 8, 9, 10, 4, 3, 2, 1, 0] rfl)
        refine W.widen (k := 1000 + 0) (n := 10000 + 50 * 0) (by omega) (by omega) ?_
        exact loop92 _ 0 ff0 ct1 cn1 (Nat.lt_succ_self _) (by omega) _ _ _ hK hS (lv_sub hl [1, 2, 3, 4, 5, 0] rfl)
      · skip
        have n47 := mt (nI_leI (a := 5) (b := i1) (by omega) (by omega)).mpr c47
        refine lv_aload_n hx hb dL_law_50 rfl (lv_at hl 1 rfl) ?_
        refine lv_iload hx hb dL_law_51 (lv_at hl 5 rfl) ?_
        refine lv_iconst (v := 2) hx hb dL_law_53 (by decide) ?_
        refine lv_irem hx hb dL_law_54 (by decide) ?_
        refine tpi (y := nI (i1 % 2)) (pk_rem (a := i1) (d := 2) (by omega) (by decide) (by decide)) ?_
        refine lv_aload_n hx hb dL_law_55 rfl (lv_at hl 0 rfl) ?_
        refine lv_bipush (v := 13) hx hb dL_law_56 (by decide) ?_
        have hP9 : va_P D cls [] H := fun k q h => by simp at h
        refine vp_callSi (pSX (rest := [.int (nI (i1 % 2)), .ref xo]) SCR.blind (hX.pre hS (fun _ h => h.elim)) [.ref sb, .int 13] 2 hC (c_cell l D (b := sb) (L := L) (k := 13) (xs := xs) (by omega) (by omega)) (gS mM_L_9 mT_L_cell mN_L mC_L_cell) (by decide +kernel) rfl rfl ⟨Nat.le_of_ble_eq_true rfl, Nat.le_of_ble_eq_true rfl⟩ hG hP9 rfl hl.1 rfl (Nat.le_of_ble_eq_true rfl) dL_law_58 ⟨by show _ ≤ 600086; omega, by show _ ≤ 7301442; omega⟩) (fun r58 h58 => ?_)
        refine lv_iconst (v := 3) hx hb dL_law_61 (by decide) ?_
        refine lv_iload hx hb dL_law_62 (lv_at hl 5 rfl) ?_
        refine lv_imul hx hb dL_law_64 ?_
        refine tpi (y := nI (3 * i1)) (pk_mul 3 i1) ?_
        refine lv_ishr hx hb dL_law_65 ?_
        obtain ⟨x65, hx65⟩ : ∃ x9, x9 = r58 >>> ((nI (3 * i1)) &&& 31) := ⟨_, rfl⟩
        refine tpi (y := x65) hx65.symm ?_
        refine lv_aload_n hx hb dL_law_66 rfl (lv_at hl 2 rfl) ?_
        refine lv_iload hx hb dL_law_67 (lv_at hl 5 rfl) ?_
        refine lv_iconst (v := 2) hx hb dL_law_69 (by decide) ?_
        refine lv_irem hx hb dL_law_70 (by decide) ?_
        refine tpi (y := nI (i1 % 2)) (pk_rem (a := i1) (d := 2) (by omega) (by decide) (by decide)) ?_
        obtain ⟨hf9, -, v9, hv9, hl9⟩ := hSG (i1 % 2) (by omega)
        refine ild (n := 2) (j := i1 % 2) hx hb hG hK.own.1 0 rfl (by omega) (by omega) dL_law_71 ?_
        refine tpi (y := nI (1 + v9)) (hf9.trans hl9) ?_
        refine lv_iconst (v := 1) hx hb dL_law_72 (by decide) ?_
        refine lv_iadd hx hb dL_law_73 ?_
        refine tpi (y := nI ((1 + v9) + 1)) (nI_add (1 + v9) 1) ?_
        have hP9 : va_P D cls [] H := fun k q h => by simp at h
        refine vp_callSi (pS (rest := [.int (nI (i1 % 2)), .ref xo]) [.int x65, .int (nI ((1 + v9) + 1))] 2 hC (c_below l D (x := x65) (n := ((1 + v9) + 1)) (by omega) (by omega)) (gS mM_L_15 mT_L_below mN_L mC_L_below) (by decide +kernel) rfl rfl ⟨Nat.le_of_ble_eq_true rfl, Nat.le_of_ble_eq_true rfl⟩ hG hP9 rfl hl.1 rfl (Nat.le_of_ble_eq_true rfl) dL_law_74 ⟨by show _ ≤ 600086; omega, by show _ ≤ 7301442; omega⟩) (fun r74 h74 => ?_)
        obtain ⟨k74, hk74, rfl⟩ := h74
        refine lv_iload hx hb dL_law_77 (lv_at hl 5 rfl) ?_
        refine k_cue (c0 := i1 % 2) (x := nI k74) (w := nI i1) hC hl.1 (Nat.le_of_ble_eq_true rfl) (Nat.le_of_ble_eq_true rfl) (by show _ ≤ 600086; omega) (by show _ ≤ 7301442; omega) (Nat.le_of_ble_eq_true rfl) hG hZL hA hS hK dL_law_79 (by omega) (⟨⟨nI_pos' (by omega), by rw [hl9]; exact nI_le (by omega) (by omega)⟩, ⟨(nI_leI (a := 0) (b := i1) (by omega) (by omega)).mpr (by omega), (nI_leI (a := i1) (b := 99) (by omega) (by omega)).mpr (by omega)⟩⟩) (by have := hnc (i1 % 2) (by omega); omega) (fun H locs hK hS => ?_)
        have hK : KB D A0 z xo [aI D ln 2 fl, aI D st9 130 fs, aI D ky 120 fk, aI D mn 2 fm] H 2 len sz ff0 (upC nc1 (i1 % 2) (nc1 (i1 % 2) + 1)) (upC ct1 (i1 % 2) (insF (ct1 (i1 % 2)) (cntLe (ct1 (i1 % 2)) (nI k74) (nc1 (i1 % 2))) (nc1 (i1 % 2)) (nI k74))) (upC cn1 (i1 % 2) (insF (cn1 (i1 % 2)) (cntLe (ct1 (i1 % 2)) (nI k74) (nc1 (i1 % 2))) (nc1 (i1 % 2)) (nI i1))) bf0 nS ck pt0 kN0 nf0 cnt0 := hK
        refine lv_pop hx hb dL_law_82 rfl ?_
        refine lv_iinc (v := nI (i1 + 1)) (lv' := [(5, .int (nI (i1 + 1))), (0, .ref sb), (1, .ref xo), (2, .ref ln), (3, .ref st9), (4, .int (nI nS))]) hx hb dL_law_83 hl (k := 5) rfl (nI_1 _) (by decide) rfl (fun ls hl => ?_)
        refine lv_goto (tgt := 44) hx hb dL_law_86 (by decide) ?_
        exact ih44 (i1 + 1) (upC nc1 (i1 % 2) (nc1 (i1 % 2) + 1)) (upC ct1 (i1 % 2) (insF (ct1 (i1 % 2)) (cntLe (ct1 (i1 % 2)) (nI k74) (nc1 (i1 % 2))) (nc1 (i1 % 2)) (nI k74))) (upC cn1 (i1 % 2) (insF (cn1 (i1 % 2)) (cntLe (ct1 (i1 % 2)) (nI k74) (nc1 (i1 % 2))) (nc1 (i1 % 2)) (nI i1))) (by omega) (by omega) (fun y hy => by
          by_cases e9 : y = i1 % 2
          · rw [e9, upC_at]
            have := hnc (i1 % 2) (by omega)
            omega
          · rw [upC_ne e9]
            have := hnc y hy
            omega) _ _ _ hK hS (lv_sub hl [1, 2, 3, 4, 5, 0] rfl)
  exact loop44 _ 0 nc0 ct0 cn0 (Nat.lt_succ_self _) (by omega) (fun y hy => by rw [(hSG y hy).2.1.2]; exact Nat.le_refl 0) _ _ _ hK hS (lv_sub hl [1, 2, 3, 4, 5, 0] rfl)
