theorem valL_app {bl : Nat → Int32 → Int32} {l r : List Nat} {v : Int32} : ∀ {k : Nat}, k ≤ l.length → valL bl (l ++ r) v k = valL bl l v k
  | 0, _ => rfl
  | k + 1, h => by
    rw [valL, valL, valL_app (k := k) (by omega)]
    congr 1
    simp [List.getD, List.getElem?_append_left (show k < l.length by omega)]
theorem valL_one {bl : Nat → Int32 → Int32} {l : List Nat} {s : Nat} {v : Int32} : valL bl (l ++ [s]) v (l ++ [s]).length = bl s (valL bl l v l.length) := by
  rw [List.length_append]
  show bl ((l ++ [s]).getD l.length 0) (valL bl (l ++ [s]) v l.length) = _
  rw [valL_app (Nat.le_refl _)]
  congr 1
  simp [List.getD]
theorem lyI_lt {lay : Nat → Int32} {nS L s x : Nat} (hs : s ≤ nS) (h : x ∈ lyI lay nS L s) : x < nS := by
  rcases List.mem_append.mp h with h | h
  · exact lyT_lt h
  · have := List.mem_range.mp (List.mem_filter.mp h).1
    omega
set_option maxHeartbeats 400000 in
set_option maxRecDepth 100000 in
theorem m_played (l : Launch) (D : va_G) {mo a1 a2 a3 a4 a5 a6 a7 a8 a9 a10 a11 nC nS nM : Nat} {th : Int32} {bs ln ks tm wo ea pa : Nat → Int32} {ck : Nat → Nat} {pt : Nat → Nat → Int32} {len : Nat → Int32} {sz : Nat → Nat → Nat} {f : Nat → Nat → Nat → Int32} {j : Nat} {x : Int32} (hn10 : nS ≤ 10) (hj : j < 4) (hpa : ∀ i, i < nS → ∀ w, w < 13 → ¬ w = 2 → pa (13 * i + w) = pt i w) (hc0 : ∀ i, i < nS → pa (13 * i) = nI (ck i)) (hc6 : ∀ i, i < nS → ck i < 6) (hlq : ∀ i, i < nS → ln (ck i) = len (ck i)) (hO : ∀ i, i < nS → sOK (len (ck i)) (pt i)) (hks : ∀ i, i < nS → ks (4 * ck i + j) = nI (sz (ck i) j)) (h16 : ∀ i, i < nS → sz (ck i) j ≤ 16) (htm : ∀ i, i < nS → ∀ k, k < sz (ck i) j → tm (16 * (4 * ck i + j) + k) = f (ck i) (3 * j) k) (hwo : ∀ i, i < nS → ∀ k, k < sz (ck i) j → wo (16 * (4 * ck i + j) + k) = f (ck i) (3 * j + 1) k) (hea : ∀ i, i < nS → ∀ k, k < sz (ck i) j → ea (16 * (4 * ck i + j) + k) = f (ck i) (3 * j + 2) k) (hT : ∀ i, i < nS → tOK (f (ck i) (3 * j)) (sz (ck i) j)) (hV : ∀ i, i < nS → ∀ k, k < sz (ck i) j → -10000 ≤ (f (ck i) (3 * j + 1) k).toInt ∧ (f (ck i) (3 * j + 1) k).toInt ≤ 10000) (hB : ∀ ll : List Nat, ll.length ≤ 10 → (∀ z, z ∈ ll → z < nS) → -1073741824 ≤ (valL (fun z v => blendS (len (ck z)) (pt z) (sz (ck z) j) (f (ck z) (3 * j)) (f (ck z) (3 * j + 1)) (f (ck z) (3 * j + 2)) v x) ll (bs j) ll.length).toInt ∧ (valL (fun z v => blendS (len (ck z)) (pt z) (sz (ck z) j) (f (ck z) (3 * j)) (f (ck z) (3 * j + 1)) (f (ck z) (3 * j + 2)) v x) ll (bs j) ll.length).toInt ≤ 1073741824) (hE : ∀ i, i < nS → ∀ y : Int32, -1073741824 ≤ (evT (sz (ck i) j) (f (ck i) (3 * j)) (f (ck i) (3 * j + 1)) (f (ck i) (3 * j + 2)) y).toInt ∧ (evT (sz (ck i) j) (f (ck i) (3 * j)) (f (ck i) (3 * j + 1)) (f (ck i) (3 * j + 2)) y).toInt ≤ 1073741823) (hx0 : 0 ≤ x.toInt) (hx9 : x.toInt ≤ 100300) : Met l yX6_played (ws_ yX6_played cX6_played 11 (some .int)) ({ frames := 5, cells := 0, slots := 0, locals := 111 } : Room) (va_Pc [.ref mo, .int (nI j), .int x] (PW D [oO mo 6 [.int th, .ref a1, .int (nI nC), .ref a2, .ref a3, .ref a4, .ref a5, .ref a6, .ref a7, .ref a8, .ref a9, .int (nI nS), .ref a10, .int (nI nM), .ref a11], aI D a1 4 bs, aI D a2 6 ln, aI D a3 24 ks, aI D a4 384 tm, aI D a5 384 wo, aI D a6 384 ea, aI D a10 130 pa])) (vp_Si (fun v => v = valL (fun z v => blendS (len (ck z)) (pt z) (sz (ck z) j) (f (ck z) (3 * j)) (f (ck z) (3 * j + 1)) (f (ck z) (3 * j + 2)) v x) (lyT (fun z => pt z 7) nS 10) (bs j) (lyT (fun z => pt z 7) nS 10).length)) 0 0 (fun _ => False) := by
  refine Met.ofW (cc := cX6_played) (maxL := 11) (ret := (some .int)) (by decide) rfl ?_
  intro p e s m args below meth c s₁ B hml hv
  obtain ⟨rfl, hG, hP⟩ := hv
  have hx := B.exec
  have hb := B.bytes
  have hr := B.returns
  have hts : ∀ w ∈ wsL_law, w.before _ s = true := fun w h => atoms_spec (ws := (ws_ yX6_played cX6_played 11 (some .int))) B.pre w (List.mem_cons_of_mem _ h)
  have hown : s.vm.findClass RX6 = some m.cls := findClass_of_methodNamed B.named
  have hlk := B.notSynchronized
  have hC : CallFix p m c cX6_played 11 s _ wsL_law RX6 := ⟨hx, hb, hml, hown, hts⟩
  have hl := lv_entry ([.ref mo, .int (nI j), .int x]) (n := 11) (Nat.le_of_ble_eq_true rfl)
  rw [lg_entry_eq]
  generalize (lg_sl ([.ref mo, .int (nI j), .int x]) ++ List.replicate (11 - (lg_sl ([.ref mo, .int (nI j), .int x])).length) Slot.unset).toArray = ls at hl ⊢
  have hl : lv_has ls 11 [(0, .ref mo), (1, .int (nI j)), (2, .int x)] := hl
  refine lv_aload_n hx hb dX6_played_0 rfl (lv_at hl 0 rfl) ?_
  refine va_get (D := D) (ci := 6) (v := .ref a1) (C := RX6) (T := TX6) (N := 15) hx hb hts inlX6 hown hG.K hP 0 rfl rfl 1 (by decide) (hts _ mF_X6_9) (fun _ h9 => h9) rfl dX6_played_1 ?_
  refine lv_iload_n hx hb dX6_played_4 rfl (lv_at hl 1 rfl) ?_
  refine ild (n := 4) (j := j) hx hb hG hP 1 rfl (by omega) (by omega) dX6_played_5 ?_
  refine lv_istore_n (lv' := [(3, .int (bs j)), (0, .ref mo), (1, .int (nI j)), (2, .int x)]) hx hb dX6_played_6 rfl hl (by decide) rfl (fun ls hl => ?_)
  refine lv_iconst (v := 0) hx hb dX6_played_7 (by decide) ?_
  refine lv_istore (lv' := [(4, .int 0), (3, .int (bs j)), (0, .ref mo), (1, .int (nI j)), (2, .int x)]) hx hb dX6_played_8 hl (by decide) rfl (fun ls hl => ?_)
  have loop10 : ∀ (d9 : Nat) (L1 : Nat) (xv : Int32), (10 - L1) < d9 → (L1 ≤ 10) → (xv = valL (fun z v => blendS (len (ck z)) (pt z) (sz (ck z) j) (f (ck z) (3 * j)) (f (ck z) (3 * j + 1)) (f (ck z) (3 * j + 2)) v x) (lyT (fun z => pt z 7) nS L1) (bs j) (lyT (fun z => pt z 7) nS L1).length) → ∀ (ls : Array Slot), lv_has ls 11 [(0, .ref mo), (1, .int (nI j)), (2, .int x), (3, .int xv), (4, .int (nI L1))] → W p l e ({ frames := 5, cells := 0, slots := 0, locals := 111 } : Room) s m ([.ref mo, .int (nI j), .int x] : List Value).toArray below meth c s.heap [] 0 0 (MQ below (vp_Si (fun v => v = valL (fun z v => blendS (len (ck z)) (pt z) (sz (ck z) j) (f (ck z) (3 * j)) (f (ck z) (3 * j + 1)) (f (ck z) (3 * j + 2)) v x) (lyT (fun z => pt z 7) nS 10) (bs j) (lyT (fun z => pt z 7) nS 10).length)) ([.ref mo, .int (nI j), .int x] : List Value).toArray s 0 0 (fun _ => False)) (F0 m 10 ls []) := by
    intro d9
    induction d9 with
    | zero => intro L1 xv hd; exact absurd hd (Nat.not_lt_zero _)
    | succ d9 ih10 =>
      intro L1 xv hd10 hL1 hxv ls hl
      refine lv_iload hx hb dX6_played_10 (lv_at hl 4 rfl) ?_
      refine lv_bipush (v := 10) hx hb dX6_played_12 (by decide) ?_
      refine lv_icmp_ge (tgt := 150) hx hb dX6_played_14 (by decide) (fun c14 => ?_) (fun c14 => ?_)
      · skip
        have n14 := (nI_leI (a := 10) (b := L1) (by omega) (by omega)).mp c14
        have hk9 : L1 = 10 := by omega
        subst L1
        refine lv_iload_n hx hb dX6_played_150 rfl (lv_at hl 3 rfl) ?_
        refine Ri hx hb hr hlk ?_ dX6_played_151
        exact hxv
      · skip
        have n14 := mt (nI_leI (a := 10) (b := L1) (by omega) (by omega)).mpr c14
        refine lv_iconst (v := 0) hx hb dX6_played_17 (by decide) ?_
        refine lv_istore (lv' := [(5, .int 0), (0, .ref mo), (1, .int (nI j)), (2, .int x), (3, .int xv), (4, .int (nI L1))]) hx hb dX6_played_18 hl (by decide) rfl (fun ls hl => ?_)
        have loop20 : ∀ (d9 : Nat) (k1 : Nat) (xw : Int32), (nS - k1) < d9 → (k1 ≤ nS) → (xw = valL (fun z v => blendS (len (ck z)) (pt z) (sz (ck z) j) (f (ck z) (3 * j)) (f (ck z) (3 * j + 1)) (f (ck z) (3 * j + 2)) v x) (lyI (fun z => pt z 7) nS L1 k1) (bs j) (lyI (fun z => pt z 7) nS L1 k1).length) → ∀ (ls : Array Slot), lv_has ls 11 [(0, .ref mo), (1, .int (nI j)), (2, .int x), (3, .int xw), (4, .int (nI L1)), (5, .int (nI k1))] → W p l e ({ frames := 5, cells := 0, slots := 0, locals := 111 } : Room) s m ([.ref mo, .int (nI j), .int x] : List Value).toArray below meth c s.heap [] 0 0 (MQ below (vp_Si (fun v => v = valL (fun z v => blendS (len (ck z)) (pt z) (sz (ck z) j) (f (ck z) (3 * j)) (f (ck z) (3 * j + 1)) (f (ck z) (3 * j + 2)) v x) (lyT (fun z => pt z 7) nS 10) (bs j) (lyT (fun z => pt z 7) nS 10).length)) ([.ref mo, .int (nI j), .int x] : List Value).toArray s 0 0 (fun _ => False)) (F0 m 20 ls []) := by
          intro d9
          induction d9 with
          | zero => intro k1 xw hd; exact absurd hd (Nat.not_lt_zero _)
          | succ d9 ih20 =>
            intro k1 xw hd20 hk1 hxw ls hl
            refine lv_iload hx hb dX6_played_20 (lv_at hl 5 rfl) ?_
            refine lv_aload_n hx hb dX6_played_22 rfl (lv_at hl 0 rfl) ?_
            refine va_get (D := D) (ci := 6) (v := .int (nI nS)) (C := RX6) (T := TX6) (N := 15) hx hb hts inlX6 hown hG.K hP 0 rfl rfl 11 (by decide) (hts _ mF_X6_108) (fun _ h9 => h9) rfl dX6_played_23 ?_
            refine lv_icmp_ge (tgt := 144) hx hb dX6_played_26 (by decide) (fun c26 => ?_) (fun c26 => ?_)
            · skip
              have n26 := (nI_leI (a := nS) (b := k1) (by omega) (by omega)).mp c26
              have hk9 : k1 = nS := by omega
              subst k1
              refine lv_iinc (v := nI (L1 + 1)) (lv' := [(4, .int (nI (L1 + 1))), (0, .ref mo), (1, .int (nI j)), (2, .int x), (3, .int xw), (5, .int (nI nS))]) hx hb dX6_played_144 hl (k := 4) rfl (nI_1 _) (by decide) rfl (fun ls hl => ?_)
              refine lv_goto (tgt := 10) hx hb dX6_played_147 (by decide) ?_
              exact ih10 (L1 + 1) xw (by omega) (by omega) (hxw) _ (lv_sub hl [1, 2, 3, 4, 0] rfl)
            · skip
              have n26 := mt (nI_leI (a := nS) (b := k1) (by omega) (by omega)).mpr c26
              have hk9 : k1 < nS := by omega
              have hc69 := hc6 k1 hk9
              have h169 := h16 k1 hk9
              refine lv_iconst (v := 4) hx hb dX6_played_29 (by decide) ?_
              refine lv_aload_n hx hb dX6_played_30 rfl (lv_at hl 0 rfl) ?_
              refine lv_iload hx hb dX6_played_31 (lv_at hl 5 rfl) ?_
              refine lv_iconst (v := 0) hx hb dX6_played_33 (by decide) ?_
              have hP9 := hP.sub (ws' := [oO mo 6 [.int th, .ref a1, .int (nI nC), .ref a2, .ref a3, .ref a4, .ref a5, .ref a6, .ref a7, .ref a8, .ref a9, .int (nI nS), .ref a10, .int (nI nM), .ref a11], aI D a10 130 pa]) [0, 7] rfl
              refine vp_callSi (pV (rest := [.int 4]) (qc := (RX6, TX6, 15)) [.int (nI k1), .int 0] 2 hC (m_part l D (mo := mo) (i := k1) (w := 0) (th := th) (a1 := a1) (nC := nC) (a2 := a2) (a3 := a3) (a4 := a4) (a5 := a5) (a6 := a6) (a7 := a7) (a8 := a8) (a9 := a9) (nS := nS) (a10 := a10) (nM := nM) (a11 := a11) (pa := pa) (by omega) (by omega)) rfl (hP 0 _ rfl) (gV mM_X6_120 mI_X6_part mS_X6_part mN_X6 mC_X6_part) (by decide +kernel) rfl rfl ⟨Nat.le_of_ble_eq_true rfl, Nat.le_of_ble_eq_true rfl⟩ hG hP9 rfl hl.1 rfl (Nat.le_of_ble_eq_true rfl) dX6_played_34 ⟨Nat.le_of_ble_eq_true rfl, Nat.le_of_ble_eq_true rfl⟩) (fun r34 h34 => ?_)
              obtain rfl : r34 = (pa (13 * k1 + 0)) := h34
              refine tpi (y := nI (ck k1)) (hc0 k1 hk9) ?_
              refine lv_imul hx hb dX6_played_37 ?_
              refine tpi (y := nI (4 * (ck k1))) (pk_mul 4 (ck k1)) ?_
              refine lv_iload_n hx hb dX6_played_38 rfl (lv_at hl 1 rfl) ?_
              refine lv_iadd hx hb dX6_played_39 ?_
              refine tpi (y := nI ((4 * (ck k1)) + j)) (nI_add (4 * (ck k1)) j) ?_
              refine lv_istore (lv' := [(6, .int (nI ((4 * (ck k1)) + j))), (0, .ref mo), (1, .int (nI j)), (2, .int x), (3, .int xw), (4, .int (nI L1)), (5, .int (nI k1))]) hx hb dX6_played_40 hl (by decide) rfl (fun ls hl => ?_)
              refine lv_aload_n hx hb dX6_played_42 rfl (lv_at hl 1 rfl) ?_
              refine lv_iload hx hb dX6_played_43 (lv_at hl 6 rfl) ?_
              refine lv_bipush (v := 7) hx hb dX6_played_45 (by decide) ?_
              have hP9 := hP.sub (ws' := [oO mo 6 [.int th, .ref a1, .int (nI nC), .ref a2, .ref a3, .ref a4, .ref a5, .ref a6, .ref a7, .ref a8, .ref a9, .int (nI nS), .ref a10, .int (nI nM), .ref a11], aI D a10 130 pa]) [0, 7] rfl
              refine vp_callSi (pV (rest := []) (qc := (RX6, TX6, 15)) [.int (nI k1), .int 7] 2 hC (m_part l D (mo := mo) (i := k1) (w := 7) (th := th) (a1 := a1) (nC := nC) (a2 := a2) (a3 := a3) (a4 := a4) (a5 := a5) (a6 := a6) (a7 := a7) (a8 := a8) (a9 := a9) (nS := nS) (a10 := a10) (nM := nM) (a11 := a11) (pa := pa) (by omega) (by omega)) rfl (hP 0 _ rfl) (gV mM_X6_120 mI_X6_part mS_X6_part mN_X6 mC_X6_part) (by decide +kernel) rfl rfl ⟨Nat.le_of_ble_eq_true rfl, Nat.le_of_ble_eq_true rfl⟩ hG hP9 rfl hl.1 rfl (Nat.le_of_ble_eq_true rfl) dX6_played_47 ⟨Nat.le_of_ble_eq_true rfl, Nat.le_of_ble_eq_true rfl⟩) (fun r47 h47 => ?_)
              obtain rfl : r47 = (pa (13 * k1 + 7)) := h47
              refine tpi (y := pt k1 7) (hpa k1 hk9 7 (by decide) (by decide)) ?_
              refine lv_iload hx hb dX6_played_50 (lv_at hl 5 rfl) ?_
              refine lv_icmp_ne (tgt := 138) hx hb dX6_played_52 (by decide) (fun c52 => ?_) (fun c52 => ?_)
              · skip
                refine lv_iinc (v := nI (k1 + 1)) (lv' := [(5, .int (nI (k1 + 1))), (6, .int (nI ((4 * (ck k1)) + j))), (0, .ref mo), (1, .int (nI j)), (2, .int x), (3, .int xw), (4, .int (nI L1))]) hx hb dX6_played_138 hl (k := 6) rfl (nI_1 _) (by decide) rfl (fun ls hl => ?_)
                refine lv_goto (tgt := 20) hx hb dX6_played_141 (by decide) ?_
                exact ih20 (k1 + 1) xw (by omega) (by omega) (by rw [lyI_no (lay := fun z => pt z 7) c52]; exact hxw) _ (lv_sub hl [2, 3, 4, 5, 6, 0] rfl)
              · skip
                refine lv_aload_n hx hb dX6_played_55 rfl (lv_at hl 1 rfl) ?_
                refine va_get (D := D) (ci := 6) (v := .ref a3) (C := RX6) (T := TX6) (N := 15) hx hb hts inlX6 hown hG.K hP 0 rfl rfl 4 (by decide) (hts _ mF_X6_16) (fun _ h9 => h9) rfl dX6_played_56 ?_
                refine lv_iload hx hb dX6_played_59 (lv_at hl 0 rfl) ?_
                refine ild (n := 24) (j := (4 * (ck k1)) + j) hx hb hG hP 3 rfl (by omega) (by omega) dX6_played_61 ?_
                refine tpi (y := nI (sz (ck k1) j)) (hks k1 hk9) ?_
                refine lv_if_eq (tgt := 138) hx hb dX6_played_62 (by decide) (fun c62 => ?_) (fun c62 => ?_)
                · skip
                  have n62 := (nI_eq (a := sz (ck k1) j) (b := 0) (by omega) (by omega)).mp c62
                  refine lv_iinc (v := nI (k1 + 1)) (lv' := [(5, .int (nI (k1 + 1))), (6, .int (nI ((4 * (ck k1)) + j))), (0, .ref mo), (1, .int (nI j)), (2, .int x), (3, .int xw), (4, .int (nI L1))]) hx hb dX6_played_138 hl (k := 6) rfl (nI_1 _) (by decide) rfl (fun ls hl => ?_)
                  refine lv_goto (tgt := 20) hx hb dX6_played_141 (by decide) ?_
                  exact ih20 (k1 + 1) xw (by omega) (by omega) (by rw [lyI_yes (lay := fun z => pt z 7) c52, valL_one, ← hxw]; show _ = blendS _ _ _ _ _ _ _ _; rw [blendS, if_pos n62]) _ (lv_sub hl [2, 3, 4, 5, 6, 0] rfl)
                · skip
                  have n62 := mt (nI_eq (a := sz (ck k1) j) (b := 0) (by omega) (by omega)).mpr c62
                  refine lv_aload_n hx hb dX6_played_65 rfl (lv_at hl 1 rfl) ?_
                  refine lv_iload hx hb dX6_played_66 (lv_at hl 6 rfl) ?_
                  refine lv_iload_n hx hb dX6_played_68 rfl (lv_at hl 3 rfl) ?_
                  have hP9 := hP.sub (ws' := [oO mo 6 [.int th, .ref a1, .int (nI nC), .ref a2, .ref a3, .ref a4, .ref a5, .ref a6, .ref a7, .ref a8, .ref a9, .int (nI nS), .ref a10, .int (nI nM), .ref a11], aI D a2 6 ln, aI D a10 130 pa]) [0, 2, 7] rfl
                  refine vp_callSi (pV (rest := []) (qc := (RX6, TX6, 15)) [.int (nI k1), .int x] 2 hC (m_isOn l D (pt := pt k1) (c0 := ck k1) (len := len (ck k1)) (mo := mo) (i := k1) (x := x) (th := th) (a1 := a1) (nC := nC) (a2 := a2) (a3 := a3) (a4 := a4) (a5 := a5) (a6 := a6) (a7 := a7) (a8 := a8) (a9 := a9) (nS := nS) (a10 := a10) (nM := nM) (a11 := a11) (ln := ln) (pa := pa) (by omega) (hpa k1 hk9) (hc0 k1 hk9) (hc6 k1 hk9) (hlq k1 hk9) (pos1 ((fa_le _ _).mpr (hO k1 hk9).b5.1)) ((hO k1 hk9).b10)) rfl (hP 0 _ rfl) (gV mM_X6_147 mI_X6_isOn mS_X6_isOn mN_X6 mC_X6_isOn) (by decide +kernel) rfl rfl ⟨Nat.le_of_ble_eq_true rfl, Nat.le_of_ble_eq_true rfl⟩ hG hP9 rfl hl.1 rfl (Nat.le_of_ble_eq_true rfl) dX6_played_69 ⟨Nat.le_of_ble_eq_true rfl, Nat.le_of_ble_eq_true rfl⟩) (fun r69 h69 => ?_)
                  rcases h69 with ⟨rfl, hb69⟩ | ⟨rfl, hb69⟩
                  · skip
                    refine lv_if_ne (tgt := 78) hx hb dX6_played_72 (by decide) (fun _ => ?_) (fun h9 => absurd h9 (by decide))
                    refine lv_aload_n hx hb dX6_played_78 rfl (lv_at hl 1 rfl) ?_
                    refine lv_iload hx hb dX6_played_79 (lv_at hl 0 rfl) ?_
                    refine lv_aload_n hx hb dX6_played_81 rfl (lv_at hl 1 rfl) ?_
                    refine lv_iload hx hb dX6_played_82 (lv_at hl 6 rfl) ?_
                    refine lv_iload_n hx hb dX6_played_84 rfl (lv_at hl 3 rfl) ?_
                    have hP9 := hP.sub (ws' := [oO mo 6 [.int th, .ref a1, .int (nI nC), .ref a2, .ref a3, .ref a4, .ref a5, .ref a6, .ref a7, .ref a8, .ref a9, .int (nI nS), .ref a10, .int (nI nM), .ref a11], aI D a2 6 ln, aI D a10 130 pa]) [0, 2, 7] rfl
                    refine vp_callSi (pV (rest := [.int (nI ((4 * (ck k1)) + j)), .ref mo]) (qc := (RX6, TX6, 15)) [.int (nI k1), .int x] 2 hC (m_local l D (pt := pt k1) (c0 := ck k1) (len := len (ck k1)) (mo := mo) (i := k1) (x := x) (th := th) (a1 := a1) (nC := nC) (a2 := a2) (a3 := a3) (a4 := a4) (a5 := a5) (a6 := a6) (a7 := a7) (a8 := a8) (a9 := a9) (nS := nS) (a10 := a10) (nM := nM) (a11 := a11) (ln := ln) (pa := pa) (by omega) (hpa k1 hk9) (hc0 k1 hk9) (hc6 k1 hk9) (hlq k1 hk9) (hO k1 hk9) (hb69) (hx9)) rfl (hP 0 _ rfl) (gV mM_X6_150 mI_X6_local mS_X6_local mN_X6 mC_X6_local) (by decide +kernel) rfl rfl ⟨Nat.le_of_ble_eq_true rfl, Nat.le_of_ble_eq_true rfl⟩ hG hP9 rfl hl.1 rfl (Nat.le_of_ble_eq_true rfl) dX6_played_85 ⟨Nat.le_of_ble_eq_true rfl, Nat.le_of_ble_eq_true rfl⟩) (fun r85 h85 => ?_)
                    obtain rfl : r85 = (localS (len (ck k1)) (pt k1) x) := h85
                    have hP9 := hP.sub (ws' := [oO mo 6 [.int th, .ref a1, .int (nI nC), .ref a2, .ref a3, .ref a4, .ref a5, .ref a6, .ref a7, .ref a8, .ref a9, .int (nI nS), .ref a10, .int (nI nM), .ref a11], aI D a3 24 ks, aI D a4 384 tm, aI D a5 384 wo, aI D a6 384 ea]) [0, 3, 4, 5, 6] rfl
                    refine vp_callSi (pV (rest := []) (qc := (RX6, TX6, 15)) [.int (nI ((4 * (ck k1)) + j)), .int (localS (len (ck k1)) (pt k1) x)] 2 hC (m_worth l D (k0 := 4 * ck k1 + j) (n := sz (ck k1) j) (ft := f (ck k1) (3 * j)) (fv := f (ck k1) (3 * j + 1)) (fe := f (ck k1) (3 * j + 2)) (mo := mo) (x := localS (len (ck k1)) (pt k1) x) (th := th) (a1 := a1) (nC := nC) (a2 := a2) (a3 := a3) (a4 := a4) (a5 := a5) (a6 := a6) (a7 := a7) (a8 := a8) (a9 := a9) (nS := nS) (a10 := a10) (nM := nM) (a11 := a11) (ks := ks) (tm := tm) (wo := wo) (ea := ea) (by have := hc6 k1 hk9; omega) (by omega) (h16 k1 hk9) (hks k1 hk9) (htm k1 hk9) (hwo k1 hk9) (hea k1 hk9) (hT k1 hk9) (hV k1 hk9)) rfl (hP 0 _ rfl) (gV mM_X6_99 mI_X6_worth mS_X6_worth mN_X6 mC_X6_worth) (by decide +kernel) rfl rfl ⟨Nat.le_of_ble_eq_true rfl, Nat.le_of_ble_eq_true rfl⟩ hG hP9 rfl hl.1 rfl (Nat.le_of_ble_eq_true rfl) dX6_played_88 ⟨Nat.le_of_ble_eq_true rfl, Nat.le_of_ble_eq_true rfl⟩) (fun r88 h88 => ?_)
                    obtain rfl : r88 = (evT (sz (ck k1) j) (f (ck k1) (3 * j)) (f (ck k1) (3 * j + 1)) (f (ck k1) (3 * j + 2)) (localS (len (ck k1)) (pt k1) x)) := h88
                    refine lv_i2l hx hb dX6_played_91 rfl ?_
                    refine lv_lstore (lv' := [(7, .long ((evT (sz (ck k1) j) (f (ck k1) (3 * j)) (f (ck k1) (3 * j + 1)) (f (ck k1) (3 * j + 2)) (localS (len (ck k1)) (pt k1) x)).toInt64)), (6, .int (nI ((4 * (ck k1)) + j))), (0, .ref mo), (1, .int (nI j)), (2, .int x), (3, .int xw), (4, .int (nI L1)), (5, .int (nI k1))]) hx hb dX6_played_92 hl (by decide) rfl (fun ls hl => ?_)
                    have hvb := hB (lyI (fun z => pt z 7) nS L1 k1) (Nat.le_of_lt (Nat.lt_of_lt_of_le (lyI_room (lay := (fun z => pt z 7)) (by omega) hk9 c52) hn10)) (fun z hz => lyI_lt hk1 hz)
                    rw [← hxw] at hvb
                    refine lv_aload_n hx hb dX6_played_94 rfl (lv_at hl 2 rfl) ?_
                    refine lv_iload hx hb dX6_played_95 (lv_at hl 7 rfl) ?_
                    refine lv_bipush (v := 9) hx hb dX6_played_97 (by decide) ?_
                    have hP9 := hP.sub (ws' := [oO mo 6 [.int th, .ref a1, .int (nI nC), .ref a2, .ref a3, .ref a4, .ref a5, .ref a6, .ref a7, .ref a8, .ref a9, .int (nI nS), .ref a10, .int (nI nM), .ref a11], aI D a10 130 pa]) [0, 7] rfl
                    refine vp_callSi (pV (rest := []) (qc := (RX6, TX6, 15)) [.int (nI k1), .int 9] 2 hC (m_part l D (mo := mo) (i := k1) (w := 9) (th := th) (a1 := a1) (nC := nC) (a2 := a2) (a3 := a3) (a4 := a4) (a5 := a5) (a6 := a6) (a7 := a7) (a8 := a8) (a9 := a9) (nS := nS) (a10 := a10) (nM := nM) (a11 := a11) (pa := pa) (by omega) (by omega)) rfl (hP 0 _ rfl) (gV mM_X6_120 mI_X6_part mS_X6_part mN_X6 mC_X6_part) (by decide +kernel) rfl rfl ⟨Nat.le_of_ble_eq_true rfl, Nat.le_of_ble_eq_true rfl⟩ hG hP9 rfl hl.1 rfl (Nat.le_of_ble_eq_true rfl) dX6_played_99 ⟨Nat.le_of_ble_eq_true rfl, Nat.le_of_ble_eq_true rfl⟩) (fun r99 h99 => ?_)
                    obtain rfl : r99 = (pa (13 * k1 + 9)) := h99
                    refine tpi (y := pt k1 9) (hpa k1 hk9 9 (by decide) (by decide)) ?_
                    refine lv_iconst (v := 1) hx hb dX6_played_102 (by decide) ?_
                    refine lv_icmp_ne (tgt := 111) hx hb dX6_played_103 (by decide) (fun c103 => ?_) (fun c103 => ?_)
                    · skip
                      refine lv_lload hx hb dX6_played_111 (lv_at hl 0 rfl) ?_
                      refine lv_iload_n hx hb dX6_played_113 rfl (lv_at hl 5 rfl) ?_
                      refine lv_i2l hx hb dX6_played_114 rfl ?_
                      refine lv_lsub hx hb dX6_played_115 ?_
                      refine lv_lstore (lv' := [(9, .long (((evT (sz (ck k1) j) (f (ck k1) (3 * j)) (f (ck k1) (3 * j + 1)) (f (ck k1) (3 * j + 2)) (localS (len (ck k1)) (pt k1) x)).toInt64) - xw.toInt64)), (7, .long ((evT (sz (ck k1) j) (f (ck k1) (3 * j)) (f (ck k1) (3 * j + 1)) (f (ck k1) (3 * j + 2)) (localS (len (ck k1)) (pt k1) x)).toInt64)), (6, .int (nI ((4 * (ck k1)) + j))), (0, .ref mo), (1, .int (nI j)), (2, .int x), (3, .int xw), (4, .int (nI L1)), (5, .int (nI k1))]) hx hb dX6_played_116 hl (by decide) rfl (fun ls hl => ?_)
                      refine lv_iload_n hx hb dX6_played_118 rfl (lv_at hl 6 rfl) ?_
                      refine lv_lload hx hb dX6_played_119 (lv_at hl 0 rfl) ?_
                      refine lv_aload_n hx hb dX6_played_121 rfl (lv_at hl 3 rfl) ?_
                      refine lv_iload hx hb dX6_played_122 (lv_at hl 8 rfl) ?_
                      refine lv_iload_n hx hb dX6_played_124 rfl (lv_at hl 5 rfl) ?_
                      have hP9 := hP.sub (ws' := [oO mo 6 [.int th, .ref a1, .int (nI nC), .ref a2, .ref a3, .ref a4, .ref a5, .ref a6, .ref a7, .ref a8, .ref a9, .int (nI nS), .ref a10, .int (nI nM), .ref a11], aI D a2 6 ln, aI D a10 130 pa]) [0, 2, 7] rfl
                      refine vp_callSi (pV (rest := [.long (((evT (sz (ck k1) j) (f (ck k1) (3 * j)) (f (ck k1) (3 * j + 1)) (f (ck k1) (3 * j + 2)) (localS (len (ck k1)) (pt k1) x)).toInt64) - xw.toInt64), .int xw]) (qc := (RX6, TX6, 15)) [.int (nI k1), .int x] 2 hC (m_strength l D (pt := pt k1) (c0 := ck k1) (len := len (ck k1)) (mo := mo) (i := k1) (x := x) (th := th) (a1 := a1) (nC := nC) (a2 := a2) (a3 := a3) (a4 := a4) (a5 := a5) (a6 := a6) (a7 := a7) (a8 := a8) (a9 := a9) (nS := nS) (a10 := a10) (nM := nM) (a11 := a11) (ln := ln) (pa := pa) (by omega) (hpa k1 hk9) (hc0 k1 hk9) (hc6 k1 hk9) (hlq k1 hk9) (pos1 ((fa_le _ _).mpr (hO k1 hk9).b5.1)) (hO k1 hk9) (hb69) (hx0) (hx9)) rfl (hP 0 _ rfl) (gV mM_X6_153 mI_X6_strength mS_X6_strength mN_X6 mC_X6_strength) (by decide +kernel) rfl rfl ⟨Nat.le_of_ble_eq_true rfl, Nat.le_of_ble_eq_true rfl⟩ hG hP9 rfl hl.1 rfl (Nat.le_of_ble_eq_true rfl) dX6_played_125 ⟨Nat.le_of_ble_eq_true rfl, Nat.le_of_ble_eq_true rfl⟩) (fun r125 h125 => ?_)
                      obtain rfl : r125 = (strS (len (ck k1)) (pt k1) x) := h125
                      refine lv_i2l hx hb dX6_played_128 rfl ?_
                      refine lv_lmul hx hb dX6_played_129 ?_
                      refine lv_ldc2 hx hb hown (hts _ mH_X6_159) dX6_played_130 ?_
                      have hP9 : va_P D cls [] s.heap := fun k q h => by simp at h
                      refine vp_callSi (pS (rest := [.int xw]) [.long ((((evT (sz (ck k1) j) (f (ck k1) (3 * j)) (f (ck k1) (3 * j + 1)) (f (ck k1) (3 * j + 2)) (localS (len (ck k1)) (pt k1) x)).toInt64) - xw.toInt64) * ((strS (len (ck k1)) (pt k1) x).toInt64)), .long 100] 2 hC (m_rounded l D (x := (((evT (sz (ck k1) j) (f (ck k1) (3 * j)) (f (ck k1) (3 * j + 1)) (f (ck k1) (3 * j + 2)) (localS (len (ck k1)) (pt k1) x)).toInt64) - xw.toInt64) * ((strS (len (ck k1)) (pt k1) x).toInt64)) (y := 100) (by decide)) (gS mM_X6_89 mT_X6_rounded mN_X6 mC_X6_rounded) (by decide +kernel) rfl rfl ⟨Nat.le_of_ble_eq_true rfl, Nat.le_of_ble_eq_true rfl⟩ hG hP9 rfl hl.1 rfl (Nat.le_of_ble_eq_true rfl) dX6_played_133 ⟨Nat.le_of_ble_eq_true rfl, Nat.le_of_ble_eq_true rfl⟩) (fun r133 h133 => ?_)
                      obtain rfl : r133 = (rnd ((((evT (sz (ck k1) j) (f (ck k1) (3 * j)) (f (ck k1) (3 * j + 1)) (f (ck k1) (3 * j + 2)) (localS (len (ck k1)) (pt k1) x)).toInt64) - xw.toInt64) * ((strS (len (ck k1)) (pt k1) x).toInt64)) 100) := h133
                      refine lv_iadd hx hb dX6_played_136 ?_
                      refine lv_istore_n (lv' := [(3, .int (xw + (rnd ((((evT (sz (ck k1) j) (f (ck k1) (3 * j)) (f (ck k1) (3 * j + 1)) (f (ck k1) (3 * j + 2)) (localS (len (ck k1)) (pt k1) x)).toInt64) - xw.toInt64) * ((strS (len (ck k1)) (pt k1) x).toInt64)) 100))), (9, .long (((evT (sz (ck k1) j) (f (ck k1) (3 * j)) (f (ck k1) (3 * j + 1)) (f (ck k1) (3 * j + 2)) (localS (len (ck k1)) (pt k1) x)).toInt64) - xw.toInt64)), (7, .long ((evT (sz (ck k1) j) (f (ck k1) (3 * j)) (f (ck k1) (3 * j + 1)) (f (ck k1) (3 * j + 2)) (localS (len (ck k1)) (pt k1) x)).toInt64)), (6, .int (nI ((4 * (ck k1)) + j))), (0, .ref mo), (1, .int (nI j)), (2, .int x), (4, .int (nI L1)), (5, .int (nI k1))]) hx hb dX6_played_137 rfl hl (by decide) rfl (fun ls hl => ?_)
                      refine lv_iinc (v := nI (k1 + 1)) (lv' := [(5, .int (nI (k1 + 1))), (3, .int (xw + (rnd ((((evT (sz (ck k1) j) (f (ck k1) (3 * j)) (f (ck k1) (3 * j + 1)) (f (ck k1) (3 * j + 2)) (localS (len (ck k1)) (pt k1) x)).toInt64) - xw.toInt64) * ((strS (len (ck k1)) (pt k1) x).toInt64)) 100))), (9, .long (((evT (sz (ck k1) j) (f (ck k1) (3 * j)) (f (ck k1) (3 * j + 1)) (f (ck k1) (3 * j + 2)) (localS (len (ck k1)) (pt k1) x)).toInt64) - xw.toInt64)), (7, .long ((evT (sz (ck k1) j) (f (ck k1) (3 * j)) (f (ck k1) (3 * j + 1)) (f (ck k1) (3 * j + 2)) (localS (len (ck k1)) (pt k1) x)).toInt64)), (6, .int (nI ((4 * (ck k1)) + j))), (0, .ref mo), (1, .int (nI j)), (2, .int x), (4, .int (nI L1))]) hx hb dX6_played_138 hl (k := 8) rfl (nI_1 _) (by decide) rfl (fun ls hl => ?_)
                      refine lv_goto (tgt := 20) hx hb dX6_played_141 (by decide) ?_
                      exact ih20 (k1 + 1) (xw + (rnd ((((evT (sz (ck k1) j) (f (ck k1) (3 * j)) (f (ck k1) (3 * j + 1)) (f (ck k1) (3 * j + 2)) (localS (len (ck k1)) (pt k1) x)).toInt64) - xw.toInt64) * ((strS (len (ck k1)) (pt k1) x).toInt64)) 100)) (by omega) (by omega) (by rw [lyI_yes (lay := fun z => pt z 7) c52, valL_one, ← hxw]; show _ = blendS _ _ _ _ _ _ _ _; rw [blendS, if_neg n62, if_pos hb69, if_pos ((hO k1 hk9).b9.resolve_right c103), i64_sub (a := evT (sz (ck k1) j) (f (ck k1) (3 * j)) (f (ck k1) (3 * j + 1)) (f (ck k1) (3 * j + 2)) (localS (len (ck k1)) (pt k1) x)) (b := xw) (by have q1 := hE k1 hk9 (localS (len (ck k1)) (pt k1) x); have q2 := hvb; omega) (by have q1 := hE k1 hk9 (localS (len (ck k1)) (pt k1) x); have q2 := hvb; omega)]) _ (lv_sub hl [5, 6, 7, 1, 8, 0] rfl)
                    · skip
                      refine lv_lload hx hb dX6_played_106 (lv_at hl 0 rfl) ?_
                      refine lv_goto (tgt := 116) hx hb dX6_played_108 (by decide) ?_
                      refine lv_lstore (lv' := [(9, .long ((evT (sz (ck k1) j) (f (ck k1) (3 * j)) (f (ck k1) (3 * j + 1)) (f (ck k1) (3 * j + 2)) (localS (len (ck k1)) (pt k1) x)).toInt64)), (7, .long ((evT (sz (ck k1) j) (f (ck k1) (3 * j)) (f (ck k1) (3 * j + 1)) (f (ck k1) (3 * j + 2)) (localS (len (ck k1)) (pt k1) x)).toInt64)), (6, .int (nI ((4 * (ck k1)) + j))), (0, .ref mo), (1, .int (nI j)), (2, .int x), (3, .int xw), (4, .int (nI L1)), (5, .int (nI k1))]) hx hb dX6_played_116 hl (by decide) rfl (fun ls hl => ?_)
                      refine lv_iload_n hx hb dX6_played_118 rfl (lv_at hl 6 rfl) ?_
                      refine lv_lload hx hb dX6_played_119 (lv_at hl 0 rfl) ?_
                      refine lv_aload_n hx hb dX6_played_121 rfl (lv_at hl 3 rfl) ?_
                      refine lv_iload hx hb dX6_played_122 (lv_at hl 8 rfl) ?_
                      refine lv_iload_n hx hb dX6_played_124 rfl (lv_at hl 5 rfl) ?_
                      have hP9 := hP.sub (ws' := [oO mo 6 [.int th, .ref a1, .int (nI nC), .ref a2, .ref a3, .ref a4, .ref a5, .ref a6, .ref a7, .ref a8, .ref a9, .int (nI nS), .ref a10, .int (nI nM), .ref a11], aI D a2 6 ln, aI D a10 130 pa]) [0, 2, 7] rfl
                      refine vp_callSi (pV (rest := [.long ((evT (sz (ck k1) j) (f (ck k1) (3 * j)) (f (ck k1) (3 * j + 1)) (f (ck k1) (3 * j + 2)) (localS (len (ck k1)) (pt k1) x)).toInt64), .int xw]) (qc := (RX6, TX6, 15)) [.int (nI k1), .int x] 2 hC (m_strength l D (pt := pt k1) (c0 := ck k1) (len := len (ck k1)) (mo := mo) (i := k1) (x := x) (th := th) (a1 := a1) (nC := nC) (a2 := a2) (a3 := a3) (a4 := a4) (a5 := a5) (a6 := a6) (a7 := a7) (a8 := a8) (a9 := a9) (nS := nS) (a10 := a10) (nM := nM) (a11 := a11) (ln := ln) (pa := pa) (by omega) (hpa k1 hk9) (hc0 k1 hk9) (hc6 k1 hk9) (hlq k1 hk9) (pos1 ((fa_le _ _).mpr (hO k1 hk9).b5.1)) (hO k1 hk9) (hb69) (hx0) (hx9)) rfl (hP 0 _ rfl) (gV mM_X6_153 mI_X6_strength mS_X6_strength mN_X6 mC_X6_strength) (by decide +kernel) rfl rfl ⟨Nat.le_of_ble_eq_true rfl, Nat.le_of_ble_eq_true rfl⟩ hG hP9 rfl hl.1 rfl (Nat.le_of_ble_eq_true rfl) dX6_played_125 ⟨Nat.le_of_ble_eq_true rfl, Nat.le_of_ble_eq_true rfl⟩) (fun r125 h125 => ?_)
                      obtain rfl : r125 = (strS (len (ck k1)) (pt k1) x) := h125
                      refine lv_i2l hx hb dX6_played_128 rfl ?_
                      refine lv_lmul hx hb dX6_played_129 ?_
                      refine lv_ldc2 hx hb hown (hts _ mH_X6_159) dX6_played_130 ?_
                      have hP9 : va_P D cls [] s.heap := fun k q h => by simp at h
                      refine vp_callSi (pS (rest := [.int xw]) [.long (((evT (sz (ck k1) j) (f (ck k1) (3 * j)) (f (ck k1) (3 * j + 1)) (f (ck k1) (3 * j + 2)) (localS (len (ck k1)) (pt k1) x)).toInt64) * ((strS (len (ck k1)) (pt k1) x).toInt64)), .long 100] 2 hC (m_rounded l D (x := ((evT (sz (ck k1) j) (f (ck k1) (3 * j)) (f (ck k1) (3 * j + 1)) (f (ck k1) (3 * j + 2)) (localS (len (ck k1)) (pt k1) x)).toInt64) * ((strS (len (ck k1)) (pt k1) x).toInt64)) (y := 100) (by decide)) (gS mM_X6_89 mT_X6_rounded mN_X6 mC_X6_rounded) (by decide +kernel) rfl rfl ⟨Nat.le_of_ble_eq_true rfl, Nat.le_of_ble_eq_true rfl⟩ hG hP9 rfl hl.1 rfl (Nat.le_of_ble_eq_true rfl) dX6_played_133 ⟨Nat.le_of_ble_eq_true rfl, Nat.le_of_ble_eq_true rfl⟩) (fun r133 h133 => ?_)
                      obtain rfl : r133 = (rnd (((evT (sz (ck k1) j) (f (ck k1) (3 * j)) (f (ck k1) (3 * j + 1)) (f (ck k1) (3 * j + 2)) (localS (len (ck k1)) (pt k1) x)).toInt64) * ((strS (len (ck k1)) (pt k1) x).toInt64)) 100) := h133
                      refine lv_iadd hx hb dX6_played_136 ?_
                      refine lv_istore_n (lv' := [(3, .int (xw + (rnd (((evT (sz (ck k1) j) (f (ck k1) (3 * j)) (f (ck k1) (3 * j + 1)) (f (ck k1) (3 * j + 2)) (localS (len (ck k1)) (pt k1) x)).toInt64) * ((strS (len (ck k1)) (pt k1) x).toInt64)) 100))), (9, .long ((evT (sz (ck k1) j) (f (ck k1) (3 * j)) (f (ck k1) (3 * j + 1)) (f (ck k1) (3 * j + 2)) (localS (len (ck k1)) (pt k1) x)).toInt64)), (7, .long ((evT (sz (ck k1) j) (f (ck k1) (3 * j)) (f (ck k1) (3 * j + 1)) (f (ck k1) (3 * j + 2)) (localS (len (ck k1)) (pt k1) x)).toInt64)), (6, .int (nI ((4 * (ck k1)) + j))), (0, .ref mo), (1, .int (nI j)), (2, .int x), (4, .int (nI L1)), (5, .int (nI k1))]) hx hb dX6_played_137 rfl hl (by decide) rfl (fun ls hl => ?_)
                      refine lv_iinc (v := nI (k1 + 1)) (lv' := [(5, .int (nI (k1 + 1))), (3, .int (xw + (rnd (((evT (sz (ck k1) j) (f (ck k1) (3 * j)) (f (ck k1) (3 * j + 1)) (f (ck k1) (3 * j + 2)) (localS (len (ck k1)) (pt k1) x)).toInt64) * ((strS (len (ck k1)) (pt k1) x).toInt64)) 100))), (9, .long ((evT (sz (ck k1) j) (f (ck k1) (3 * j)) (f (ck k1) (3 * j + 1)) (f (ck k1) (3 * j + 2)) (localS (len (ck k1)) (pt k1) x)).toInt64)), (7, .long ((evT (sz (ck k1) j) (f (ck k1) (3 * j)) (f (ck k1) (3 * j + 1)) (f (ck k1) (3 * j + 2)) (localS (len (ck k1)) (pt k1) x)).toInt64)), (6, .int (nI ((4 * (ck k1)) + j))), (0, .ref mo), (1, .int (nI j)), (2, .int x), (4, .int (nI L1))]) hx hb dX6_played_138 hl (k := 8) rfl (nI_1 _) (by decide) rfl (fun ls hl => ?_)
                      refine lv_goto (tgt := 20) hx hb dX6_played_141 (by decide) ?_
                      exact ih20 (k1 + 1) (xw + (rnd (((evT (sz (ck k1) j) (f (ck k1) (3 * j)) (f (ck k1) (3 * j + 1)) (f (ck k1) (3 * j + 2)) (localS (len (ck k1)) (pt k1) x)).toInt64) * ((strS (len (ck k1)) (pt k1) x).toInt64)) 100)) (by omega) (by omega) (by rw [lyI_yes (lay := fun z => pt z 7) c52, valL_one, ← hxw]; show _ = blendS _ _ _ _ _ _ _ _; rw [blendS, if_neg n62, if_pos hb69, if_neg (by rw [c103]; decide)]) _ (lv_sub hl [5, 6, 7, 1, 8, 0] rfl)
                  · skip
                    refine lv_if_ne (tgt := 78) hx hb dX6_played_72 (by decide) (fun h9 => (h9 (by decide)).elim) (fun _ => ?_)
                    refine lv_goto (tgt := 138) hx hb dX6_played_75 (by decide) ?_
                    refine lv_iinc (v := nI (k1 + 1)) (lv' := [(5, .int (nI (k1 + 1))), (6, .int (nI ((4 * (ck k1)) + j))), (0, .ref mo), (1, .int (nI j)), (2, .int x), (3, .int xw), (4, .int (nI L1))]) hx hb dX6_played_138 hl (k := 6) rfl (nI_1 _) (by decide) rfl (fun ls hl => ?_)
                    refine lv_goto (tgt := 20) hx hb dX6_played_141 (by decide) ?_
                    exact ih20 (k1 + 1) xw (by omega) (by omega) (by rw [lyI_yes (lay := fun z => pt z 7) c52, valL_one, ← hxw]; show _ = blendS _ _ _ _ _ _ _ _; rw [blendS, if_neg n62, if_neg hb69]) _ (lv_sub hl [2, 3, 4, 5, 6, 0] rfl)
        exact loop20 _ 0 xv (Nat.lt_succ_self _) (by omega) (by rw [lyI_0]; exact hxv) _ (lv_sub hl [1, 2, 3, 4, 5, 0] rfl)
  exact loop10 _ 0 (bs j) (Nat.lt_succ_self _) (by omega) (rfl) _ (lv_sub hl [2, 3, 4, 1, 0] rfl)
