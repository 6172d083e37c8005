set_option maxHeartbeats 400000 in
set_option maxRecDepth 100000 in
theorem m_drop (l : Launch) (D : va_G) {mo a1 a2 a3 a4 a5 a6 a7 a8 a9 a10 a11 nC nS nM : Nat} {th : Int32} {ks tm wo ea : Nat → Int32} {k0 n d : Nat} (hz0 : Nat) (h24 : k0 < 24) (hks : ks k0 = nI n) (h16 : n ≤ 16) (hd : d < n) : Met l yX6_drop (ws_ yX6_drop cX6_drop 4 none) ({ frames := 1, cells := 0, slots := 0, locals := 24 } : Room) (va_Pc [.ref mo, .int (nI k0), .int (nI d)] (SW D [oO mo 6 [.int th, .ref a1, .int (nI nC), .ref a2, .ref a3, .ref a4, .ref a5, .ref a6, .ref a7, .ref a8, .ref a9, .int (nI nS), .ref a10, .int (nI nM), .ref a11], aI D a3 24 ks, aI D a4 384 tm, aI D a5 384 wo, aI D a6 384 ea] hz0)) (va_Qv (fun _ => True) (AT D (va_A [oO mo 6 [.int th, .ref a1, .int (nI nC), .ref a2, .ref a3, .ref a4, .ref a5, .ref a6, .ref a7, .ref a8, .ref a9, .int (nI nS), .ref a10, .int (nI nM), .ref a11], aI D a3 24 ks, aI D a4 384 tm, aI D a5 384 wo, aI D a6 384 ea] hz0) (fun _ : Unit => [oO mo 6 [.int th, .ref a1, .int (nI nC), .ref a2, .ref a3, .ref a4, .ref a5, .ref a6, .ref a7, .ref a8, .ref a9, .int (nI nS), .ref a10, .int (nI nM), .ref a11], aI D a3 24 (upd ks k0 (nI (n - 1))), aI D a4 384 (dlF tm (16 * k0 + d) (16 * k0 + n)), aI D a5 384 (dlF wo (16 * k0 + d) (16 * k0 + n)), aI D a6 384 (dlF ea (16 * k0 + d) (16 * k0 + n))])) (va_A [oO mo 6 [.int th, .ref a1, .int (nI nC), .ref a2, .ref a3, .ref a4, .ref a5, .ref a6, .ref a7, .ref a8, .ref a9, .int (nI nS), .ref a10, .int (nI nM), .ref a11], aI D a3 24 ks, aI D a4 384 tm, aI D a5 384 wo, aI D a6 384 ea] hz0)) 0 0 (va_A [oO mo 6 [.int th, .ref a1, .int (nI nC), .ref a2, .ref a3, .ref a4, .ref a5, .ref a6, .ref a7, .ref a8, .ref a9, .int (nI nS), .ref a10, .int (nI nM), .ref a11], aI D a3 24 ks, aI D a4 384 tm, aI D a5 384 wo, aI D a6 384 ea] hz0) := by
  refine Met.ofW (cc := cX6_drop) (maxL := 4) (ret := none) (by decide) rfl ?_
  intro p e s m args below meth c s₁ B hml hv
  obtain ⟨rfl, hsz, hG, hP, hD0⟩ := hv
  have hx := B.exec
  have hb := B.bytes
  have hr := B.returns
  have hts : ∀ w ∈ wsL_law, w.before _ s = true := fun w h => atoms_spec (ws := (ws_ yX6_drop cX6_drop 4 none)) B.pre w (List.mem_cons_of_mem _ h)
  have hown : s.vm.findClass RX6 = some m.cls := findClass_of_methodNamed B.named
  have hlk := B.notSynchronized
  have hC : CallFix p m c cX6_drop 4 s _ wsL_law RX6 := ⟨hx, hb, hml, hown, hts⟩
  subst hsz
  have hD := hD0.self (sz := s.heap.size)
  generalize hAe : va_A [oO mo 6 [.int th, .ref a1, .int (nI nC), .ref a2, .ref a3, .ref a4, .ref a5, .ref a6, .ref a7, .ref a8, .ref a9, .int (nI nS), .ref a10, .int (nI nM), .ref a11], aI D a3 24 ks, aI D a4 384 tm, aI D a5 384 wo, aI D a6 384 ea] s.heap.size = A at hD ⊢
  have hA : ∀ q : Nat, s.heap.size ≤ q → A q := fun q h => by rw [← hAe]; exact Or.inr h
  have hS : va_S A s.heap s.heap [] := va_S.rf
  obtain ⟨H, hHe⟩ : ∃ H, H = s.heap := ⟨_, rfl⟩
  rw [← hHe] at hP
  have hS : va_S A s.heap H [] := by rw [hHe]; exact hS
  have hl := lv_entry ([.ref mo, .int (nI k0), .int (nI d)]) (n := 4) (Nat.le_of_ble_eq_true rfl)
  rw [lg_entry_eq]
  generalize (lg_sl ([.ref mo, .int (nI k0), .int (nI d)]) ++ List.replicate (4 - (lg_sl ([.ref mo, .int (nI k0), .int (nI d)])).length) Slot.unset).toArray = ls at hl ⊢
  have hl : lv_has ls 4 [(0, .ref mo), (1, .int (nI k0)), (2, .int (nI d))] := hl
  rw [← hHe]
  refine lv_iload_n hx hb dX6_drop_0 rfl (lv_at hl 1 rfl) ?_
  have hP9 : va_P D cls [] H := fun k q h => by simp at h
  refine vp_callSi (pS (rest := []) [.int (nI k0)] 1 hC (m_row l D (j := k0) ) (gS mM_X6_78 mT_X6_row mN_X6 mC_X6_row) (by decide +kernel) rfl rfl ⟨Nat.le_of_ble_eq_true rfl, Nat.le_of_ble_eq_true rfl⟩ hG hP9 rfl hl.1 rfl (Nat.le_of_ble_eq_true rfl) dX6_drop_1 ⟨Nat.le_of_ble_eq_true rfl, Nat.le_of_ble_eq_true rfl⟩) (fun r1 h1 => ?_)
  obtain rfl : r1 = (nI (16 * k0)) := h1
  refine lv_iload_n hx hb dX6_drop_4 rfl (lv_at hl 2 rfl) ?_
  refine lv_iadd hx hb dX6_drop_5 ?_
  refine tpi (y := nI ((16 * k0) + d)) (nI_add (16 * k0) d) ?_
  refine lv_istore_n (lv' := [(3, .int (nI ((16 * k0) + d))), (0, .ref mo), (1, .int (nI k0)), (2, .int (nI d))]) hx hb dX6_drop_6 rfl hl (by decide) rfl (fun ls hl => ?_)
  have loop7 : ∀ (d9 : Nat) (k : Nat), (16 * k0 + n - k) < d9 → (16 * k0 + d ≤ k) → (k + 1 ≤ 16 * k0 + n) → ∀ (H : Heap) (locs : List Loc) (ls : Array Slot), va_P D cls [oO mo 6 [.int th, .ref a1, .int (nI nC), .ref a2, .ref a3, .ref a4, .ref a5, .ref a6, .ref a7, .ref a8, .ref a9, .int (nI nS), .ref a10, .int (nI nM), .ref a11], aI D a3 24 ks, aI D a4 384 (dlF tm (16 * k0 + d) (k + 1)), aI D a5 384 (dlF wo (16 * k0 + d) (k + 1)), aI D a6 384 (dlF ea (16 * k0 + d) (k + 1))] H → va_D A [oO mo 6 [.int th, .ref a1, .int (nI nC), .ref a2, .ref a3, .ref a4, .ref a5, .ref a6, .ref a7, .ref a8, .ref a9, .int (nI nS), .ref a10, .int (nI nM), .ref a11], aI D a3 24 ks, aI D a4 384 (dlF tm (16 * k0 + d) (k + 1)), aI D a5 384 (dlF wo (16 * k0 + d) (k + 1)), aI D a6 384 (dlF ea (16 * k0 + d) (k + 1))] → va_S A s.heap H locs → lv_has ls 4 [(0, .ref mo), (1, .int (nI k0)), (2, .int (nI d)), (3, .int (nI k))] → W p l e ({ frames := 1, cells := 0, slots := 0, locals := 24 } : Room) s m ([.ref mo, .int (nI k0), .int (nI d)] : List Value).toArray below meth c H locs 0 0 (MQ below (va_Qv (fun _ => True) (AT D A (fun _ : Unit => [oO mo 6 [.int th, .ref a1, .int (nI nC), .ref a2, .ref a3, .ref a4, .ref a5, .ref a6, .ref a7, .ref a8, .ref a9, .int (nI nS), .ref a10, .int (nI nM), .ref a11], aI D a3 24 (upd ks k0 (nI (n - 1))), aI D a4 384 (dlF tm (16 * k0 + d) (16 * k0 + n)), aI D a5 384 (dlF wo (16 * k0 + d) (16 * k0 + n)), aI D a6 384 (dlF ea (16 * k0 + d) (16 * k0 + n))])) A) ([.ref mo, .int (nI k0), .int (nI d)] : List Value).toArray s 0 0 A) (F0 m 7 ls []) := by
    intro d9
    induction d9 with
    | zero => intro k hd; exact absurd hd (Nat.not_lt_zero _)
    | succ d9 ih7 =>
      intro k hd7 hk1 hk2 H locs ls hP hD hS hl
      refine lv_iload_n hx hb dX6_drop_7 rfl (lv_at hl 3 rfl) ?_
      refine lv_iconst (v := 1) hx hb dX6_drop_8 (by decide) ?_
      refine lv_iadd hx hb dX6_drop_9 ?_
      refine tpi (y := nI (k + 1)) (nI_add k 1) ?_
      refine lv_iload_n hx hb dX6_drop_10 rfl (lv_at hl 1 rfl) ?_
      have hP9 : va_P D cls [] H := fun k q h => by simp at h
      refine vp_callSi (pS (rest := [.int (nI (k + 1))]) [.int (nI k0)] 1 hC (m_row l D (j := k0) ) (gS mM_X6_78 mT_X6_row mN_X6 mC_X6_row) (by decide +kernel) rfl rfl ⟨Nat.le_of_ble_eq_true rfl, Nat.le_of_ble_eq_true rfl⟩ hG hP9 rfl hl.1 rfl (Nat.le_of_ble_eq_true rfl) dX6_drop_11 ⟨Nat.le_of_ble_eq_true rfl, Nat.le_of_ble_eq_true rfl⟩) (fun r11 h11 => ?_)
      obtain rfl : r11 = (nI (16 * k0)) := h11
      refine lv_aload_n hx hb dX6_drop_14 rfl (lv_at hl 0 rfl) ?_
      refine va_get (D := D) (ci := 6) (v := .ref a3) (C := RX6) (T := TX6) (N := 15) hx hb hts inlX6 hown hG.K hP 0 rfl rfl 4 (by decide) (hts _ mF_X6_16) (fun _ h9 => h9) rfl dX6_drop_15 ?_
      refine lv_iload_n hx hb dX6_drop_18 rfl (lv_at hl 1 rfl) ?_
      refine ild (n := 24) (j := k0) hx hb hG hP 1 rfl (by omega) (by omega) dX6_drop_19 ?_
      refine tpi (y := nI n) (hks) ?_
      refine lv_iadd hx hb dX6_drop_20 ?_
      refine tpi (y := nI ((16 * k0) + n)) (nI_add (16 * k0) n) ?_
      refine lv_icmp_ge (tgt := 59) hx hb dX6_drop_21 (by decide) (fun c21 => ?_) (fun c21 => ?_)
      · skip
        have n21 := (nI_leI (a := (16 * k0) + n) (b := k + 1) (by omega) (by omega)).mp c21
        have hk9 : k + 1 = 16 * k0 + n := by omega
        have hcv1 : (dlF tm (16 * k0 + d) (16 * k0 + n)) = (dlF tm (16 * k0 + d) (k + 1)) := by rw [hk9]
        have hP := Eq.mpr (congrArg (fun z9 => va_P D cls [oO mo 6 [.int th, .ref a1, .int (nI nC), .ref a2, .ref a3, .ref a4, .ref a5, .ref a6, .ref a7, .ref a8, .ref a9, .int (nI nS), .ref a10, .int (nI nM), .ref a11], aI D a3 24 ks, aI D a4 384 z9, aI D a5 384 (dlF wo (16 * k0 + d) (k + 1)), aI D a6 384 (dlF ea (16 * k0 + d) (k + 1))] H) hcv1) hP
        have hD := Eq.mpr (congrArg (fun z9 => va_D A [oO mo 6 [.int th, .ref a1, .int (nI nC), .ref a2, .ref a3, .ref a4, .ref a5, .ref a6, .ref a7, .ref a8, .ref a9, .int (nI nS), .ref a10, .int (nI nM), .ref a11], aI D a3 24 ks, aI D a4 384 z9, aI D a5 384 (dlF wo (16 * k0 + d) (k + 1)), aI D a6 384 (dlF ea (16 * k0 + d) (k + 1))]) hcv1) hD
        have hP : va_P D cls [oO mo 6 [.int th, .ref a1, .int (nI nC), .ref a2, .ref a3, .ref a4, .ref a5, .ref a6, .ref a7, .ref a8, .ref a9, .int (nI nS), .ref a10, .int (nI nM), .ref a11], aI D a3 24 ks, aI D a4 384 (dlF tm (16 * k0 + d) (16 * k0 + n)), aI D a5 384 (dlF wo (16 * k0 + d) (k + 1)), aI D a6 384 (dlF ea (16 * k0 + d) (k + 1))] H := hP
        have hD : va_D A [oO mo 6 [.int th, .ref a1, .int (nI nC), .ref a2, .ref a3, .ref a4, .ref a5, .ref a6, .ref a7, .ref a8, .ref a9, .int (nI nS), .ref a10, .int (nI nM), .ref a11], aI D a3 24 ks, aI D a4 384 (dlF tm (16 * k0 + d) (16 * k0 + n)), aI D a5 384 (dlF wo (16 * k0 + d) (k + 1)), aI D a6 384 (dlF ea (16 * k0 + d) (k + 1))] := hD
        have hcv2 : (dlF wo (16 * k0 + d) (16 * k0 + n)) = (dlF wo (16 * k0 + d) (k + 1)) := by rw [hk9]
        have hP := Eq.mpr (congrArg (fun z9 => va_P D cls [oO mo 6 [.int th, .ref a1, .int (nI nC), .ref a2, .ref a3, .ref a4, .ref a5, .ref a6, .ref a7, .ref a8, .ref a9, .int (nI nS), .ref a10, .int (nI nM), .ref a11], aI D a3 24 ks, aI D a4 384 (dlF tm (16 * k0 + d) (16 * k0 + n)), aI D a5 384 z9, aI D a6 384 (dlF ea (16 * k0 + d) (k + 1))] H) hcv2) hP
        have hD := Eq.mpr (congrArg (fun z9 => va_D A [oO mo 6 [.int th, .ref a1, .int (nI nC), .ref a2, .ref a3, .ref a4, .ref a5, .ref a6, .ref a7, .ref a8, .ref a9, .int (nI nS), .ref a10, .int (nI nM), .ref a11], aI D a3 24 ks, aI D a4 384 (dlF tm (16 * k0 + d) (16 * k0 + n)), aI D a5 384 z9, aI D a6 384 (dlF ea (16 * k0 + d) (k + 1))]) hcv2) hD
        have hP : va_P D cls [oO mo 6 [.int th, .ref a1, .int (nI nC), .ref a2, .ref a3, .ref a4, .ref a5, .ref a6, .ref a7, .ref a8, .ref a9, .int (nI nS), .ref a10, .int (nI nM), .ref a11], aI D a3 24 ks, aI D a4 384 (dlF tm (16 * k0 + d) (16 * k0 + n)), aI D a5 384 (dlF wo (16 * k0 + d) (16 * k0 + n)), aI D a6 384 (dlF ea (16 * k0 + d) (k + 1))] H := hP
        have hD : va_D A [oO mo 6 [.int th, .ref a1, .int (nI nC), .ref a2, .ref a3, .ref a4, .ref a5, .ref a6, .ref a7, .ref a8, .ref a9, .int (nI nS), .ref a10, .int (nI nM), .ref a11], aI D a3 24 ks, aI D a4 384 (dlF tm (16 * k0 + d) (16 * k0 + n)), aI D a5 384 (dlF wo (16 * k0 + d) (16 * k0 + n)), aI D a6 384 (dlF ea (16 * k0 + d) (k + 1))] := hD
        have hcv3 : (dlF ea (16 * k0 + d) (16 * k0 + n)) = (dlF ea (16 * k0 + d) (k + 1)) := by rw [hk9]
        have hP := Eq.mpr (congrArg (fun z9 => va_P D cls [oO mo 6 [.int th, .ref a1, .int (nI nC), .ref a2, .ref a3, .ref a4, .ref a5, .ref a6, .ref a7, .ref a8, .ref a9, .int (nI nS), .ref a10, .int (nI nM), .ref a11], aI D a3 24 ks, aI D a4 384 (dlF tm (16 * k0 + d) (16 * k0 + n)), aI D a5 384 (dlF wo (16 * k0 + d) (16 * k0 + n)), aI D a6 384 z9] H) hcv3) hP
        have hD := Eq.mpr (congrArg (fun z9 => va_D A [oO mo 6 [.int th, .ref a1, .int (nI nC), .ref a2, .ref a3, .ref a4, .ref a5, .ref a6, .ref a7, .ref a8, .ref a9, .int (nI nS), .ref a10, .int (nI nM), .ref a11], aI D a3 24 ks, aI D a4 384 (dlF tm (16 * k0 + d) (16 * k0 + n)), aI D a5 384 (dlF wo (16 * k0 + d) (16 * k0 + n)), aI D a6 384 z9]) hcv3) hD
        have hP : va_P D cls [oO mo 6 [.int th, .ref a1, .int (nI nC), .ref a2, .ref a3, .ref a4, .ref a5, .ref a6, .ref a7, .ref a8, .ref a9, .int (nI nS), .ref a10, .int (nI nM), .ref a11], aI D a3 24 ks, aI D a4 384 (dlF tm (16 * k0 + d) (16 * k0 + n)), aI D a5 384 (dlF wo (16 * k0 + d) (16 * k0 + n)), aI D a6 384 (dlF ea (16 * k0 + d) (16 * k0 + n))] H := hP
        have hD : va_D A [oO mo 6 [.int th, .ref a1, .int (nI nC), .ref a2, .ref a3, .ref a4, .ref a5, .ref a6, .ref a7, .ref a8, .ref a9, .int (nI nS), .ref a10, .int (nI nM), .ref a11], aI D a3 24 ks, aI D a4 384 (dlF tm (16 * k0 + d) (16 * k0 + n)), aI D a5 384 (dlF wo (16 * k0 + d) (16 * k0 + n)), aI D a6 384 (dlF ea (16 * k0 + d) (16 * k0 + n))] := hD
        refine lv_aload_n hx hb dX6_drop_59 rfl (lv_at hl 0 rfl) ?_
        refine va_get (D := D) (ci := 6) (v := .ref a3) (C := RX6) (T := TX6) (N := 15) hx hb hts inlX6 hown hG.K hP 0 rfl rfl 4 (by decide) (hts _ mF_X6_16) (fun _ h9 => h9) rfl dX6_drop_60 ?_
        refine lv_iload_n hx hb dX6_drop_63 rfl (lv_at hl 1 rfl) ?_
        refine lv_dup2_11 hx hb dX6_drop_64 rfl rfl ?_
        refine ild (n := 24) (j := k0) hx hb hG hP 1 rfl (by omega) (by omega) dX6_drop_65 ?_
        refine tpi (y := nI n) (hks) ?_
        refine lv_iconst (v := 1) hx hb dX6_drop_66 (by decide) ?_
        refine lv_isub hx hb dX6_drop_67 ?_
        refine tpi (y := nI (n - 1)) (pk_sub (a := n) (b := 1) (by omega)) ?_
        refine ist (n := 24) (j := k0) hx hb hG hP hD hS 1 rfl (by omega) (by omega) dX6_drop_68 (fun H locs hP hD hS => ?_)
        have hP : va_P D cls [oO mo 6 [.int th, .ref a1, .int (nI nC), .ref a2, .ref a3, .ref a4, .ref a5, .ref a6, .ref a7, .ref a8, .ref a9, .int (nI nS), .ref a10, .int (nI nM), .ref a11], aI D a3 24 (upd ks k0 (nI (n - 1))), aI D a4 384 (dlF tm (16 * k0 + d) (16 * k0 + n)), aI D a5 384 (dlF wo (16 * k0 + d) (16 * k0 + n)), aI D a6 384 (dlF ea (16 * k0 + d) (16 * k0 + n))] H := hP
        have hD : va_D A [oO mo 6 [.int th, .ref a1, .int (nI nC), .ref a2, .ref a3, .ref a4, .ref a5, .ref a6, .ref a7, .ref a8, .ref a9, .int (nI nS), .ref a10, .int (nI nM), .ref a11], aI D a3 24 (upd ks k0 (nI (n - 1))), aI D a4 384 (dlF tm (16 * k0 + d) (16 * k0 + n)), aI D a5 384 (dlF wo (16 * k0 + d) (16 * k0 + n)), aI D a6 384 (dlF ea (16 * k0 + d) (16 * k0 + n))] := hD
        refine Wv () hx hb hr hlk ?_ hP hD hS (Nat.le_of_ble_eq_true rfl) (by first | exact Nat.le_of_ble_eq_true rfl | exact Nat.le_of_eq (Nat.zero_add _)) dX6_drop_69
        exact trivial
      · skip
        have n21 := mt (nI_leI (a := (16 * k0) + n) (b := k + 1) (by omega) (by omega)).mpr c21
        refine lv_aload_n hx hb dX6_drop_24 rfl (lv_at hl 0 rfl) ?_
        refine lv_iload_n hx hb dX6_drop_25 rfl (lv_at hl 3 rfl) ?_
        refine lv_aload_n hx hb dX6_drop_26 rfl (lv_at hl 0 rfl) ?_
        refine va_get (D := D) (ci := 6) (v := .ref a4) (C := RX6) (T := TX6) (N := 15) hx hb hts inlX6 hown hG.K hP 0 rfl rfl 5 (by decide) (hts _ mF_X6_19) (fun _ h9 => h9) rfl dX6_drop_27 ?_
        refine lv_iload_n hx hb dX6_drop_30 rfl (lv_at hl 3 rfl) ?_
        refine lv_iconst (v := 1) hx hb dX6_drop_31 (by decide) ?_
        refine lv_iadd hx hb dX6_drop_32 ?_
        refine tpi (y := nI (k + 1)) (nI_add k 1) ?_
        refine ild (n := 384) (j := k + 1) hx hb hG hP 2 rfl (by omega) (by omega) dX6_drop_33 ?_
        refine lv_aload_n hx hb dX6_drop_34 rfl (lv_at hl 0 rfl) ?_
        refine va_get (D := D) (ci := 6) (v := .ref a5) (C := RX6) (T := TX6) (N := 15) hx hb hts inlX6 hown hG.K hP 0 rfl rfl 6 (by decide) (hts _ mF_X6_22) (fun _ h9 => h9) rfl dX6_drop_35 ?_
        refine lv_iload_n hx hb dX6_drop_38 rfl (lv_at hl 3 rfl) ?_
        refine lv_iconst (v := 1) hx hb dX6_drop_39 (by decide) ?_
        refine lv_iadd hx hb dX6_drop_40 ?_
        refine tpi (y := nI (k + 1)) (nI_add k 1) ?_
        refine ild (n := 384) (j := k + 1) hx hb hG hP 3 rfl (by omega) (by omega) dX6_drop_41 ?_
        refine lv_aload_n hx hb dX6_drop_42 rfl (lv_at hl 0 rfl) ?_
        refine va_get (D := D) (ci := 6) (v := .ref a6) (C := RX6) (T := TX6) (N := 15) hx hb hts inlX6 hown hG.K hP 0 rfl rfl 7 (by decide) (hts _ mF_X6_25) (fun _ h9 => h9) rfl dX6_drop_43 ?_
        refine lv_iload_n hx hb dX6_drop_46 rfl (lv_at hl 3 rfl) ?_
        refine lv_iconst (v := 1) hx hb dX6_drop_47 (by decide) ?_
        refine lv_iadd hx hb dX6_drop_48 ?_
        refine tpi (y := nI (k + 1)) (nI_add k 1) ?_
        refine ild (n := 384) (j := k + 1) hx hb hG hP 4 rfl (by omega) (by omega) dX6_drop_49 ?_
        have hP9 := hP.sub (ws' := [oO mo 6 [.int th, .ref a1, .int (nI nC), .ref a2, .ref a3, .ref a4, .ref a5, .ref a6, .ref a7, .ref a8, .ref a9, .int (nI nS), .ref a10, .int (nI nM), .ref a11], aI D a4 384 (dlF tm (16 * k0 + d) (k + 1)), aI D a5 384 (dlF wo (16 * k0 + d) (k + 1)), aI D a6 384 (dlF ea (16 * k0 + d) (k + 1))]) [0, 2, 3, 4] rfl
        have hD9 := (hD.sub (ws' := [oO mo 6 [.int th, .ref a1, .int (nI nC), .ref a2, .ref a3, .ref a4, .ref a5, .ref a6, .ref a7, .ref a8, .ref a9, .int (nI nS), .ref a10, .int (nI nM), .ref a11], aI D a4 384 (dlF tm (16 * k0 + d) (k + 1)), aI D a5 384 (dlF wo (16 * k0 + d) (k + 1)), aI D a6 384 (dlF ea (16 * k0 + d) (k + 1))]) [0, 2, 3, 4] (by decide) rfl).weaken (B := fun _ => True) (fun _ _ _ _ => trivial)
        refine kv (wr := [aI D a3 24 ks]) (rV (rest := []) (qc := (RX6, TX6, 15)) [.int (nI k), .int ((dlF tm (16 * k0 + d) (k + 1)) (k + 1)), .int ((dlF wo (16 * k0 + d) (k + 1)) (k + 1)), .int ((dlF ea (16 * k0 + d) (k + 1)) (k + 1))] 4 0 0 hC (m_put l D (mo := mo) (k := k) (x := (dlF tm (16 * k0 + d) (k + 1)) (k + 1)) (y := (dlF wo (16 * k0 + d) (k + 1)) (k + 1)) (z := (dlF ea (16 * k0 + d) (k + 1)) (k + 1)) (th := th) (a1 := a1) (nC := nC) (a2 := a2) (a3 := a3) (a4 := a4) (a5 := a5) (a6 := a6) (a7 := a7) (a8 := a8) (a9 := a9) (nS := nS) (a10 := a10) (nM := nM) (a11 := a11) (tm := dlF tm (16 * k0 + d) (k + 1)) (wo := dlF wo (16 * k0 + d) (k + 1)) (ea := dlF ea (16 * k0 + d) (k + 1)) (hz0 := H.size) (by omega)) rfl (hP 0 _ rfl) (gV mM_X6_81 mI_X6_put mS_X6_put mN_X6 mC_X6_put) (by decide +kernel) rfl rfl ⟨Nat.le_of_ble_eq_true rfl, Nat.le_of_ble_eq_true rfl⟩ hG hP9 hD9 rfl hl.1 rfl (Nat.le_of_ble_eq_true rfl) dX6_drop_50 ⟨Nat.le_of_ble_eq_true rfl, Nat.le_of_ble_eq_true rfl⟩) hP hD hS hA [0, 2, 3, 4] [1] rfl rfl (by decide) (by decide) (fun u50 H locs h50 hP hD hS hz hfr => ?_)
        have hP : va_P D cls [aI D a3 24 ks, oO mo 6 [.int th, .ref a1, .int (nI nC), .ref a2, .ref a3, .ref a4, .ref a5, .ref a6, .ref a7, .ref a8, .ref a9, .int (nI nS), .ref a10, .int (nI nM), .ref a11], aI D a4 384 (upd (dlF tm (16 * k0 + d) (k + 1)) k ((dlF tm (16 * k0 + d) (k + 1)) (k + 1))), aI D a5 384 (upd (dlF wo (16 * k0 + d) (k + 1)) k ((dlF wo (16 * k0 + d) (k + 1)) (k + 1))), aI D a6 384 (upd (dlF ea (16 * k0 + d) (k + 1)) k ((dlF ea (16 * k0 + d) (k + 1)) (k + 1)))] H := hP
        have hD : va_D A [aI D a3 24 ks, oO mo 6 [.int th, .ref a1, .int (nI nC), .ref a2, .ref a3, .ref a4, .ref a5, .ref a6, .ref a7, .ref a8, .ref a9, .int (nI nS), .ref a10, .int (nI nM), .ref a11], aI D a4 384 (upd (dlF tm (16 * k0 + d) (k + 1)) k ((dlF tm (16 * k0 + d) (k + 1)) (k + 1))), aI D a5 384 (upd (dlF wo (16 * k0 + d) (k + 1)) k ((dlF wo (16 * k0 + d) (k + 1)) (k + 1))), aI D a6 384 (upd (dlF ea (16 * k0 + d) (k + 1)) k ((dlF ea (16 * k0 + d) (k + 1)) (k + 1)))] := hD
        have hcv4 : (dlF tm (16 * k0 + d) (k + 1 + 1)) = (upd (dlF tm (16 * k0 + d) (k + 1)) k ((dlF tm (16 * k0 + d) (k + 1)) (k + 1))) := (dlF_step (f := tm) (j := 16 * k0 + d) (k := k + 1) (by omega)).symm
        have hP := Eq.mpr (congrArg (fun z9 => va_P D cls [aI D a3 24 ks, oO mo 6 [.int th, .ref a1, .int (nI nC), .ref a2, .ref a3, .ref a4, .ref a5, .ref a6, .ref a7, .ref a8, .ref a9, .int (nI nS), .ref a10, .int (nI nM), .ref a11], aI D a4 384 z9, aI D a5 384 (upd (dlF wo (16 * k0 + d) (k + 1)) k ((dlF wo (16 * k0 + d) (k + 1)) (k + 1))), aI D a6 384 (upd (dlF ea (16 * k0 + d) (k + 1)) k ((dlF ea (16 * k0 + d) (k + 1)) (k + 1)))] H) hcv4) hP
        have hD := Eq.mpr (congrArg (fun z9 => va_D A [aI D a3 24 ks, oO mo 6 [.int th, .ref a1, .int (nI nC), .ref a2, .ref a3, .ref a4, .ref a5, .ref a6, .ref a7, .ref a8, .ref a9, .int (nI nS), .ref a10, .int (nI nM), .ref a11], aI D a4 384 z9, aI D a5 384 (upd (dlF wo (16 * k0 + d) (k + 1)) k ((dlF wo (16 * k0 + d) (k + 1)) (k + 1))), aI D a6 384 (upd (dlF ea (16 * k0 + d) (k + 1)) k ((dlF ea (16 * k0 + d) (k + 1)) (k + 1)))]) hcv4) hD
        have hP : va_P D cls [aI D a3 24 ks, oO mo 6 [.int th, .ref a1, .int (nI nC), .ref a2, .ref a3, .ref a4, .ref a5, .ref a6, .ref a7, .ref a8, .ref a9, .int (nI nS), .ref a10, .int (nI nM), .ref a11], aI D a4 384 (dlF tm (16 * k0 + d) (k + 1 + 1)), aI D a5 384 (upd (dlF wo (16 * k0 + d) (k + 1)) k ((dlF wo (16 * k0 + d) (k + 1)) (k + 1))), aI D a6 384 (upd (dlF ea (16 * k0 + d) (k + 1)) k ((dlF ea (16 * k0 + d) (k + 1)) (k + 1)))] H := hP
        have hD : va_D A [aI D a3 24 ks, oO mo 6 [.int th, .ref a1, .int (nI nC), .ref a2, .ref a3, .ref a4, .ref a5, .ref a6, .ref a7, .ref a8, .ref a9, .int (nI nS), .ref a10, .int (nI nM), .ref a11], aI D a4 384 (dlF tm (16 * k0 + d) (k + 1 + 1)), aI D a5 384 (upd (dlF wo (16 * k0 + d) (k + 1)) k ((dlF wo (16 * k0 + d) (k + 1)) (k + 1))), aI D a6 384 (upd (dlF ea (16 * k0 + d) (k + 1)) k ((dlF ea (16 * k0 + d) (k + 1)) (k + 1)))] := hD
        have hcv5 : (dlF wo (16 * k0 + d) (k + 1 + 1)) = (upd (dlF wo (16 * k0 + d) (k + 1)) k ((dlF wo (16 * k0 + d) (k + 1)) (k + 1))) := (dlF_step (f := wo) (j := 16 * k0 + d) (k := k + 1) (by omega)).symm
        have hP := Eq.mpr (congrArg (fun z9 => va_P D cls [aI D a3 24 ks, oO mo 6 [.int th, .ref a1, .int (nI nC), .ref a2, .ref a3, .ref a4, .ref a5, .ref a6, .ref a7, .ref a8, .ref a9, .int (nI nS), .ref a10, .int (nI nM), .ref a11], aI D a4 384 (dlF tm (16 * k0 + d) (k + 1 + 1)), aI D a5 384 z9, aI D a6 384 (upd (dlF ea (16 * k0 + d) (k + 1)) k ((dlF ea (16 * k0 + d) (k + 1)) (k + 1)))] H) hcv5) hP
        have hD := Eq.mpr (congrArg (fun z9 => va_D A [aI D a3 24 ks, oO mo 6 [.int th, .ref a1, .int (nI nC), .ref a2, .ref a3, .ref a4, .ref a5, .ref a6, .ref a7, .ref a8, .ref a9, .int (nI nS), .ref a10, .int (nI nM), .ref a11], aI D a4 384 (dlF tm (16 * k0 + d) (k + 1 + 1)), aI D a5 384 z9, aI D a6 384 (upd (dlF ea (16 * k0 + d) (k + 1)) k ((dlF ea (16 * k0 + d) (k + 1)) (k + 1)))]) hcv5) hD
        have hP : va_P D cls [aI D a3 24 ks, oO mo 6 [.int th, .ref a1, .int (nI nC), .ref a2, .ref a3, .ref a4, .ref a5, .ref a6, .ref a7, .ref a8, .ref a9, .int (nI nS), .ref a10, .int (nI nM), .ref a11], aI D a4 384 (dlF tm (16 * k0 + d) (k + 1 + 1)), aI D a5 384 (dlF wo (16 * k0 + d) (k + 1 + 1)), aI D a6 384 (upd (dlF ea (16 * k0 + d) (k + 1)) k ((dlF ea (16 * k0 + d) (k + 1)) (k + 1)))] H := hP
        have hD : va_D A [aI D a3 24 ks, oO mo 6 [.int th, .ref a1, .int (nI nC), .ref a2, .ref a3, .ref a4, .ref a5, .ref a6, .ref a7, .ref a8, .ref a9, .int (nI nS), .ref a10, .int (nI nM), .ref a11], aI D a4 384 (dlF tm (16 * k0 + d) (k + 1 + 1)), aI D a5 384 (dlF wo (16 * k0 + d) (k + 1 + 1)), aI D a6 384 (upd (dlF ea (16 * k0 + d) (k + 1)) k ((dlF ea (16 * k0 + d) (k + 1)) (k + 1)))] := hD
        have hcv6 : (dlF ea (16 * k0 + d) (k + 1 + 1)) = (upd (dlF ea (16 * k0 + d) (k + 1)) k ((dlF ea (16 * k0 + d) (k + 1)) (k + 1))) := (dlF_step (f := ea) (j := 16 * k0 + d) (k := k + 1) (by omega)).symm
        have hP := Eq.mpr (congrArg (fun z9 => va_P D cls [aI D a3 24 ks, oO mo 6 [.int th, .ref a1, .int (nI nC), .ref a2, .ref a3, .ref a4, .ref a5, .ref a6, .ref a7, .ref a8, .ref a9, .int (nI nS), .ref a10, .int (nI nM), .ref a11], aI D a4 384 (dlF tm (16 * k0 + d) (k + 1 + 1)), aI D a5 384 (dlF wo (16 * k0 + d) (k + 1 + 1)), aI D a6 384 z9] H) hcv6) hP
        have hD := Eq.mpr (congrArg (fun z9 => va_D A [aI D a3 24 ks, oO mo 6 [.int th, .ref a1, .int (nI nC), .ref a2, .ref a3, .ref a4, .ref a5, .ref a6, .ref a7, .ref a8, .ref a9, .int (nI nS), .ref a10, .int (nI nM), .ref a11], aI D a4 384 (dlF tm (16 * k0 + d) (k + 1 + 1)), aI D a5 384 (dlF wo (16 * k0 + d) (k + 1 + 1)), aI D a6 384 z9]) hcv6) hD
        have hP : va_P D cls [aI D a3 24 ks, oO mo 6 [.int th, .ref a1, .int (nI nC), .ref a2, .ref a3, .ref a4, .ref a5, .ref a6, .ref a7, .ref a8, .ref a9, .int (nI nS), .ref a10, .int (nI nM), .ref a11], aI D a4 384 (dlF tm (16 * k0 + d) (k + 1 + 1)), aI D a5 384 (dlF wo (16 * k0 + d) (k + 1 + 1)), aI D a6 384 (dlF ea (16 * k0 + d) (k + 1 + 1))] H := hP
        have hD : va_D A [aI D a3 24 ks, oO mo 6 [.int th, .ref a1, .int (nI nC), .ref a2, .ref a3, .ref a4, .ref a5, .ref a6, .ref a7, .ref a8, .ref a9, .int (nI nS), .ref a10, .int (nI nM), .ref a11], aI D a4 384 (dlF tm (16 * k0 + d) (k + 1 + 1)), aI D a5 384 (dlF wo (16 * k0 + d) (k + 1 + 1)), aI D a6 384 (dlF ea (16 * k0 + d) (k + 1 + 1))] := hD
        refine lv_iinc (v := nI (k + 1)) (lv' := [(3, .int (nI (k + 1))), (0, .ref mo), (1, .int (nI k0)), (2, .int (nI d))]) hx hb dX6_drop_53 hl (k := 3) rfl (nI_1 _) (by decide) rfl (fun ls hl => ?_)
        refine lv_goto (tgt := 7) hx hb dX6_drop_56 (by decide) ?_
        exact ih7 (k + 1) (by omega) (by omega) (by omega) _ _ _ (hP.sub [1, 0, 2, 3, 4] rfl) (hD.sub [1, 0, 2, 3, 4] (by decide) rfl) hS (lv_sub hl [1, 2, 3, 0] rfl)
  have hcv7 : (dlF tm (16 * k0 + d) (16 * k0 + d + 1)) = tm := dlF_self _ _
  have hP := Eq.mpr (congrArg (fun z9 => va_P D cls [oO mo 6 [.int th, .ref a1, .int (nI nC), .ref a2, .ref a3, .ref a4, .ref a5, .ref a6, .ref a7, .ref a8, .ref a9, .int (nI nS), .ref a10, .int (nI nM), .ref a11], aI D a3 24 ks, aI D a4 384 z9, aI D a5 384 wo, aI D a6 384 ea] H) hcv7) hP
  have hD := Eq.mpr (congrArg (fun z9 => va_D A [oO mo 6 [.int th, .ref a1, .int (nI nC), .ref a2, .ref a3, .ref a4, .ref a5, .ref a6, .ref a7, .ref a8, .ref a9, .int (nI nS), .ref a10, .int (nI nM), .ref a11], aI D a3 24 ks, aI D a4 384 z9, aI D a5 384 wo, aI D a6 384 ea]) hcv7) hD
  have hP : va_P D cls [oO mo 6 [.int th, .ref a1, .int (nI nC), .ref a2, .ref a3, .ref a4, .ref a5, .ref a6, .ref a7, .ref a8, .ref a9, .int (nI nS), .ref a10, .int (nI nM), .ref a11], aI D a3 24 ks, aI D a4 384 (dlF tm (16 * k0 + d) (16 * k0 + d + 1)), aI D a5 384 wo, aI D a6 384 ea] H := hP
  have hD : va_D A [oO mo 6 [.int th, .ref a1, .int (nI nC), .ref a2, .ref a3, .ref a4, .ref a5, .ref a6, .ref a7, .ref a8, .ref a9, .int (nI nS), .ref a10, .int (nI nM), .ref a11], aI D a3 24 ks, aI D a4 384 (dlF tm (16 * k0 + d) (16 * k0 + d + 1)), aI D a5 384 wo, aI D a6 384 ea] := hD
  have hcv8 : (dlF wo (16 * k0 + d) (16 * k0 + d + 1)) = wo := dlF_self _ _
  have hP := Eq.mpr (congrArg (fun z9 => va_P D cls [oO mo 6 [.int th, .ref a1, .int (nI nC), .ref a2, .ref a3, .ref a4, .ref a5, .ref a6, .ref a7, .ref a8, .ref a9, .int (nI nS), .ref a10, .int (nI nM), .ref a11], aI D a3 24 ks, aI D a4 384 (dlF tm (16 * k0 + d) (16 * k0 + d + 1)), aI D a5 384 z9, aI D a6 384 ea] H) hcv8) hP
  have hD := Eq.mpr (congrArg (fun z9 => va_D A [oO mo 6 [.int th, .ref a1, .int (nI nC), .ref a2, .ref a3, .ref a4, .ref a5, .ref a6, .ref a7, .ref a8, .ref a9, .int (nI nS), .ref a10, .int (nI nM), .ref a11], aI D a3 24 ks, aI D a4 384 (dlF tm (16 * k0 + d) (16 * k0 + d + 1)), aI D a5 384 z9, aI D a6 384 ea]) hcv8) hD
  have hP : va_P D cls [oO mo 6 [.int th, .ref a1, .int (nI nC), .ref a2, .ref a3, .ref a4, .ref a5, .ref a6, .ref a7, .ref a8, .ref a9, .int (nI nS), .ref a10, .int (nI nM), .ref a11], aI D a3 24 ks, aI D a4 384 (dlF tm (16 * k0 + d) (16 * k0 + d + 1)), aI D a5 384 (dlF wo (16 * k0 + d) (16 * k0 + d + 1)), aI D a6 384 ea] H := hP
  have hD : va_D A [oO mo 6 [.int th, .ref a1, .int (nI nC), .ref a2, .ref a3, .ref a4, .ref a5, .ref a6, .ref a7, .ref a8, .ref a9, .int (nI nS), .ref a10, .int (nI nM), .ref a11], aI D a3 24 ks, aI D a4 384 (dlF tm (16 * k0 + d) (16 * k0 + d + 1)), aI D a5 384 (dlF wo (16 * k0 + d) (16 * k0 + d + 1)), aI D a6 384 ea] := hD
  have hcv9 : (dlF ea (16 * k0 + d) (16 * k0 + d + 1)) = ea := dlF_self _ _
  have hP := Eq.mpr (congrArg (fun z9 => va_P D cls [oO mo 6 [.int th, .ref a1, .int (nI nC), .ref a2, .ref a3, .ref a4, .ref a5, .ref a6, .ref a7, .ref a8, .ref a9, .int (nI nS), .ref a10, .int (nI nM), .ref a11], aI D a3 24 ks, aI D a4 384 (dlF tm (16 * k0 + d) (16 * k0 + d + 1)), aI D a5 384 (dlF wo (16 * k0 + d) (16 * k0 + d + 1)), aI D a6 384 z9] H) hcv9) hP
  have hD := Eq.mpr (congrArg (fun z9 => va_D A [oO mo 6 [.int th, .ref a1, .int (nI nC), .ref a2, .ref a3, .ref a4, .ref a5, .ref a6, .ref a7, .ref a8, .ref a9, .int (nI nS), .ref a10, .int (nI nM), .ref a11], aI D a3 24 ks, aI D a4 384 (dlF tm (16 * k0 + d) (16 * k0 + d + 1)), aI D a5 384 (dlF wo (16 * k0 + d) (16 * k0 + d + 1)), aI D a6 384 z9]) hcv9) hD
  have hP : va_P D cls [oO mo 6 [.int th, .ref a1, .int (nI nC), .ref a2, .ref a3, .ref a4, .ref a5, .ref a6, .ref a7, .ref a8, .ref a9, .int (nI nS), .ref a10, .int (nI nM), .ref a11], aI D a3 24 ks, aI D a4 384 (dlF tm (16 * k0 + d) (16 * k0 + d + 1)), aI D a5 384 (dlF wo (16 * k0 + d) (16 * k0 + d + 1)), aI D a6 384 (dlF ea (16 * k0 + d) (16 * k0 + d + 1))] H := hP
  have hD : va_D A [oO mo 6 [.int th, .ref a1, .int (nI nC), .ref a2, .ref a3, .ref a4, .ref a5, .ref a6, .ref a7, .ref a8, .ref a9, .int (nI nS), .ref a10, .int (nI nM), .ref a11], aI D a3 24 ks, aI D a4 384 (dlF tm (16 * k0 + d) (16 * k0 + d + 1)), aI D a5 384 (dlF wo (16 * k0 + d) (16 * k0 + d + 1)), aI D a6 384 (dlF ea (16 * k0 + d) (16 * k0 + d + 1))] := hD
  exact loop7 _ (16 * k0 + d) (Nat.lt_succ_self _) (by omega) (by omega) _ _ _ hP hD hS (lv_sub hl [1, 2, 3, 0] rfl)
set_option maxHeartbeats 400000 in
set_option maxRecDepth 100000 in
theorem m_unkey_1a (l : Launch) (D : va_G) {mo a1 a2 a3 a4 a5 a6 a7 a8 a9 a10 a11 nC nS nM : Nat} {th : Int32} {x y u0 : Int32} (hz0 : Nat) (hn : nC ≤ 6) (hxx : x < 0 ∨ nI nC ≤ x) : Met l yX6_unkey (ws_ yX6_unkey cX6_unkey 4 (some .int)) ({ frames := 3, cells := 0, slots := 0, locals := 65 } : Room) (va_Pc [.ref mo, .int x, .int y, .int u0] (SW D [oO mo 6 [.int th, .ref a1, .int (nI nC), .ref a2, .ref a3, .ref a4, .ref a5, .ref a6, .ref a7, .ref a8, .ref a9, .int (nI nS), .ref a10, .int (nI nM), .ref a11]] hz0)) (va_Qi (fun v _ => v = 0) (AT D (va_A [oO mo 6 [.int th, .ref a1, .int (nI nC), .ref a2, .ref a3, .ref a4, .ref a5, .ref a6, .ref a7, .ref a8, .ref a9, .int (nI nS), .ref a10, .int (nI nM), .ref a11]] hz0) (fun _ : Unit => [oO mo 6 [.int 1, .ref a1, .int (nI nC), .ref a2, .ref a3, .ref a4, .ref a5, .ref a6, .ref a7, .ref a8, .ref a9, .int (nI nS), .ref a10, .int (nI nM), .ref a11]])) (va_A [oO mo 6 [.int th, .ref a1, .int (nI nC), .ref a2, .ref a3, .ref a4, .ref a5, .ref a6, .ref a7, .ref a8, .ref a9, .int (nI nS), .ref a10, .int (nI nM), .ref a11]] hz0)) 0 0 (va_A [oO mo 6 [.int th, .ref a1, .int (nI nC), .ref a2, .ref a3, .ref a4, .ref a5, .ref a6, .ref a7, .ref a8, .ref a9, .int (nI nS), .ref a10, .int (nI nM), .ref a11]] hz0) := by
  refine Met.ofW (cc := cX6_unkey) (maxL := 4) (ret := (some .int)) (by decide) rfl ?_
  intro p e s m args below meth c s₁ B hml hv
  obtain ⟨rfl, hsz, hG, hP, hD0⟩ := hv
  have hx := B.exec
  have hb := B.bytes
  have hr := B.returns
  have hts : ∀ w ∈ wsL_law, w.before _ s = true := fun w h => atoms_spec (ws := (ws_ yX6_unkey cX6_unkey 4 (some .int))) B.pre w (List.mem_cons_of_mem _ h)
  have hown : s.vm.findClass RX6 = some m.cls := findClass_of_methodNamed B.named
  have hlk := B.notSynchronized
  have hC : CallFix p m c cX6_unkey 4 s _ wsL_law RX6 := ⟨hx, hb, hml, hown, hts⟩
  subst hsz
  have hD := hD0.self (sz := s.heap.size)
  generalize hAe : va_A [oO mo 6 [.int th, .ref a1, .int (nI nC), .ref a2, .ref a3, .ref a4, .ref a5, .ref a6, .ref a7, .ref a8, .ref a9, .int (nI nS), .ref a10, .int (nI nM), .ref a11]] s.heap.size = A at hD ⊢
  have hA : ∀ q : Nat, s.heap.size ≤ q → A q := fun q h => by rw [← hAe]; exact Or.inr h
  have hS : va_S A s.heap s.heap [] := va_S.rf
  obtain ⟨H, hHe⟩ : ∃ H, H = s.heap := ⟨_, rfl⟩
  rw [← hHe] at hP
  have hS : va_S A s.heap H [] := by rw [hHe]; exact hS
  have hl := lv_entry ([.ref mo, .int x, .int y, .int u0]) (n := 4) (Nat.le_of_ble_eq_true rfl)
  rw [lg_entry_eq]
  generalize (lg_sl ([.ref mo, .int x, .int y, .int u0]) ++ List.replicate (4 - (lg_sl ([.ref mo, .int x, .int y, .int u0])).length) Slot.unset).toArray = ls at hl ⊢
  have hl : lv_has ls 4 [(0, .ref mo), (1, .int x), (2, .int y), (3, .int u0)] := hl
  rw [← hHe]
  refine lv_aload_n hx hb dX6_unkey_0 rfl (lv_at hl 0 rfl) ?_
  refine lv_iconst (v := 0) hx hb dX6_unkey_1 (by decide) ?_
  refine va_put (D := D) (ci := 6) (v := .int 0) (ty := .int) (C := RX6) (T := TX6) (N := 15) hx hb hts inlX6 tyX6 tyX6_ok nmX6 hown hG.K hP hD hS 0 rfl rfl 0 (by decide) (hts _ mF_X6_43) (fun _ h9 => h9) rfl (by decide +kernel) rfl rfl (Nat.le_of_ble_eq_true rfl) dX6_unkey_2 (fun H locs hP hD hS => ?_)
  have hP : va_P D cls [oO mo 6 [.int 0, .ref a1, .int (nI nC), .ref a2, .ref a3, .ref a4, .ref a5, .ref a6, .ref a7, .ref a8, .ref a9, .int (nI nS), .ref a10, .int (nI nM), .ref a11]] H := hP
  have hD : va_D A [oO mo 6 [.int 0, .ref a1, .int (nI nC), .ref a2, .ref a3, .ref a4, .ref a5, .ref a6, .ref a7, .ref a8, .ref a9, .int (nI nS), .ref a10, .int (nI nM), .ref a11]] := hD
  refine lv_aload_n hx hb dX6_unkey_5 rfl (lv_at hl 0 rfl) ?_
  refine lv_iload_n hx hb dX6_unkey_6 rfl (lv_at hl 1 rfl) ?_
  refine lv_iload_n hx hb dX6_unkey_7 rfl (lv_at hl 2 rfl) ?_
  have hP9 := hP
  refine vp_callSi (pV (rest := []) (qc := (RX6, TX6, 15)) [.int x, .int y] 2 hC (m_isTrack_no1 l D (mo := mo) (x := x) (y := y) (th := 0) (a1 := a1) (nC := nC) (a2 := a2) (a3 := a3) (a4 := a4) (a5 := a5) (a6 := a6) (a7 := a7) (a8 := a8) (a9 := a9) (nS := nS) (a10 := a10) (nM := nM) (a11 := a11) (by omega) (hxx)) rfl (hP 0 _ rfl) (gV mM_X6_74 mI_X6_isTrack mS_X6_isTrack mN_X6 mC_X6_isTrack) (by decide +kernel) rfl rfl ⟨Nat.le_of_ble_eq_true rfl, Nat.le_of_ble_eq_true rfl⟩ hG hP9 rfl hl.1 rfl (Nat.le_of_ble_eq_true rfl) dX6_unkey_8 ⟨Nat.le_of_ble_eq_true rfl, Nat.le_of_ble_eq_true rfl⟩) (fun r8 h8 => ?_)
  obtain rfl : r8 = 0 := h8
  refine lv_if_eq (tgt := 34) hx hb dX6_unkey_11 (by decide) (fun _ => ?_) (fun h9 => (h9 (by decide)).elim)
  refine lv_aload_n hx hb dX6_unkey_34 rfl (lv_at hl 0 rfl) ?_
  refine lv_iconst (v := 1) hx hb dX6_unkey_35 (by decide) ?_
  have hP9 := hP.sub (ws' := [oO mo 6 [.int 0, .ref a1, .int (nI nC), .ref a2, .ref a3, .ref a4, .ref a5, .ref a6, .ref a7, .ref a8, .ref a9, .int (nI nS), .ref a10, .int (nI nM), .ref a11]]) [0] rfl
  have hD9 := (hD.sub (ws' := [oO mo 6 [.int 0, .ref a1, .int (nI nC), .ref a2, .ref a3, .ref a4, .ref a5, .ref a6, .ref a7, .ref a8, .ref a9, .int (nI nS), .ref a10, .int (nI nM), .ref a11]]) [0] (by decide) rfl).weaken (B := fun _ => True) (fun _ _ _ _ => trivial)
  refine ki (wr := []) (rV (rest := []) (qc := (RX6, TX6, 15)) [.int 1] 1 0 0 hC (m_no l D (mo := mo) (x := 1) (th := 0) (a1 := a1) (nC := nC) (a2 := a2) (a3 := a3) (a4 := a4) (a5 := a5) (a6 := a6) (a7 := a7) (a8 := a8) (a9 := a9) (nS := nS) (a10 := a10) (nM := nM) (a11 := a11) (hz0 := H.size) ) rfl (hP 0 _ rfl) (gV mM_X6_66 mI_X6_no mS_X6_no mN_X6 mC_X6_no) (by decide +kernel) rfl rfl ⟨Nat.le_of_ble_eq_true rfl, Nat.le_of_ble_eq_true rfl⟩ hG hP9 hD9 rfl hl.1 rfl (Nat.le_of_ble_eq_true rfl) dX6_unkey_36 ⟨Nat.le_of_ble_eq_true rfl, Nat.le_of_ble_eq_true rfl⟩) hP hD hS hA [0] [] rfl rfl (by decide) (by decide) (fun r36 u36 H locs h36 hP hD hS hz hfr => ?_)
  have hP : va_P D cls [oO mo 6 [.int 1, .ref a1, .int (nI nC), .ref a2, .ref a3, .ref a4, .ref a5, .ref a6, .ref a7, .ref a8, .ref a9, .int (nI nS), .ref a10, .int (nI nM), .ref a11]] H := hP
  have hD : va_D A [oO mo 6 [.int 1, .ref a1, .int (nI nC), .ref a2, .ref a3, .ref a4, .ref a5, .ref a6, .ref a7, .ref a8, .ref a9, .int (nI nS), .ref a10, .int (nI nM), .ref a11]] := hD
  obtain rfl : r36 = 0 := h36
  refine Wi () hx hb hr hlk ?_ hP hD hS (Nat.le_of_ble_eq_true rfl) (by first | exact Nat.le_of_ble_eq_true rfl | exact Nat.le_of_eq (Nat.zero_add _)) dX6_unkey_39
  exact rfl
set_option maxHeartbeats 400000 in
set_option maxRecDepth 100000 in
theorem m_unkey_1b (l : Launch) (D : va_G) {mo a1 a2 a3 a4 a5 a6 a7 a8 a9 a10 a11 nC nS nM : Nat} {th : Int32} {i : Nat} {y u0 : Int32} (hz0 : Nat) (hn : nC ≤ 6) (hi : i < nC) (hyy : ¬ ((0 : Int32) ≤ y ∧ y ≤ 3)) : Met l yX6_unkey (ws_ yX6_unkey cX6_unkey 4 (some .int)) ({ frames := 3, cells := 0, slots := 0, locals := 65 } : Room) (va_Pc [.ref mo, .int (nI i), .int y, .int u0] (SW D [oO mo 6 [.int th, .ref a1, .int (nI nC), .ref a2, .ref a3, .ref a4, .ref a5, .ref a6, .ref a7, .ref a8, .ref a9, .int (nI nS), .ref a10, .int (nI nM), .ref a11]] hz0)) (va_Qi (fun v _ => v = 0) (AT D (va_A [oO mo 6 [.int th, .ref a1, .int (nI nC), .ref a2, .ref a3, .ref a4, .ref a5, .ref a6, .ref a7, .ref a8, .ref a9, .int (nI nS), .ref a10, .int (nI nM), .ref a11]] hz0) (fun _ : Unit => [oO mo 6 [.int 1, .ref a1, .int (nI nC), .ref a2, .ref a3, .ref a4, .ref a5, .ref a6, .ref a7, .ref a8, .ref a9, .int (nI nS), .ref a10, .int (nI nM), .ref a11]])) (va_A [oO mo 6 [.int th, .ref a1, .int (nI nC), .ref a2, .ref a3, .ref a4, .ref a5, .ref a6, .ref a7, .ref a8, .ref a9, .int (nI nS), .ref a10, .int (nI nM), .ref a11]] hz0)) 0 0 (va_A [oO mo 6 [.int th, .ref a1, .int (nI nC), .ref a2, .ref a3, .ref a4, .ref a5, .ref a6, .ref a7, .ref a8, .ref a9, .int (nI nS), .ref a10, .int (nI nM), .ref a11]] hz0) := by
  refine Met.ofW (cc := cX6_unkey) (maxL := 4) (ret := (some .int)) (by decide) rfl ?_
  intro p e s m args below meth c s₁ B hml hv
  obtain ⟨rfl, hsz, hG, hP, hD0⟩ := hv
  have hx := B.exec
  have hb := B.bytes
  have hr := B.returns
  have hts : ∀ w ∈ wsL_law, w.before _ s = true := fun w h => atoms_spec (ws := (ws_ yX6_unkey cX6_unkey 4 (some .int))) B.pre w (List.mem_cons_of_mem _ h)
  have hown : s.vm.findClass RX6 = some m.cls := findClass_of_methodNamed B.named
  have hlk := B.notSynchronized
  have hC : CallFix p m c cX6_unkey 4 s _ wsL_law RX6 := ⟨hx, hb, hml, hown, hts⟩
  subst hsz
  have hD := hD0.self (sz := s.heap.size)
  generalize hAe : va_A [oO mo 6 [.int th, .ref a1, .int (nI nC), .ref a2, .ref a3, .ref a4, .ref a5, .ref a6, .ref a7, .ref a8, .ref a9, .int (nI nS), .ref a10, .int (nI nM), .ref a11]] s.heap.size = A at hD ⊢
  have hA : ∀ q : Nat, s.heap.size ≤ q → A q := fun q h => by rw [← hAe]; exact Or.inr h
  have hS : va_S A s.heap s.heap [] := va_S.rf
  obtain ⟨H, hHe⟩ : ∃ H, H = s.heap := ⟨_, rfl⟩
  rw [← hHe] at hP
  have hS : va_S A s.heap H [] := by rw [hHe]; exact hS
  have hl := lv_entry ([.ref mo, .int (nI i), .int y, .int u0]) (n := 4) (Nat.le_of_ble_eq_true rfl)
  rw [lg_entry_eq]
  generalize (lg_sl ([.ref mo, .int (nI i), .int y, .int u0]) ++ List.replicate (4 - (lg_sl ([.ref mo, .int (nI i), .int y, .int u0])).length) Slot.unset).toArray = ls at hl ⊢
  have hl : lv_has ls 4 [(0, .ref mo), (1, .int (nI i)), (2, .int y), (3, .int u0)] := hl
  rw [← hHe]
  refine lv_aload_n hx hb dX6_unkey_0 rfl (lv_at hl 0 rfl) ?_
  refine lv_iconst (v := 0) hx hb dX6_unkey_1 (by decide) ?_
  refine va_put (D := D) (ci := 6) (v := .int 0) (ty := .int) (C := RX6) (T := TX6) (N := 15) hx hb hts inlX6 tyX6 tyX6_ok nmX6 hown hG.K hP hD hS 0 rfl rfl 0 (by decide) (hts _ mF_X6_43) (fun _ h9 => h9) rfl (by decide +kernel) rfl rfl (Nat.le_of_ble_eq_true rfl) dX6_unkey_2 (fun H locs hP hD hS => ?_)
  have hP : va_P D cls [oO mo 6 [.int 0, .ref a1, .int (nI nC), .ref a2, .ref a3, .ref a4, .ref a5, .ref a6, .ref a7, .ref a8, .ref a9, .int (nI nS), .ref a10, .int (nI nM), .ref a11]] H := hP
  have hD : va_D A [oO mo 6 [.int 0, .ref a1, .int (nI nC), .ref a2, .ref a3, .ref a4, .ref a5, .ref a6, .ref a7, .ref a8, .ref a9, .int (nI nS), .ref a10, .int (nI nM), .ref a11]] := hD
  refine lv_aload_n hx hb dX6_unkey_5 rfl (lv_at hl 0 rfl) ?_
  refine lv_iload_n hx hb dX6_unkey_6 rfl (lv_at hl 1 rfl) ?_
  refine lv_iload_n hx hb dX6_unkey_7 rfl (lv_at hl 2 rfl) ?_
  have hP9 := hP
  refine vp_callSi (pV (rest := []) (qc := (RX6, TX6, 15)) [.int (nI i), .int y] 2 hC (m_isTrack_no2 l D (mo := mo) (i := i) (y := y) (th := 0) (a1 := a1) (nC := nC) (a2 := a2) (a3 := a3) (a4 := a4) (a5 := a5) (a6 := a6) (a7 := a7) (a8 := a8) (a9 := a9) (nS := nS) (a10 := a10) (nM := nM) (a11 := a11) (by omega) (by omega) (hyy)) rfl (hP 0 _ rfl) (gV mM_X6_74 mI_X6_isTrack mS_X6_isTrack mN_X6 mC_X6_isTrack) (by decide +kernel) rfl rfl ⟨Nat.le_of_ble_eq_true rfl, Nat.le_of_ble_eq_true rfl⟩ hG hP9 rfl hl.1 rfl (Nat.le_of_ble_eq_true rfl) dX6_unkey_8 ⟨Nat.le_of_ble_eq_true rfl, Nat.le_of_ble_eq_true rfl⟩) (fun r8 h8 => ?_)
  obtain rfl : r8 = 0 := h8
  refine lv_if_eq (tgt := 34) hx hb dX6_unkey_11 (by decide) (fun _ => ?_) (fun h9 => (h9 (by decide)).elim)
  refine lv_aload_n hx hb dX6_unkey_34 rfl (lv_at hl 0 rfl) ?_
  refine lv_iconst (v := 1) hx hb dX6_unkey_35 (by decide) ?_
  have hP9 := hP.sub (ws' := [oO mo 6 [.int 0, .ref a1, .int (nI nC), .ref a2, .ref a3, .ref a4, .ref a5, .ref a6, .ref a7, .ref a8, .ref a9, .int (nI nS), .ref a10, .int (nI nM), .ref a11]]) [0] rfl
  have hD9 := (hD.sub (ws' := [oO mo 6 [.int 0, .ref a1, .int (nI nC), .ref a2, .ref a3, .ref a4, .ref a5, .ref a6, .ref a7, .ref a8, .ref a9, .int (nI nS), .ref a10, .int (nI nM), .ref a11]]) [0] (by decide) rfl).weaken (B := fun _ => True) (fun _ _ _ _ => trivial)
  refine ki (wr := []) (rV (rest := []) (qc := (RX6, TX6, 15)) [.int 1] 1 0 0 hC (m_no l D (mo := mo) (x := 1) (th := 0) (a1 := a1) (nC := nC) (a2 := a2) (a3 := a3) (a4 := a4) (a5 := a5) (a6 := a6) (a7 := a7) (a8 := a8) (a9 := a9) (nS := nS) (a10 := a10) (nM := nM) (a11 := a11) (hz0 := H.size) ) rfl (hP 0 _ rfl) (gV mM_X6_66 mI_X6_no mS_X6_no mN_X6 mC_X6_no) (by decide +kernel) rfl rfl ⟨Nat.le_of_ble_eq_true rfl, Nat.le_of_ble_eq_true rfl⟩ hG hP9 hD9 rfl hl.1 rfl (Nat.le_of_ble_eq_true rfl) dX6_unkey_36 ⟨Nat.le_of_ble_eq_true rfl, Nat.le_of_ble_eq_true rfl⟩) hP hD hS hA [0] [] rfl rfl (by decide) (by decide) (fun r36 u36 H locs h36 hP hD hS hz hfr => ?_)
  have hP : va_P D cls [oO mo 6 [.int 1, .ref a1, .int (nI nC), .ref a2, .ref a3, .ref a4, .ref a5, .ref a6, .ref a7, .ref a8, .ref a9, .int (nI nS), .ref a10, .int (nI nM), .ref a11]] H := hP
  have hD : va_D A [oO mo 6 [.int 1, .ref a1, .int (nI nC), .ref a2, .ref a3, .ref a4, .ref a5, .ref a6, .ref a7, .ref a8, .ref a9, .int (nI nS), .ref a10, .int (nI nM), .ref a11]] := hD
  obtain rfl : r36 = 0 := h36
  refine Wi () hx hb hr hlk ?_ hP hD hS (Nat.le_of_ble_eq_true rfl) (by first | exact Nat.le_of_ble_eq_true rfl | exact Nat.le_of_eq (Nat.zero_add _)) dX6_unkey_39
  exact rfl
set_option maxHeartbeats 400000 in
set_option maxRecDepth 100000 in
theorem m_unkey_1c (l : Launch) (D : va_G) {mo a1 a2 a3 a4 a5 a6 a7 a8 a9 a10 a11 nC nS nM : Nat} {th : Int32} {ks : Nat → Int32} {i j : Nat} {n : Nat} {u0 : Int32} (hz0 : Nat) (hn : nC ≤ 6) (hi : i < nC) (hj : j < 4) (hks : ks (4 * i + j) = nI n) (h16 : n ≤ 16) (hh : ¬ (0 ≤ u0 ∧ u0 ≤ nI n - 1)) : Met l yX6_unkey (ws_ yX6_unkey cX6_unkey 4 (some .int)) ({ frames := 3, cells := 0, slots := 0, locals := 65 } : Room) (va_Pc [.ref mo, .int (nI i), .int (nI j), .int u0] (SW D [oO mo 6 [.int th, .ref a1, .int (nI nC), .ref a2, .ref a3, .ref a4, .ref a5, .ref a6, .ref a7, .ref a8, .ref a9, .int (nI nS), .ref a10, .int (nI nM), .ref a11], aI D a3 24 ks] hz0)) (va_Qi (fun v _ => v = 0) (AT D (va_A [oO mo 6 [.int th, .ref a1, .int (nI nC), .ref a2, .ref a3, .ref a4, .ref a5, .ref a6, .ref a7, .ref a8, .ref a9, .int (nI nS), .ref a10, .int (nI nM), .ref a11], aI D a3 24 ks] hz0) (fun _ : Unit => [oO mo 6 [.int 1, .ref a1, .int (nI nC), .ref a2, .ref a3, .ref a4, .ref a5, .ref a6, .ref a7, .ref a8, .ref a9, .int (nI nS), .ref a10, .int (nI nM), .ref a11], aI D a3 24 ks])) (va_A [oO mo 6 [.int th, .ref a1, .int (nI nC), .ref a2, .ref a3, .ref a4, .ref a5, .ref a6, .ref a7, .ref a8, .ref a9, .int (nI nS), .ref a10, .int (nI nM), .ref a11], aI D a3 24 ks] hz0)) 0 0 (va_A [oO mo 6 [.int th, .ref a1, .int (nI nC), .ref a2, .ref a3, .ref a4, .ref a5, .ref a6, .ref a7, .ref a8, .ref a9, .int (nI nS), .ref a10, .int (nI nM), .ref a11], aI D a3 24 ks] hz0) := by
  refine Met.ofW (cc := cX6_unkey) (maxL := 4) (ret := (some .int)) (by decide) rfl ?_
  intro p e s m args below meth c s₁ B hml hv
  obtain ⟨rfl, hsz, hG, hP, hD0⟩ := hv
  have hx := B.exec
  have hb := B.bytes
  have hr := B.returns
  have hts : ∀ w ∈ wsL_law, w.before _ s = true := fun w h => atoms_spec (ws := (ws_ yX6_unkey cX6_unkey 4 (some .int))) B.pre w (List.mem_cons_of_mem _ h)
  have hown : s.vm.findClass RX6 = some m.cls := findClass_of_methodNamed B.named
  have hlk := B.notSynchronized
  have hC : CallFix p m c cX6_unkey 4 s _ wsL_law RX6 := ⟨hx, hb, hml, hown, hts⟩
  subst hsz
  have hD := hD0.self (sz := s.heap.size)
  generalize hAe : va_A [oO mo 6 [.int th, .ref a1, .int (nI nC), .ref a2, .ref a3, .ref a4, .ref a5, .ref a6, .ref a7, .ref a8, .ref a9, .int (nI nS), .ref a10, .int (nI nM), .ref a11], aI D a3 24 ks] s.heap.size = A at hD ⊢
  have hA : ∀ q : Nat, s.heap.size ≤ q → A q := fun q h => by rw [← hAe]; exact Or.inr h
  have hS : va_S A s.heap s.heap [] := va_S.rf
  obtain ⟨H, hHe⟩ : ∃ H, H = s.heap := ⟨_, rfl⟩
  rw [← hHe] at hP
  have hS : va_S A s.heap H [] := by rw [hHe]; exact hS
  have hl := lv_entry ([.ref mo, .int (nI i), .int (nI j), .int u0]) (n := 4) (Nat.le_of_ble_eq_true rfl)
  rw [lg_entry_eq]
  generalize (lg_sl ([.ref mo, .int (nI i), .int (nI j), .int u0]) ++ List.replicate (4 - (lg_sl ([.ref mo, .int (nI i), .int (nI j), .int u0])).length) Slot.unset).toArray = ls at hl ⊢
  have hl : lv_has ls 4 [(0, .ref mo), (1, .int (nI i)), (2, .int (nI j)), (3, .int u0)] := hl
  rw [← hHe]
  refine lv_aload_n hx hb dX6_unkey_0 rfl (lv_at hl 0 rfl) ?_
  refine lv_iconst (v := 0) hx hb dX6_unkey_1 (by decide) ?_
  refine va_put (D := D) (ci := 6) (v := .int 0) (ty := .int) (C := RX6) (T := TX6) (N := 15) hx hb hts inlX6 tyX6 tyX6_ok nmX6 hown hG.K hP hD hS 0 rfl rfl 0 (by decide) (hts _ mF_X6_43) (fun _ h9 => h9) rfl (by decide +kernel) rfl rfl (Nat.le_of_ble_eq_true rfl) dX6_unkey_2 (fun H locs hP hD hS => ?_)
  have hP : va_P D cls [oO mo 6 [.int 0, .ref a1, .int (nI nC), .ref a2, .ref a3, .ref a4, .ref a5, .ref a6, .ref a7, .ref a8, .ref a9, .int (nI nS), .ref a10, .int (nI nM), .ref a11], aI D a3 24 ks] H := hP
  have hD : va_D A [oO mo 6 [.int 0, .ref a1, .int (nI nC), .ref a2, .ref a3, .ref a4, .ref a5, .ref a6, .ref a7, .ref a8, .ref a9, .int (nI nS), .ref a10, .int (nI nM), .ref a11], aI D a3 24 ks] := hD
  refine lv_aload_n hx hb dX6_unkey_5 rfl (lv_at hl 0 rfl) ?_
  refine lv_iload_n hx hb dX6_unkey_6 rfl (lv_at hl 1 rfl) ?_
  refine lv_iload_n hx hb dX6_unkey_7 rfl (lv_at hl 2 rfl) ?_
  have hP9 := hP.sub (ws' := [oO mo 6 [.int 0, .ref a1, .int (nI nC), .ref a2, .ref a3, .ref a4, .ref a5, .ref a6, .ref a7, .ref a8, .ref a9, .int (nI nS), .ref a10, .int (nI nM), .ref a11]]) [0] rfl
  refine vp_callSi (pV (rest := []) (qc := (RX6, TX6, 15)) [.int (nI i), .int (nI j)] 2 hC (m_isTrack l D (mo := mo) (i := i) (j := j) (th := 0) (a1 := a1) (nC := nC) (a2 := a2) (a3 := a3) (a4 := a4) (a5 := a5) (a6 := a6) (a7 := a7) (a8 := a8) (a9 := a9) (nS := nS) (a10 := a10) (nM := nM) (a11 := a11) (by omega) (by omega) (by omega)) rfl (hP 0 _ rfl) (gV mM_X6_74 mI_X6_isTrack mS_X6_isTrack mN_X6 mC_X6_isTrack) (by decide +kernel) rfl rfl ⟨Nat.le_of_ble_eq_true rfl, Nat.le_of_ble_eq_true rfl⟩ hG hP9 rfl hl.1 rfl (Nat.le_of_ble_eq_true rfl) dX6_unkey_8 ⟨Nat.le_of_ble_eq_true rfl, Nat.le_of_ble_eq_true rfl⟩) (fun r8 h8 => ?_)
  obtain rfl : r8 = 1 := h8
  refine lv_if_eq (tgt := 34) hx hb dX6_unkey_11 (by decide) (fun h9 => absurd h9 (by decide)) (fun _ => ?_)
  refine lv_iload_n hx hb dX6_unkey_14 rfl (lv_at hl 3 rfl) ?_
  refine lv_iconst (v := 0) hx hb dX6_unkey_15 (by decide) ?_
  refine lv_aload_n hx hb dX6_unkey_16 rfl (lv_at hl 0 rfl) ?_
  refine va_get (D := D) (ci := 6) (v := .ref a3) (C := RX6) (T := TX6) (N := 15) hx hb hts inlX6 hown hG.K hP 0 rfl rfl 4 (by decide) (hts _ mF_X6_16) (fun _ h9 => h9) rfl dX6_unkey_17 ?_
  refine lv_iconst (v := 4) hx hb dX6_unkey_20 (by decide) ?_
  refine lv_iload_n hx hb dX6_unkey_21 rfl (lv_at hl 1 rfl) ?_
  refine lv_imul hx hb dX6_unkey_22 ?_
  refine tpi (y := nI (4 * i)) (pk_mul 4 i) ?_
  refine lv_iload_n hx hb dX6_unkey_23 rfl (lv_at hl 2 rfl) ?_
  refine lv_iadd hx hb dX6_unkey_24 ?_
  refine tpi (y := nI ((4 * i) + j)) (nI_add (4 * i) j) ?_
  refine ild (n := 24) (j := (4 * i) + j) hx hb hG hP 1 rfl (by omega) (by omega) dX6_unkey_25 ?_
  refine tpi (y := nI n) (hks) ?_
  refine lv_iconst (v := 1) hx hb dX6_unkey_26 (by decide) ?_
  refine lv_isub hx hb dX6_unkey_27 ?_
  have hP9 : va_P D cls [] H := fun k q h => by simp at h
  refine vp_callSi (pS (rest := []) [.int u0, .int 0, .int ((nI n) - 1)] 3 hC (m_isIn l D (x := u0) (a := 0) (b := (nI n) - 1) ) (gS mM_X6_50 mT_X6_isIn mN_X6 mC_X6_isIn) (by decide +kernel) rfl rfl ⟨Nat.le_of_ble_eq_true rfl, Nat.le_of_ble_eq_true rfl⟩ hG hP9 rfl hl.1 rfl (Nat.le_of_ble_eq_true rfl) dX6_unkey_28 ⟨Nat.le_of_ble_eq_true rfl, Nat.le_of_ble_eq_true rfl⟩) (fun r28 h28 => ?_)
  rcases h28 with ⟨rfl, hb28⟩ | ⟨rfl, hb28⟩
  · exact absurd hb28 (hh)
  refine lv_if_ne (tgt := 40) hx hb dX6_unkey_31 (by decide) (fun h9 => (h9 (by decide)).elim) (fun _ => ?_)
  refine lv_aload_n hx hb dX6_unkey_34 rfl (lv_at hl 0 rfl) ?_
  refine lv_iconst (v := 1) hx hb dX6_unkey_35 (by decide) ?_
  have hP9 := hP.sub (ws' := [oO mo 6 [.int 0, .ref a1, .int (nI nC), .ref a2, .ref a3, .ref a4, .ref a5, .ref a6, .ref a7, .ref a8, .ref a9, .int (nI nS), .ref a10, .int (nI nM), .ref a11]]) [0] rfl
  have hD9 := (hD.sub (ws' := [oO mo 6 [.int 0, .ref a1, .int (nI nC), .ref a2, .ref a3, .ref a4, .ref a5, .ref a6, .ref a7, .ref a8, .ref a9, .int (nI nS), .ref a10, .int (nI nM), .ref a11]]) [0] (by decide) rfl).weaken (B := fun _ => True) (fun _ _ _ _ => trivial)
  refine ki (wr := [aI D a3 24 ks]) (rV (rest := []) (qc := (RX6, TX6, 15)) [.int 1] 1 0 0 hC (m_no l D (mo := mo) (x := 1) (th := 0) (a1 := a1) (nC := nC) (a2 := a2) (a3 := a3) (a4 := a4) (a5 := a5) (a6 := a6) (a7 := a7) (a8 := a8) (a9 := a9) (nS := nS) (a10 := a10) (nM := nM) (a11 := a11) (hz0 := H.size) ) rfl (hP 0 _ rfl) (gV mM_X6_66 mI_X6_no mS_X6_no mN_X6 mC_X6_no) (by decide +kernel) rfl rfl ⟨Nat.le_of_ble_eq_true rfl, Nat.le_of_ble_eq_true rfl⟩ hG hP9 hD9 rfl hl.1 rfl (Nat.le_of_ble_eq_true rfl) dX6_unkey_36 ⟨Nat.le_of_ble_eq_true rfl, Nat.le_of_ble_eq_true rfl⟩) hP hD hS hA [0] [1] rfl rfl (by decide) (by decide) (fun r36 u36 H locs h36 hP hD hS hz hfr => ?_)
  have hP : va_P D cls [aI D a3 24 ks, oO mo 6 [.int 1, .ref a1, .int (nI nC), .ref a2, .ref a3, .ref a4, .ref a5, .ref a6, .ref a7, .ref a8, .ref a9, .int (nI nS), .ref a10, .int (nI nM), .ref a11]] H := hP
  have hD : va_D A [aI D a3 24 ks, oO mo 6 [.int 1, .ref a1, .int (nI nC), .ref a2, .ref a3, .ref a4, .ref a5, .ref a6, .ref a7, .ref a8, .ref a9, .int (nI nS), .ref a10, .int (nI nM), .ref a11]] := hD
  obtain rfl : r36 = 0 := h36
  refine Wi () hx hb hr hlk ?_ (hP.sub [1, 0] rfl) (hD.sub [1, 0] (by decide) rfl) hS (Nat.le_of_ble_eq_true rfl) (by first | exact Nat.le_of_ble_eq_true rfl | exact Nat.le_of_eq (Nat.zero_add _)) dX6_unkey_39
  exact rfl
set_option maxHeartbeats 400000 in
set_option maxRecDepth 100000 in
theorem m_unkey (l : Launch) (D : va_G) {mo a1 a2 a3 a4 a5 a6 a7 a8 a9 a10 a11 nC nS nM : Nat} {th : Int32} {ks tm wo ea : Nat → Int32} {i j : Nat} {n d : Nat} (hz0 : Nat) (hn : nC ≤ 6) (hi : i < nC) (hj : j < 4) (hks : ks (4 * i + j) = nI n) (h16 : n ≤ 16) (hd : d < n) : Met l yX6_unkey (ws_ yX6_unkey cX6_unkey 4 (some .int)) ({ frames := 3, cells := 0, slots := 0, locals := 65 } : Room) (va_Pc [.ref mo, .int (nI i), .int (nI j), .int (nI d)] (SW D [oO mo 6 [.int th, .ref a1, .int (nI nC), .ref a2, .ref a3, .ref a4, .ref a5, .ref a6, .ref a7, .ref a8, .ref a9, .int (nI nS), .ref a10, .int (nI nM), .ref a11], aI D a3 24 ks, aI D a4 384 tm, aI D a5 384 wo, aI D a6 384 ea] hz0)) (va_Qi (fun v _ => v = nI (n - 1)) (AT D (va_A [oO mo 6 [.int th, .ref a1, .int (nI nC), .ref a2, .ref a3, .ref a4, .ref a5, .ref a6, .ref a7, .ref a8, .ref a9, .int (nI nS), .ref a10, .int (nI nM), .ref a11], aI D a3 24 ks, aI D a4 384 tm, aI D a5 384 wo, aI D a6 384 ea] hz0) (fun _ : Unit => [oO mo 6 [.int 0, .ref a1, .int (nI nC), .ref a2, .ref a3, .ref a4, .ref a5, .ref a6, .ref a7, .ref a8, .ref a9, .int (nI nS), .ref a10, .int (nI nM), .ref a11], aI D a3 24 (upd ks (4 * i + j) (nI (n - 1))), aI D a4 384 (dlF tm (16 * (4 * i + j) + d) (16 * (4 * i + j) + n)), aI D a5 384 (dlF wo (16 * (4 * i + j) + d) (16 * (4 * i + j) + n)), aI D a6 384 (dlF ea (16 * (4 * i + j) + d) (16 * (4 * i + j) + n))])) (va_A [oO mo 6 [.int th, .ref a1, .int (nI nC), .ref a2, .ref a3, .ref a4, .ref a5, .ref a6, .ref a7, .ref a8, .ref a9, .int (nI nS), .ref a10, .int (nI nM), .ref a11], aI D a3 24 ks, aI D a4 384 tm, aI D a5 384 wo, aI D a6 384 ea] hz0)) 0 0 (va_A [oO mo 6 [.int th, .ref a1, .int (nI nC), .ref a2, .ref a3, .ref a4, .ref a5, .ref a6, .ref a7, .ref a8, .ref a9, .int (nI nS), .ref a10, .int (nI nM), .ref a11], aI D a3 24 ks, aI D a4 384 tm, aI D a5 384 wo, aI D a6 384 ea] hz0) := by
  refine Met.ofW (cc := cX6_unkey) (maxL := 4) (ret := (some .int)) (by decide) rfl ?_
  intro p e s m args below meth c s₁ B hml hv
  obtain ⟨rfl, hsz, hG, hP, hD0⟩ := hv
  have hx := B.exec
  have hb := B.bytes
  have hr := B.returns
  have hts : ∀ w ∈ wsL_law, w.before _ s = true := fun w h => atoms_spec (ws := (ws_ yX6_unkey cX6_unkey 4 (some .int))) B.pre w (List.mem_cons_of_mem _ h)
  have hown : s.vm.findClass RX6 = some m.cls := findClass_of_methodNamed B.named
  have hlk := B.notSynchronized
  have hC : CallFix p m c cX6_unkey 4 s _ wsL_law RX6 := ⟨hx, hb, hml, hown, hts⟩
  subst hsz
  have hD := hD0.self (sz := s.heap.size)
  generalize hAe : va_A [oO mo 6 [.int th, .ref a1, .int (nI nC), .ref a2, .ref a3, .ref a4, .ref a5, .ref a6, .ref a7, .ref a8, .ref a9, .int (nI nS), .ref a10, .int (nI nM), .ref a11], aI D a3 24 ks, aI D a4 384 tm, aI D a5 384 wo, aI D a6 384 ea] s.heap.size = A at hD ⊢
  have hA : ∀ q : Nat, s.heap.size ≤ q → A q := fun q h => by rw [← hAe]; exact Or.inr h
  have hS : va_S A s.heap s.heap [] := va_S.rf
  obtain ⟨H, hHe⟩ : ∃ H, H = s.heap := ⟨_, rfl⟩
  rw [← hHe] at hP
  have hS : va_S A s.heap H [] := by rw [hHe]; exact hS
  have hl := lv_entry ([.ref mo, .int (nI i), .int (nI j), .int (nI d)]) (n := 4) (Nat.le_of_ble_eq_true rfl)
  rw [lg_entry_eq]
  generalize (lg_sl ([.ref mo, .int (nI i), .int (nI j), .int (nI d)]) ++ List.replicate (4 - (lg_sl ([.ref mo, .int (nI i), .int (nI j), .int (nI d)])).length) Slot.unset).toArray = ls at hl ⊢
  have hl : lv_has ls 4 [(0, .ref mo), (1, .int (nI i)), (2, .int (nI j)), (3, .int (nI d))] := hl
  rw [← hHe]
  refine lv_aload_n hx hb dX6_unkey_0 rfl (lv_at hl 0 rfl) ?_
  refine lv_iconst (v := 0) hx hb dX6_unkey_1 (by decide) ?_
  refine va_put (D := D) (ci := 6) (v := .int 0) (ty := .int) (C := RX6) (T := TX6) (N := 15) hx hb hts inlX6 tyX6 tyX6_ok nmX6 hown hG.K hP hD hS 0 rfl rfl 0 (by decide) (hts _ mF_X6_43) (fun _ h9 => h9) rfl (by decide +kernel) rfl rfl (Nat.le_of_ble_eq_true rfl) dX6_unkey_2 (fun H locs hP hD hS => ?_)
  have hP : va_P D cls [oO mo 6 [.int 0, .ref a1, .int (nI nC), .ref a2, .ref a3, .ref a4, .ref a5, .ref a6, .ref a7, .ref a8, .ref a9, .int (nI nS), .ref a10, .int (nI nM), .ref a11], aI D a3 24 ks, aI D a4 384 tm, aI D a5 384 wo, aI D a6 384 ea] H := hP
  have hD : va_D A [oO mo 6 [.int 0, .ref a1, .int (nI nC), .ref a2, .ref a3, .ref a4, .ref a5, .ref a6, .ref a7, .ref a8, .ref a9, .int (nI nS), .ref a10, .int (nI nM), .ref a11], aI D a3 24 ks, aI D a4 384 tm, aI D a5 384 wo, aI D a6 384 ea] := hD
  refine lv_aload_n hx hb dX6_unkey_5 rfl (lv_at hl 0 rfl) ?_
  refine lv_iload_n hx hb dX6_unkey_6 rfl (lv_at hl 1 rfl) ?_
  refine lv_iload_n hx hb dX6_unkey_7 rfl (lv_at hl 2 rfl) ?_
  have hP9 := hP.sub (ws' := [oO mo 6 [.int 0, .ref a1, .int (nI nC), .ref a2, .ref a3, .ref a4, .ref a5, .ref a6, .ref a7, .ref a8, .ref a9, .int (nI nS), .ref a10, .int (nI nM), .ref a11]]) [0] rfl
  refine vp_callSi (pV (rest := []) (qc := (RX6, TX6, 15)) [.int (nI i), .int (nI j)] 2 hC (m_isTrack l D (mo := mo) (i := i) (j := j) (th := 0) (a1 := a1) (nC := nC) (a2 := a2) (a3 := a3) (a4 := a4) (a5 := a5) (a6 := a6) (a7 := a7) (a8 := a8) (a9 := a9) (nS := nS) (a10 := a10) (nM := nM) (a11 := a11) (by omega) (by omega) (by omega)) rfl (hP 0 _ rfl) (gV mM_X6_74 mI_X6_isTrack mS_X6_isTrack mN_X6 mC_X6_isTrack) (by decide +kernel) rfl rfl ⟨Nat.le_of_ble_eq_true rfl, Nat.le_of_ble_eq_true rfl⟩ hG hP9 rfl hl.1 rfl (Nat.le_of_ble_eq_true rfl) dX6_unkey_8 ⟨Nat.le_of_ble_eq_true rfl, Nat.le_of_ble_eq_true rfl⟩) (fun r8 h8 => ?_)
  obtain rfl : r8 = 1 := h8
  refine lv_if_eq (tgt := 34) hx hb dX6_unkey_11 (by decide) (fun h9 => absurd h9 (by decide)) (fun _ => ?_)
  refine lv_iload_n hx hb dX6_unkey_14 rfl (lv_at hl 3 rfl) ?_
  refine lv_iconst (v := 0) hx hb dX6_unkey_15 (by decide) ?_
  refine lv_aload_n hx hb dX6_unkey_16 rfl (lv_at hl 0 rfl) ?_
  refine va_get (D := D) (ci := 6) (v := .ref a3) (C := RX6) (T := TX6) (N := 15) hx hb hts inlX6 hown hG.K hP 0 rfl rfl 4 (by decide) (hts _ mF_X6_16) (fun _ h9 => h9) rfl dX6_unkey_17 ?_
  refine lv_iconst (v := 4) hx hb dX6_unkey_20 (by decide) ?_
  refine lv_iload_n hx hb dX6_unkey_21 rfl (lv_at hl 1 rfl) ?_
  refine lv_imul hx hb dX6_unkey_22 ?_
  refine tpi (y := nI (4 * i)) (pk_mul 4 i) ?_
  refine lv_iload_n hx hb dX6_unkey_23 rfl (lv_at hl 2 rfl) ?_
  refine lv_iadd hx hb dX6_unkey_24 ?_
  refine tpi (y := nI ((4 * i) + j)) (nI_add (4 * i) j) ?_
  refine ild (n := 24) (j := (4 * i) + j) hx hb hG hP 1 rfl (by omega) (by omega) dX6_unkey_25 ?_
  refine tpi (y := nI n) (hks) ?_
  refine lv_iconst (v := 1) hx hb dX6_unkey_26 (by decide) ?_
  refine lv_isub hx hb dX6_unkey_27 ?_
  refine tpi (y := nI (n - 1)) (pk_sub (a := n) (b := 1) (by omega)) ?_
  have hP9 : va_P D cls [] H := fun k q h => by simp at h
  refine vp_callSi (pS (rest := []) [.int (nI d), .int 0, .int (nI (n - 1))] 3 hC (m_isIn l D (x := nI d) (a := 0) (b := nI (n - 1)) ) (gS mM_X6_50 mT_X6_isIn mN_X6 mC_X6_isIn) (by decide +kernel) rfl rfl ⟨Nat.le_of_ble_eq_true rfl, Nat.le_of_ble_eq_true rfl⟩ hG hP9 rfl hl.1 rfl (Nat.le_of_ble_eq_true rfl) dX6_unkey_28 ⟨Nat.le_of_ble_eq_true rfl, Nat.le_of_ble_eq_true rfl⟩) (fun r28 h28 => ?_)
  rcases h28 with ⟨rfl, hb28⟩ | ⟨rfl, hb28⟩
  rotate_left
  · exact absurd (⟨nI_pos' (by omega), nI_le (by omega) (by omega)⟩) hb28
  refine lv_if_ne (tgt := 40) hx hb dX6_unkey_31 (by decide) (fun _ => ?_) (fun h9 => absurd h9 (by decide))
  refine lv_aload_n hx hb dX6_unkey_40 rfl (lv_at hl 0 rfl) ?_
  refine lv_iconst (v := 4) hx hb dX6_unkey_41 (by decide) ?_
  refine lv_iload_n hx hb dX6_unkey_42 rfl (lv_at hl 1 rfl) ?_
  refine lv_imul hx hb dX6_unkey_43 ?_
  refine tpi (y := nI (4 * i)) (pk_mul 4 i) ?_
  refine lv_iload_n hx hb dX6_unkey_44 rfl (lv_at hl 2 rfl) ?_
  refine lv_iadd hx hb dX6_unkey_45 ?_
  refine tpi (y := nI ((4 * i) + j)) (nI_add (4 * i) j) ?_
  refine lv_iload_n hx hb dX6_unkey_46 rfl (lv_at hl 3 rfl) ?_
  have hP9 := hP.sub (ws' := [oO mo 6 [.int 0, .ref a1, .int (nI nC), .ref a2, .ref a3, .ref a4, .ref a5, .ref a6, .ref a7, .ref a8, .ref a9, .int (nI nS), .ref a10, .int (nI nM), .ref a11], aI D a3 24 ks, aI D a4 384 tm, aI D a5 384 wo, aI D a6 384 ea]) [0, 1, 2, 3, 4] rfl
  have hD9 := (hD.sub (ws' := [oO mo 6 [.int 0, .ref a1, .int (nI nC), .ref a2, .ref a3, .ref a4, .ref a5, .ref a6, .ref a7, .ref a8, .ref a9, .int (nI nS), .ref a10, .int (nI nM), .ref a11], aI D a3 24 ks, aI D a4 384 tm, aI D a5 384 wo, aI D a6 384 ea]) [0, 1, 2, 3, 4] (by decide) rfl).weaken (B := fun _ => True) (fun _ _ _ _ => trivial)
  refine kv (wr := []) (rV (rest := []) (qc := (RX6, TX6, 15)) [.int (nI ((4 * i) + j)), .int (nI d)] 2 0 0 hC (m_drop l D (n := n) (mo := mo) (k0 := (4 * i) + j) (d := d) (th := 0) (a1 := a1) (nC := nC) (a2 := a2) (a3 := a3) (a4 := a4) (a5 := a5) (a6 := a6) (a7 := a7) (a8 := a8) (a9 := a9) (nS := nS) (a10 := a10) (nM := nM) (a11 := a11) (ks := ks) (tm := tm) (wo := wo) (ea := ea) (hz0 := H.size) (by omega) (hks) (by omega) (by omega)) rfl (hP 0 _ rfl) (gV mM_X6_85 mI_X6_drop mS_X6_drop mN_X6 mC_X6_drop) (by decide +kernel) rfl rfl ⟨Nat.le_of_ble_eq_true rfl, Nat.le_of_ble_eq_true rfl⟩ hG hP9 hD9 rfl hl.1 rfl (Nat.le_of_ble_eq_true rfl) dX6_unkey_47 ⟨Nat.le_of_ble_eq_true rfl, Nat.le_of_ble_eq_true rfl⟩) hP hD hS hA [0, 1, 2, 3, 4] [] rfl rfl (by decide) (by decide) (fun u47 H locs h47 hP hD hS hz hfr => ?_)
  have hP : va_P D cls [oO mo 6 [.int 0, .ref a1, .int (nI nC), .ref a2, .ref a3, .ref a4, .ref a5, .ref a6, .ref a7, .ref a8, .ref a9, .int (nI nS), .ref a10, .int (nI nM), .ref a11], aI D a3 24 (upd ks ((4 * i) + j) (nI (n - 1))), aI D a4 384 (dlF tm (16 * ((4 * i) + j) + d) (16 * ((4 * i) + j) + n)), aI D a5 384 (dlF wo (16 * ((4 * i) + j) + d) (16 * ((4 * i) + j) + n)), aI D a6 384 (dlF ea (16 * ((4 * i) + j) + d) (16 * ((4 * i) + j) + n))] H := hP
  have hD : va_D A [oO mo 6 [.int 0, .ref a1, .int (nI nC), .ref a2, .ref a3, .ref a4, .ref a5, .ref a6, .ref a7, .ref a8, .ref a9, .int (nI nS), .ref a10, .int (nI nM), .ref a11], aI D a3 24 (upd ks ((4 * i) + j) (nI (n - 1))), aI D a4 384 (dlF tm (16 * ((4 * i) + j) + d) (16 * ((4 * i) + j) + n)), aI D a5 384 (dlF wo (16 * ((4 * i) + j) + d) (16 * ((4 * i) + j) + n)), aI D a6 384 (dlF ea (16 * ((4 * i) + j) + d) (16 * ((4 * i) + j) + n))] := hD
  refine lv_aload_n hx hb dX6_unkey_50 rfl (lv_at hl 0 rfl) ?_
  refine va_get (D := D) (ci := 6) (v := .ref a3) (C := RX6) (T := TX6) (N := 15) hx hb hts inlX6 hown hG.K hP 0 rfl rfl 4 (by decide) (hts _ mF_X6_16) (fun _ h9 => h9) rfl dX6_unkey_51 ?_
  refine lv_iconst (v := 4) hx hb dX6_unkey_54 (by decide) ?_
  refine lv_iload_n hx hb dX6_unkey_55 rfl (lv_at hl 1 rfl) ?_
  refine lv_imul hx hb dX6_unkey_56 ?_
  refine tpi (y := nI (4 * i)) (pk_mul 4 i) ?_
  refine lv_iload_n hx hb dX6_unkey_57 rfl (lv_at hl 2 rfl) ?_
  refine lv_iadd hx hb dX6_unkey_58 ?_
  refine tpi (y := nI ((4 * i) + j)) (nI_add (4 * i) j) ?_
  refine ild (n := 24) (j := (4 * i) + j) hx hb hG hP 1 rfl (by omega) (by omega) dX6_unkey_59 ?_
  refine tpi (y := nI (n - 1)) (if_pos rfl) ?_
  refine Wi () hx hb hr hlk ?_ hP hD hS (Nat.le_of_ble_eq_true rfl) (by first | exact Nat.le_of_ble_eq_true rfl | exact Nat.le_of_eq (Nat.zero_add _)) dX6_unkey_60
  exact rfl
set_option maxHeartbeats 400000 in
set_option maxRecDepth 100000 in
theorem m_key_1a (l : Launch) (D : va_G) {mo a1 a2 a3 a4 a5 a6 a7 a8 a9 a10 a11 nC nS nM : Nat} {th : Int32} {x y u0 v0 e0 : Int32} (hz0 : Nat) (hn : nC ≤ 6) (hxx : x < 0 ∨ nI nC ≤ x) : Met l yX6_key (ws_ yX6_key cX6_key 10 (some .int)) ({ frames := 3, cells := 0, slots := 0, locals := 65 } : Room) (va_Pc [.ref mo, .int x, .int y, .int u0, .int v0, .int e0] (SW D [oO mo 6 [.int th, .ref a1, .int (nI nC), .ref a2, .ref a3, .ref a4, .ref a5, .ref a6, .ref a7, .ref a8, .ref a9, .int (nI nS), .ref a10, .int (nI nM), .ref a11]] hz0)) (va_Qi (fun v _ => v = 0) (AT D (va_A [oO mo 6 [.int th, .ref a1, .int (nI nC), .ref a2, .ref a3, .ref a4, .ref a5, .ref a6, .ref a7, .ref a8, .ref a9, .int (nI nS), .ref a10, .int (nI nM), .ref a11]] hz0) (fun _ : Unit => [oO mo 6 [.int 1, .ref a1, .int (nI nC), .ref a2, .ref a3, .ref a4, .ref a5, .ref a6, .ref a7, .ref a8, .ref a9, .int (nI nS), .ref a10, .int (nI nM), .ref a11]])) (va_A [oO mo 6 [.int th, .ref a1, .int (nI nC), .ref a2, .ref a3, .ref a4, .ref a5, .ref a6, .ref a7, .ref a8, .ref a9, .int (nI nS), .ref a10, .int (nI nM), .ref a11]] hz0)) 0 0 (va_A [oO mo 6 [.int th, .ref a1, .int (nI nC), .ref a2, .ref a3, .ref a4, .ref a5, .ref a6, .ref a7, .ref a8, .ref a9, .int (nI nS), .ref a10, .int (nI nM), .ref a11]] hz0) := by
  refine Met.ofW (cc := cX6_key) (maxL := 10) (ret := (some .int)) (by decide) rfl ?_
  intro p e s m args below meth c s₁ B hml hv
  obtain ⟨rfl, hsz, hG, hP, hD0⟩ := hv
  have hx := B.exec
  have hb := B.bytes
  have hr := B.returns
  have hts : ∀ w ∈ wsL_law, w.before _ s = true := fun w h => atoms_spec (ws := (ws_ yX6_key cX6_key 10 (some .int))) B.pre w (List.mem_cons_of_mem _ h)
  have hown : s.vm.findClass RX6 = some m.cls := findClass_of_methodNamed B.named
  have hlk := B.notSynchronized
  have hC : CallFix p m c cX6_key 10 s _ wsL_law RX6 := ⟨hx, hb, hml, hown, hts⟩
  subst hsz
  have hD := hD0.self (sz := s.heap.size)
  generalize hAe : va_A [oO mo 6 [.int th, .ref a1, .int (nI nC), .ref a2, .ref a3, .ref a4, .ref a5, .ref a6, .ref a7, .ref a8, .ref a9, .int (nI nS), .ref a10, .int (nI nM), .ref a11]] s.heap.size = A at hD ⊢
  have hA : ∀ q : Nat, s.heap.size ≤ q → A q := fun q h => by rw [← hAe]; exact Or.inr h
  have hS : va_S A s.heap s.heap [] := va_S.rf
  obtain ⟨H, hHe⟩ : ∃ H, H = s.heap := ⟨_, rfl⟩
  rw [← hHe] at hP
  have hS : va_S A s.heap H [] := by rw [hHe]; exact hS
  have hl := lv_entry ([.ref mo, .int x, .int y, .int u0, .int v0, .int e0]) (n := 10) (Nat.le_of_ble_eq_true rfl)
  rw [lg_entry_eq]
  generalize (lg_sl ([.ref mo, .int x, .int y, .int u0, .int v0, .int e0]) ++ List.replicate (10 - (lg_sl ([.ref mo, .int x, .int y, .int u0, .int v0, .int e0])).length) Slot.unset).toArray = ls at hl ⊢
  have hl : lv_has ls 10 [(0, .ref mo), (1, .int x), (2, .int y), (3, .int u0), (4, .int v0), (5, .int e0)] := hl
  rw [← hHe]
  refine lv_aload_n hx hb dX6_key_0 rfl (lv_at hl 0 rfl) ?_
  refine lv_iconst (v := 0) hx hb dX6_key_1 (by decide) ?_
  refine va_put (D := D) (ci := 6) (v := .int 0) (ty := .int) (C := RX6) (T := TX6) (N := 15) hx hb hts inlX6 tyX6 tyX6_ok nmX6 hown hG.K hP hD hS 0 rfl rfl 0 (by decide) (hts _ mF_X6_43) (fun _ h9 => h9) rfl (by decide +kernel) rfl rfl (Nat.le_of_ble_eq_true rfl) dX6_key_2 (fun H locs hP hD hS => ?_)
  have hP : va_P D cls [oO mo 6 [.int 0, .ref a1, .int (nI nC), .ref a2, .ref a3, .ref a4, .ref a5, .ref a6, .ref a7, .ref a8, .ref a9, .int (nI nS), .ref a10, .int (nI nM), .ref a11]] H := hP
  have hD : va_D A [oO mo 6 [.int 0, .ref a1, .int (nI nC), .ref a2, .ref a3, .ref a4, .ref a5, .ref a6, .ref a7, .ref a8, .ref a9, .int (nI nS), .ref a10, .int (nI nM), .ref a11]] := hD
  refine lv_aload_n hx hb dX6_key_5 rfl (lv_at hl 0 rfl) ?_
  refine lv_iload_n hx hb dX6_key_6 rfl (lv_at hl 1 rfl) ?_
  refine lv_iload_n hx hb dX6_key_7 rfl (lv_at hl 2 rfl) ?_
  have hP9 := hP
  refine vp_callSi (pV (rest := []) (qc := (RX6, TX6, 15)) [.int x, .int y] 2 hC (m_isTrack_no1 l D (mo := mo) (x := x) (y := y) (th := 0) (a1 := a1) (nC := nC) (a2 := a2) (a3 := a3) (a4 := a4) (a5 := a5) (a6 := a6) (a7 := a7) (a8 := a8) (a9 := a9) (nS := nS) (a10 := a10) (nM := nM) (a11 := a11) (by omega) (hxx)) rfl (hP 0 _ rfl) (gV mM_X6_74 mI_X6_isTrack mS_X6_isTrack mN_X6 mC_X6_isTrack) (by decide +kernel) rfl rfl ⟨Nat.le_of_ble_eq_true rfl, Nat.le_of_ble_eq_true rfl⟩ hG hP9 rfl hl.1 rfl (Nat.le_of_ble_eq_true rfl) dX6_key_8 ⟨Nat.le_of_ble_eq_true rfl, Nat.le_of_ble_eq_true rfl⟩) (fun r8 h8 => ?_)
  obtain rfl : r8 = 0 := h8
  refine lv_if_ne (tgt := 20) hx hb dX6_key_11 (by decide) (fun h9 => (h9 (by decide)).elim) (fun _ => ?_)
  refine lv_aload_n hx hb dX6_key_14 rfl (lv_at hl 0 rfl) ?_
  refine lv_iconst (v := 1) hx hb dX6_key_15 (by decide) ?_
  have hP9 := hP.sub (ws' := [oO mo 6 [.int 0, .ref a1, .int (nI nC), .ref a2, .ref a3, .ref a4, .ref a5, .ref a6, .ref a7, .ref a8, .ref a9, .int (nI nS), .ref a10, .int (nI nM), .ref a11]]) [0] rfl
  have hD9 := (hD.sub (ws' := [oO mo 6 [.int 0, .ref a1, .int (nI nC), .ref a2, .ref a3, .ref a4, .ref a5, .ref a6, .ref a7, .ref a8, .ref a9, .int (nI nS), .ref a10, .int (nI nM), .ref a11]]) [0] (by decide) rfl).weaken (B := fun _ => True) (fun _ _ _ _ => trivial)
  refine ki (wr := []) (rV (rest := []) (qc := (RX6, TX6, 15)) [.int 1] 1 0 0 hC (m_no l D (mo := mo) (x := 1) (th := 0) (a1 := a1) (nC := nC) (a2 := a2) (a3 := a3) (a4 := a4) (a5 := a5) (a6 := a6) (a7 := a7) (a8 := a8) (a9 := a9) (nS := nS) (a10 := a10) (nM := nM) (a11 := a11) (hz0 := H.size) ) rfl (hP 0 _ rfl) (gV mM_X6_66 mI_X6_no mS_X6_no mN_X6 mC_X6_no) (by decide +kernel) rfl rfl ⟨Nat.le_of_ble_eq_true rfl, Nat.le_of_ble_eq_true rfl⟩ hG hP9 hD9 rfl hl.1 rfl (Nat.le_of_ble_eq_true rfl) dX6_key_16 ⟨Nat.le_of_ble_eq_true rfl, Nat.le_of_ble_eq_true rfl⟩) hP hD hS hA [0] [] rfl rfl (by decide) (by decide) (fun r16 u16 H locs h16 hP hD hS hz hfr => ?_)
  have hP : va_P D cls [oO mo 6 [.int 1, .ref a1, .int (nI nC), .ref a2, .ref a3, .ref a4, .ref a5, .ref a6, .ref a7, .ref a8, .ref a9, .int (nI nS), .ref a10, .int (nI nM), .ref a11]] H := hP
  have hD : va_D A [oO mo 6 [.int 1, .ref a1, .int (nI nC), .ref a2, .ref a3, .ref a4, .ref a5, .ref a6, .ref a7, .ref a8, .ref a9, .int (nI nS), .ref a10, .int (nI nM), .ref a11]] := hD
  obtain rfl : r16 = 0 := h16
  refine Wi () hx hb hr hlk ?_ hP hD hS (Nat.le_of_ble_eq_true rfl) (by first | exact Nat.le_of_ble_eq_true rfl | exact Nat.le_of_eq (Nat.zero_add _)) dX6_key_19
  exact rfl
set_option maxHeartbeats 400000 in
set_option maxRecDepth 100000 in
theorem m_key_1b (l : Launch) (D : va_G) {mo a1 a2 a3 a4 a5 a6 a7 a8 a9 a10 a11 nC nS nM : Nat} {th : Int32} {i : Nat} {y u0 v0 e0 : Int32} (hz0 : Nat) (hn : nC ≤ 6) (hi : i < nC) (hyy : ¬ ((0 : Int32) ≤ y ∧ y ≤ 3)) : Met l yX6_key (ws_ yX6_key cX6_key 10 (some .int)) ({ frames := 3, cells := 0, slots := 0, locals := 65 } : Room) (va_Pc [.ref mo, .int (nI i), .int y, .int u0, .int v0, .int e0] (SW D [oO mo 6 [.int th, .ref a1, .int (nI nC), .ref a2, .ref a3, .ref a4, .ref a5, .ref a6, .ref a7, .ref a8, .ref a9, .int (nI nS), .ref a10, .int (nI nM), .ref a11]] hz0)) (va_Qi (fun v _ => v = 0) (AT D (va_A [oO mo 6 [.int th, .ref a1, .int (nI nC), .ref a2, .ref a3, .ref a4, .ref a5, .ref a6, .ref a7, .ref a8, .ref a9, .int (nI nS), .ref a10, .int (nI nM), .ref a11]] hz0) (fun _ : Unit => [oO mo 6 [.int 1, .ref a1, .int (nI nC), .ref a2, .ref a3, .ref a4, .ref a5, .ref a6, .ref a7, .ref a8, .ref a9, .int (nI nS), .ref a10, .int (nI nM), .ref a11]])) (va_A [oO mo 6 [.int th, .ref a1, .int (nI nC), .ref a2, .ref a3, .ref a4, .ref a5, .ref a6, .ref a7, .ref a8, .ref a9, .int (nI nS), .ref a10, .int (nI nM), .ref a11]] hz0)) 0 0 (va_A [oO mo 6 [.int th, .ref a1, .int (nI nC), .ref a2, .ref a3, .ref a4, .ref a5, .ref a6, .ref a7, .ref a8, .ref a9, .int (nI nS), .ref a10, .int (nI nM), .ref a11]] hz0) := by
  refine Met.ofW (cc := cX6_key) (maxL := 10) (ret := (some .int)) (by decide) rfl ?_
  intro p e s m args below meth c s₁ B hml hv
  obtain ⟨rfl, hsz, hG, hP, hD0⟩ := hv
  have hx := B.exec
  have hb := B.bytes
  have hr := B.returns
  have hts : ∀ w ∈ wsL_law, w.before _ s = true := fun w h => atoms_spec (ws := (ws_ yX6_key cX6_key 10 (some .int))) B.pre w (List.mem_cons_of_mem _ h)
  have hown : s.vm.findClass RX6 = some m.cls := findClass_of_methodNamed B.named
  have hlk := B.notSynchronized
  have hC : CallFix p m c cX6_key 10 s _ wsL_law RX6 := ⟨hx, hb, hml, hown, hts⟩
  subst hsz
  have hD := hD0.self (sz := s.heap.size)
  generalize hAe : va_A [oO mo 6 [.int th, .ref a1, .int (nI nC), .ref a2, .ref a3, .ref a4, .ref a5, .ref a6, .ref a7, .ref a8, .ref a9, .int (nI nS), .ref a10, .int (nI nM), .ref a11]] s.heap.size = A at hD ⊢
  have hA : ∀ q : Nat, s.heap.size ≤ q → A q := fun q h => by rw [← hAe]; exact Or.inr h
  have hS : va_S A s.heap s.heap [] := va_S.rf
  obtain ⟨H, hHe⟩ : ∃ H, H = s.heap := ⟨_, rfl⟩
  rw [← hHe] at hP
  have hS : va_S A s.heap H [] := by rw [hHe]; exact hS
  have hl := lv_entry ([.ref mo, .int (nI i), .int y, .int u0, .int v0, .int e0]) (n := 10) (Nat.le_of_ble_eq_true rfl)
  rw [lg_entry_eq]
  generalize (lg_sl ([.ref mo, .int (nI i), .int y, .int u0, .int v0, .int e0]) ++ List.replicate (10 - (lg_sl ([.ref mo, .int (nI i), .int y, .int u0, .int v0, .int e0])).length) Slot.unset).toArray = ls at hl ⊢
  have hl : lv_has ls 10 [(0, .ref mo), (1, .int (nI i)), (2, .int y), (3, .int u0), (4, .int v0), (5, .int e0)] := hl
  rw [← hHe]
  refine lv_aload_n hx hb dX6_key_0 rfl (lv_at hl 0 rfl) ?_
  refine lv_iconst (v := 0) hx hb dX6_key_1 (by decide) ?_
  refine va_put (D := D) (ci := 6) (v := .int 0) (ty := .int) (C := RX6) (T := TX6) (N := 15) hx hb hts inlX6 tyX6 tyX6_ok nmX6 hown hG.K hP hD hS 0 rfl rfl 0 (by decide) (hts _ mF_X6_43) (fun _ h9 => h9) rfl (by decide +kernel) rfl rfl (Nat.le_of_ble_eq_true rfl) dX6_key_2 (fun H locs hP hD hS => ?_)
  have hP : va_P D cls [oO mo 6 [.int 0, .ref a1, .int (nI nC), .ref a2, .ref a3, .ref a4, .ref a5, .ref a6, .ref a7, .ref a8, .ref a9, .int (nI nS), .ref a10, .int (nI nM), .ref a11]] H := hP
  have hD : va_D A [oO mo 6 [.int 0, .ref a1, .int (nI nC), .ref a2, .ref a3, .ref a4, .ref a5, .ref a6, .ref a7, .ref a8, .ref a9, .int (nI nS), .ref a10, .int (nI nM), .ref a11]] := hD
  refine lv_aload_n hx hb dX6_key_5 rfl (lv_at hl 0 rfl) ?_
  refine lv_iload_n hx hb dX6_key_6 rfl (lv_at hl 1 rfl) ?_
  refine lv_iload_n hx hb dX6_key_7 rfl (lv_at hl 2 rfl) ?_
  have hP9 := hP
  refine vp_callSi (pV (rest := []) (qc := (RX6, TX6, 15)) [.int (nI i), .int y] 2 hC (m_isTrack_no2 l D (mo := mo) (i := i) (y := y) (th := 0) (a1 := a1) (nC := nC) (a2 := a2) (a3 := a3) (a4 := a4) (a5 := a5) (a6 := a6) (a7 := a7) (a8 := a8) (a9 := a9) (nS := nS) (a10 := a10) (nM := nM) (a11 := a11) (by omega) (by omega) (hyy)) rfl (hP 0 _ rfl) (gV mM_X6_74 mI_X6_isTrack mS_X6_isTrack mN_X6 mC_X6_isTrack) (by decide +kernel) rfl rfl ⟨Nat.le_of_ble_eq_true rfl, Nat.le_of_ble_eq_true rfl⟩ hG hP9 rfl hl.1 rfl (Nat.le_of_ble_eq_true rfl) dX6_key_8 ⟨Nat.le_of_ble_eq_true rfl, Nat.le_of_ble_eq_true rfl⟩) (fun r8 h8 => ?_)
  obtain rfl : r8 = 0 := h8
  refine lv_if_ne (tgt := 20) hx hb dX6_key_11 (by decide) (fun h9 => (h9 (by decide)).elim) (fun _ => ?_)
  refine lv_aload_n hx hb dX6_key_14 rfl (lv_at hl 0 rfl) ?_
  refine lv_iconst (v := 1) hx hb dX6_key_15 (by decide) ?_
  have hP9 := hP.sub (ws' := [oO mo 6 [.int 0, .ref a1, .int (nI nC), .ref a2, .ref a3, .ref a4, .ref a5, .ref a6, .ref a7, .ref a8, .ref a9, .int (nI nS), .ref a10, .int (nI nM), .ref a11]]) [0] rfl
  have hD9 := (hD.sub (ws' := [oO mo 6 [.int 0, .ref a1, .int (nI nC), .ref a2, .ref a3, .ref a4, .ref a5, .ref a6, .ref a7, .ref a8, .ref a9, .int (nI nS), .ref a10, .int (nI nM), .ref a11]]) [0] (by decide) rfl).weaken (B := fun _ => True) (fun _ _ _ _ => trivial)
  refine ki (wr := []) (rV (rest := []) (qc := (RX6, TX6, 15)) [.int 1] 1 0 0 hC (m_no l D (mo := mo) (x := 1) (th := 0) (a1 := a1) (nC := nC) (a2 := a2) (a3 := a3) (a4 := a4) (a5 := a5) (a6 := a6) (a7 := a7) (a8 := a8) (a9 := a9) (nS := nS) (a10 := a10) (nM := nM) (a11 := a11) (hz0 := H.size) ) rfl (hP 0 _ rfl) (gV mM_X6_66 mI_X6_no mS_X6_no mN_X6 mC_X6_no) (by decide +kernel) rfl rfl ⟨Nat.le_of_ble_eq_true rfl, Nat.le_of_ble_eq_true rfl⟩ hG hP9 hD9 rfl hl.1 rfl (Nat.le_of_ble_eq_true rfl) dX6_key_16 ⟨Nat.le_of_ble_eq_true rfl, Nat.le_of_ble_eq_true rfl⟩) hP hD hS hA [0] [] rfl rfl (by decide) (by decide) (fun r16 u16 H locs h16 hP hD hS hz hfr => ?_)
  have hP : va_P D cls [oO mo 6 [.int 1, .ref a1, .int (nI nC), .ref a2, .ref a3, .ref a4, .ref a5, .ref a6, .ref a7, .ref a8, .ref a9, .int (nI nS), .ref a10, .int (nI nM), .ref a11]] H := hP
  have hD : va_D A [oO mo 6 [.int 1, .ref a1, .int (nI nC), .ref a2, .ref a3, .ref a4, .ref a5, .ref a6, .ref a7, .ref a8, .ref a9, .int (nI nS), .ref a10, .int (nI nM), .ref a11]] := hD
  obtain rfl : r16 = 0 := h16
  refine Wi () hx hb hr hlk ?_ hP hD hS (Nat.le_of_ble_eq_true rfl) (by first | exact Nat.le_of_ble_eq_true rfl | exact Nat.le_of_eq (Nat.zero_add _)) dX6_key_19
  exact rfl
set_option maxHeartbeats 400000 in
set_option maxRecDepth 100000 in
theorem m_key_2 (l : Launch) (D : va_G) {mo a1 a2 a3 a4 a5 a6 a7 a8 a9 a10 a11 nC nS nM : Nat} {th : Int32} {ln : Nat → Int32} {i j : Nat} {u0 v0 e0 : Int32} (hz0 : Nat) (hn : nC ≤ 6) (hi : i < nC) (hj : j < 4) (h : ¬ ((0 ≤ u0 ∧ u0 ≤ ln i) ∧ ((-10000 : Int32) ≤ v0 ∧ v0 ≤ 10000) ∧ ((0 : Int32) ≤ e0 ∧ e0 ≤ 4))) : Met l yX6_key (ws_ yX6_key cX6_key 10 (some .int)) ({ frames := 3, cells := 0, slots := 0, locals := 65 } : Room) (va_Pc [.ref mo, .int (nI i), .int (nI j), .int u0, .int v0, .int e0] (SW D [oO mo 6 [.int th, .ref a1, .int (nI nC), .ref a2, .ref a3, .ref a4, .ref a5, .ref a6, .ref a7, .ref a8, .ref a9, .int (nI nS), .ref a10, .int (nI nM), .ref a11], aI D a2 6 ln] hz0)) (va_Qi (fun v _ => v = 0) (AT D (va_A [oO mo 6 [.int th, .ref a1, .int (nI nC), .ref a2, .ref a3, .ref a4, .ref a5, .ref a6, .ref a7, .ref a8, .ref a9, .int (nI nS), .ref a10, .int (nI nM), .ref a11], aI D a2 6 ln] hz0) (fun _ : Unit => [oO mo 6 [.int 2, .ref a1, .int (nI nC), .ref a2, .ref a3, .ref a4, .ref a5, .ref a6, .ref a7, .ref a8, .ref a9, .int (nI nS), .ref a10, .int (nI nM), .ref a11], aI D a2 6 ln])) (va_A [oO mo 6 [.int th, .ref a1, .int (nI nC), .ref a2, .ref a3, .ref a4, .ref a5, .ref a6, .ref a7, .ref a8, .ref a9, .int (nI nS), .ref a10, .int (nI nM), .ref a11], aI D a2 6 ln] hz0)) 0 0 (va_A [oO mo 6 [.int th, .ref a1, .int (nI nC), .ref a2, .ref a3, .ref a4, .ref a5, .ref a6, .ref a7, .ref a8, .ref a9, .int (nI nS), .ref a10, .int (nI nM), .ref a11], aI D a2 6 ln] hz0) := by
  refine Met.ofW (cc := cX6_key) (maxL := 10) (ret := (some .int)) (by decide) rfl ?_
  intro p e s m args below meth c s₁ B hml hv
  obtain ⟨rfl, hsz, hG, hP, hD0⟩ := hv
  have hx := B.exec
  have hb := B.bytes
  have hr := B.returns
  have hts : ∀ w ∈ wsL_law, w.before _ s = true := fun w h => atoms_spec (ws := (ws_ yX6_key cX6_key 10 (some .int))) B.pre w (List.mem_cons_of_mem _ h)
  have hown : s.vm.findClass RX6 = some m.cls := findClass_of_methodNamed B.named
  have hlk := B.notSynchronized
  have hC : CallFix p m c cX6_key 10 s _ wsL_law RX6 := ⟨hx, hb, hml, hown, hts⟩
  subst hsz
  have hD := hD0.self (sz := s.heap.size)
  generalize hAe : va_A [oO mo 6 [.int th, .ref a1, .int (nI nC), .ref a2, .ref a3, .ref a4, .ref a5, .ref a6, .ref a7, .ref a8, .ref a9, .int (nI nS), .ref a10, .int (nI nM), .ref a11], aI D a2 6 ln] s.heap.size = A at hD ⊢
  have hA : ∀ q : Nat, s.heap.size ≤ q → A q := fun q h => by rw [← hAe]; exact Or.inr h
  have hS : va_S A s.heap s.heap [] := va_S.rf
  obtain ⟨H, hHe⟩ : ∃ H, H = s.heap := ⟨_, rfl⟩
  rw [← hHe] at hP
  have hS : va_S A s.heap H [] := by rw [hHe]; exact hS
  have hl := lv_entry ([.ref mo, .int (nI i), .int (nI j), .int u0, .int v0, .int e0]) (n := 10) (Nat.le_of_ble_eq_true rfl)
  rw [lg_entry_eq]
  generalize (lg_sl ([.ref mo, .int (nI i), .int (nI j), .int u0, .int v0, .int e0]) ++ List.replicate (10 - (lg_sl ([.ref mo, .int (nI i), .int (nI j), .int u0, .int v0, .int e0])).length) Slot.unset).toArray = ls at hl ⊢
  have hl : lv_has ls 10 [(0, .ref mo), (1, .int (nI i)), (2, .int (nI j)), (3, .int u0), (4, .int v0), (5, .int e0)] := hl
  rw [← hHe]
  refine lv_aload_n hx hb dX6_key_0 rfl (lv_at hl 0 rfl) ?_
  refine lv_iconst (v := 0) hx hb dX6_key_1 (by decide) ?_
  refine va_put (D := D) (ci := 6) (v := .int 0) (ty := .int) (C := RX6) (T := TX6) (N := 15) hx hb hts inlX6 tyX6 tyX6_ok nmX6 hown hG.K hP hD hS 0 rfl rfl 0 (by decide) (hts _ mF_X6_43) (fun _ h9 => h9) rfl (by decide +kernel) rfl rfl (Nat.le_of_ble_eq_true rfl) dX6_key_2 (fun H locs hP hD hS => ?_)
  have hP : va_P D cls [oO mo 6 [.int 0, .ref a1, .int (nI nC), .ref a2, .ref a3, .ref a4, .ref a5, .ref a6, .ref a7, .ref a8, .ref a9, .int (nI nS), .ref a10, .int (nI nM), .ref a11], aI D a2 6 ln] H := hP
  have hD : va_D A [oO mo 6 [.int 0, .ref a1, .int (nI nC), .ref a2, .ref a3, .ref a4, .ref a5, .ref a6, .ref a7, .ref a8, .ref a9, .int (nI nS), .ref a10, .int (nI nM), .ref a11], aI D a2 6 ln] := hD
  refine lv_aload_n hx hb dX6_key_5 rfl (lv_at hl 0 rfl) ?_
  refine lv_iload_n hx hb dX6_key_6 rfl (lv_at hl 1 rfl) ?_
  refine lv_iload_n hx hb dX6_key_7 rfl (lv_at hl 2 rfl) ?_
  have hP9 := hP.sub (ws' := [oO mo 6 [.int 0, .ref a1, .int (nI nC), .ref a2, .ref a3, .ref a4, .ref a5, .ref a6, .ref a7, .ref a8, .ref a9, .int (nI nS), .ref a10, .int (nI nM), .ref a11]]) [0] rfl
  refine vp_callSi (pV (rest := []) (qc := (RX6, TX6, 15)) [.int (nI i), .int (nI j)] 2 hC (m_isTrack l D (mo := mo) (i := i) (j := j) (th := 0) (a1 := a1) (nC := nC) (a2 := a2) (a3 := a3) (a4 := a4) (a5 := a5) (a6 := a6) (a7 := a7) (a8 := a8) (a9 := a9) (nS := nS) (a10 := a10) (nM := nM) (a11 := a11) (by omega) (by omega) (by omega)) rfl (hP 0 _ rfl) (gV mM_X6_74 mI_X6_isTrack mS_X6_isTrack mN_X6 mC_X6_isTrack) (by decide +kernel) rfl rfl ⟨Nat.le_of_ble_eq_true rfl, Nat.le_of_ble_eq_true rfl⟩ hG hP9 rfl hl.1 rfl (Nat.le_of_ble_eq_true rfl) dX6_key_8 ⟨Nat.le_of_ble_eq_true rfl, Nat.le_of_ble_eq_true rfl⟩) (fun r8 h8 => ?_)
  obtain rfl : r8 = 1 := h8
  refine lv_if_ne (tgt := 20) hx hb dX6_key_11 (by decide) (fun _ => ?_) (fun h9 => absurd h9 (by decide))
  refine lv_iload_n hx hb dX6_key_20 rfl (lv_at hl 3 rfl) ?_
  refine lv_iconst (v := 0) hx hb dX6_key_21 (by decide) ?_
  refine lv_aload_n hx hb dX6_key_22 rfl (lv_at hl 0 rfl) ?_
  refine va_get (D := D) (ci := 6) (v := .ref a2) (C := RX6) (T := TX6) (N := 15) hx hb hts inlX6 hown hG.K hP 0 rfl rfl 3 (by decide) (hts _ mF_X6_13) (fun _ h9 => h9) rfl dX6_key_23 ?_
  refine lv_iload_n hx hb dX6_key_26 rfl (lv_at hl 1 rfl) ?_
  refine ild (n := 6) (j := i) hx hb hG hP 1 rfl (by omega) (by omega) dX6_key_27 ?_
  have hP9 : va_P D cls [] H := fun k q h => by simp at h
  refine vp_callSi (pS (rest := []) [.int u0, .int 0, .int (ln i)] 3 hC (m_isIn l D (x := u0) (a := 0) (b := ln i) ) (gS mM_X6_50 mT_X6_isIn mN_X6 mC_X6_isIn) (by decide +kernel) rfl rfl ⟨Nat.le_of_ble_eq_true rfl, Nat.le_of_ble_eq_true rfl⟩ hG hP9 rfl hl.1 rfl (Nat.le_of_ble_eq_true rfl) dX6_key_28 ⟨Nat.le_of_ble_eq_true rfl, Nat.le_of_ble_eq_true rfl⟩) (fun r28 h28 => ?_)
  rcases h28 with ⟨rfl, hb28⟩ | ⟨rfl, hb28⟩
  · skip
    refine lv_if_eq (tgt := 58) hx hb dX6_key_31 (by decide) (fun h9 => absurd h9 (by decide)) (fun _ => ?_)
    refine lv_iload hx hb dX6_key_34 (lv_at hl 4 rfl) ?_
    refine lv_sipush (v := -10000) hx hb dX6_key_36 (by decide) ?_
    refine lv_sipush (v := 10000) hx hb dX6_key_39 (by decide) ?_
    have hP9 : va_P D cls [] H := fun k q h => by simp at h
    refine vp_callSi (pS (rest := []) [.int v0, .int (-10000), .int 10000] 3 hC (m_isIn l D (x := v0) (a := -10000) (b := 10000) ) (gS mM_X6_50 mT_X6_isIn mN_X6 mC_X6_isIn) (by decide +kernel) rfl rfl ⟨Nat.le_of_ble_eq_true rfl, Nat.le_of_ble_eq_true rfl⟩ hG hP9 rfl hl.1 rfl (Nat.le_of_ble_eq_true rfl) dX6_key_42 ⟨Nat.le_of_ble_eq_true rfl, Nat.le_of_ble_eq_true rfl⟩) (fun r42 h42 => ?_)
    rcases h42 with ⟨rfl, hb42⟩ | ⟨rfl, hb42⟩
    · skip
      refine lv_if_eq (tgt := 58) hx hb dX6_key_45 (by decide) (fun h9 => absurd h9 (by decide)) (fun _ => ?_)
      refine lv_iload hx hb dX6_key_48 (lv_at hl 5 rfl) ?_
      refine lv_iconst (v := 0) hx hb dX6_key_50 (by decide) ?_
      refine lv_iconst (v := 4) hx hb dX6_key_51 (by decide) ?_
      have hP9 : va_P D cls [] H := fun k q h => by simp at h
      refine vp_callSi (pS (rest := []) [.int e0, .int 0, .int 4] 3 hC (m_isIn l D (x := e0) (a := 0) (b := 4) ) (gS mM_X6_50 mT_X6_isIn mN_X6 mC_X6_isIn) (by decide +kernel) rfl rfl ⟨Nat.le_of_ble_eq_true rfl, Nat.le_of_ble_eq_true rfl⟩ hG hP9 rfl hl.1 rfl (Nat.le_of_ble_eq_true rfl) dX6_key_52 ⟨Nat.le_of_ble_eq_true rfl, Nat.le_of_ble_eq_true rfl⟩) (fun r52 h52 => ?_)
      rcases h52 with ⟨rfl, hb52⟩ | ⟨rfl, hb52⟩
      · exact absurd hb52 (fun h9 => h ⟨hb28, hb42, h9⟩)
      refine lv_if_ne (tgt := 64) hx hb dX6_key_55 (by decide) (fun h9 => (h9 (by decide)).elim) (fun _ => ?_)
      refine lv_aload_n hx hb dX6_key_58 rfl (lv_at hl 0 rfl) ?_
      refine lv_iconst (v := 2) hx hb dX6_key_59 (by decide) ?_
      have hP9 := hP.sub (ws' := [oO mo 6 [.int 0, .ref a1, .int (nI nC), .ref a2, .ref a3, .ref a4, .ref a5, .ref a6, .ref a7, .ref a8, .ref a9, .int (nI nS), .ref a10, .int (nI nM), .ref a11]]) [0] rfl
      have hD9 := (hD.sub (ws' := [oO mo 6 [.int 0, .ref a1, .int (nI nC), .ref a2, .ref a3, .ref a4, .ref a5, .ref a6, .ref a7, .ref a8, .ref a9, .int (nI nS), .ref a10, .int (nI nM), .ref a11]]) [0] (by decide) rfl).weaken (B := fun _ => True) (fun _ _ _ _ => trivial)
      refine ki (wr := [aI D a2 6 ln]) (rV (rest := []) (qc := (RX6, TX6, 15)) [.int 2] 1 0 0 hC (m_no l D (mo := mo) (x := 2) (th := 0) (a1 := a1) (nC := nC) (a2 := a2) (a3 := a3) (a4 := a4) (a5 := a5) (a6 := a6) (a7 := a7) (a8 := a8) (a9 := a9) (nS := nS) (a10 := a10) (nM := nM) (a11 := a11) (hz0 := H.size) ) rfl (hP 0 _ rfl) (gV mM_X6_66 mI_X6_no mS_X6_no mN_X6 mC_X6_no) (by decide +kernel) rfl rfl ⟨Nat.le_of_ble_eq_true rfl, Nat.le_of_ble_eq_true rfl⟩ hG hP9 hD9 rfl hl.1 rfl (Nat.le_of_ble_eq_true rfl) dX6_key_60 ⟨Nat.le_of_ble_eq_true rfl, Nat.le_of_ble_eq_true rfl⟩) hP hD hS hA [0] [1] rfl rfl (by decide) (by decide) (fun r60 u60 H locs h60 hP hD hS hz hfr => ?_)
      have hP : va_P D cls [aI D a2 6 ln, oO mo 6 [.int 2, .ref a1, .int (nI nC), .ref a2, .ref a3, .ref a4, .ref a5, .ref a6, .ref a7, .ref a8, .ref a9, .int (nI nS), .ref a10, .int (nI nM), .ref a11]] H := hP
      have hD : va_D A [aI D a2 6 ln, oO mo 6 [.int 2, .ref a1, .int (nI nC), .ref a2, .ref a3, .ref a4, .ref a5, .ref a6, .ref a7, .ref a8, .ref a9, .int (nI nS), .ref a10, .int (nI nM), .ref a11]] := hD
      obtain rfl : r60 = 0 := h60
      refine Wi () hx hb hr hlk ?_ (hP.sub [1, 0] rfl) (hD.sub [1, 0] (by decide) rfl) hS (Nat.le_of_ble_eq_true rfl) (by first | exact Nat.le_of_ble_eq_true rfl | exact Nat.le_of_eq (Nat.zero_add _)) dX6_key_63
      exact rfl
    · skip
      refine lv_if_eq (tgt := 58) hx hb dX6_key_45 (by decide) (fun _ => ?_) (fun h9 => (h9 (by decide)).elim)
      refine lv_aload_n hx hb dX6_key_58 rfl (lv_at hl 0 rfl) ?_
      refine lv_iconst (v := 2) hx hb dX6_key_59 (by decide) ?_
      have hP9 := hP.sub (ws' := [oO mo 6 [.int 0, .ref a1, .int (nI nC), .ref a2, .ref a3, .ref a4, .ref a5, .ref a6, .ref a7, .ref a8, .ref a9, .int (nI nS), .ref a10, .int (nI nM), .ref a11]]) [0] rfl
      have hD9 := (hD.sub (ws' := [oO mo 6 [.int 0, .ref a1, .int (nI nC), .ref a2, .ref a3, .ref a4, .ref a5, .ref a6, .ref a7, .ref a8, .ref a9, .int (nI nS), .ref a10, .int (nI nM), .ref a11]]) [0] (by decide) rfl).weaken (B := fun _ => True) (fun _ _ _ _ => trivial)
      refine ki (wr := [aI D a2 6 ln]) (rV (rest := []) (qc := (RX6, TX6, 15)) [.int 2] 1 0 0 hC (m_no l D (mo := mo) (x := 2) (th := 0) (a1 := a1) (nC := nC) (a2 := a2) (a3 := a3) (a4 := a4) (a5 := a5) (a6 := a6) (a7 := a7) (a8 := a8) (a9 := a9) (nS := nS) (a10 := a10) (nM := nM) (a11 := a11) (hz0 := H.size) ) rfl (hP 0 _ rfl) (gV mM_X6_66 mI_X6_no mS_X6_no mN_X6 mC_X6_no) (by decide +kernel) rfl rfl ⟨Nat.le_of_ble_eq_true rfl, Nat.le_of_ble_eq_true rfl⟩ hG hP9 hD9 rfl hl.1 rfl (Nat.le_of_ble_eq_true rfl) dX6_key_60 ⟨Nat.le_of_ble_eq_true rfl, Nat.le_of_ble_eq_true rfl⟩) hP hD hS hA [0] [1] rfl rfl (by decide) (by decide) (fun r60 u60 H locs h60 hP hD hS hz hfr => ?_)
      have hP : va_P D cls [aI D a2 6 ln, oO mo 6 [.int 2, .ref a1, .int (nI nC), .ref a2, .ref a3, .ref a4, .ref a5, .ref a6, .ref a7, .ref a8, .ref a9, .int (nI nS), .ref a10, .int (nI nM), .ref a11]] H := hP
      have hD : va_D A [aI D a2 6 ln, oO mo 6 [.int 2, .ref a1, .int (nI nC), .ref a2, .ref a3, .ref a4, .ref a5, .ref a6, .ref a7, .ref a8, .ref a9, .int (nI nS), .ref a10, .int (nI nM), .ref a11]] := hD
      obtain rfl : r60 = 0 := h60
      refine Wi () hx hb hr hlk ?_ (hP.sub [1, 0] rfl) (hD.sub [1, 0] (by decide) rfl) hS (Nat.le_of_ble_eq_true rfl) (by first | exact Nat.le_of_ble_eq_true rfl | exact Nat.le_of_eq (Nat.zero_add _)) dX6_key_63
      exact rfl
  · skip
    refine lv_if_eq (tgt := 58) hx hb dX6_key_31 (by decide) (fun _ => ?_) (fun h9 => (h9 (by decide)).elim)
    refine lv_aload_n hx hb dX6_key_58 rfl (lv_at hl 0 rfl) ?_
    refine lv_iconst (v := 2) hx hb dX6_key_59 (by decide) ?_
    have hP9 := hP.sub (ws' := [oO mo 6 [.int 0, .ref a1, .int (nI nC), .ref a2, .ref a3, .ref a4, .ref a5, .ref a6, .ref a7, .ref a8, .ref a9, .int (nI nS), .ref a10, .int (nI nM), .ref a11]]) [0] rfl
    have hD9 := (hD.sub (ws' := [oO mo 6 [.int 0, .ref a1, .int (nI nC), .ref a2, .ref a3, .ref a4, .ref a5, .ref a6, .ref a7, .ref a8, .ref a9, .int (nI nS), .ref a10, .int (nI nM), .ref a11]]) [0] (by decide) rfl).weaken (B := fun _ => True) (fun _ _ _ _ => trivial)
    refine ki (wr := [aI D a2 6 ln]) (rV (rest := []) (qc := (RX6, TX6, 15)) [.int 2] 1 0 0 hC (m_no l D (mo := mo) (x := 2) (th := 0) (a1 := a1) (nC := nC) (a2 := a2) (a3 := a3) (a4 := a4) (a5 := a5) (a6 := a6) (a7 := a7) (a8 := a8) (a9 := a9) (nS := nS) (a10 := a10) (nM := nM) (a11 := a11) (hz0 := H.size) ) rfl (hP 0 _ rfl) (gV mM_X6_66 mI_X6_no mS_X6_no mN_X6 mC_X6_no) (by decide +kernel) rfl rfl ⟨Nat.le_of_ble_eq_true rfl, Nat.le_of_ble_eq_true rfl⟩ hG hP9 hD9 rfl hl.1 rfl (Nat.le_of_ble_eq_true rfl) dX6_key_60 ⟨Nat.le_of_ble_eq_true rfl, Nat.le_of_ble_eq_true rfl⟩) hP hD hS hA [0] [1] rfl rfl (by decide) (by decide) (fun r60 u60 H locs h60 hP hD hS hz hfr => ?_)
    have hP : va_P D cls [aI D a2 6 ln, oO mo 6 [.int 2, .ref a1, .int (nI nC), .ref a2, .ref a3, .ref a4, .ref a5, .ref a6, .ref a7, .ref a8, .ref a9, .int (nI nS), .ref a10, .int (nI nM), .ref a11]] H := hP
    have hD : va_D A [aI D a2 6 ln, oO mo 6 [.int 2, .ref a1, .int (nI nC), .ref a2, .ref a3, .ref a4, .ref a5, .ref a6, .ref a7, .ref a8, .ref a9, .int (nI nS), .ref a10, .int (nI nM), .ref a11]] := hD
    obtain rfl : r60 = 0 := h60
    refine Wi () hx hb hr hlk ?_ (hP.sub [1, 0] rfl) (hD.sub [1, 0] (by decide) rfl) hS (Nat.le_of_ble_eq_true rfl) (by first | exact Nat.le_of_ble_eq_true rfl | exact Nat.le_of_eq (Nat.zero_add _)) dX6_key_63
    exact rfl
set_option maxHeartbeats 400000 in
set_option maxRecDepth 100000 in
theorem m_key_3 (l : Launch) (D : va_G) {mo a1 a2 a3 a4 a5 a6 a7 a8 a9 a10 a11 nC nS nM : Nat} {th : Int32} {ln ks tm wo ea : Nat → Int32} {i j : Nat} {n d : Nat} {u0 v0 e0 : Int32} (hz0 : Nat) (hn : nC ≤ 6) (hi : i < nC) (hj : j < 4) (h : (0 ≤ u0 ∧ u0 ≤ ln i) ∧ ((-10000 : Int32) ≤ v0 ∧ v0 ≤ 10000) ∧ ((0 : Int32) ≤ e0 ∧ e0 ≤ 4)) (hks : ks (4 * i + j) = nI n) (h16 : n = 16) (hni : ¬ (d < n ∧ tm (16 * (4 * i + j) + d) = u0)) (ha : d ≤ n) (hlt : ∀ k, k < d → tm (16 * (4 * i + j) + k) < u0) (hge : d < n → ¬ tm (16 * (4 * i + j) + d) < u0) : Met l yX6_key (ws_ yX6_key cX6_key 10 (some .int)) ({ frames := 3, cells := 0, slots := 0, locals := 65 } : Room) (va_Pc [.ref mo, .int (nI i), .int (nI j), .int u0, .int v0, .int e0] (SW D [oO mo 6 [.int th, .ref a1, .int (nI nC), .ref a2, .ref a3, .ref a4, .ref a5, .ref a6, .ref a7, .ref a8, .ref a9, .int (nI nS), .ref a10, .int (nI nM), .ref a11], aI D a2 6 ln, aI D a3 24 ks, aI D a4 384 tm, aI D a5 384 wo, aI D a6 384 ea] hz0)) (va_Qi (fun v _ => v = 0) (AT D (va_A [oO mo 6 [.int th, .ref a1, .int (nI nC), .ref a2, .ref a3, .ref a4, .ref a5, .ref a6, .ref a7, .ref a8, .ref a9, .int (nI nS), .ref a10, .int (nI nM), .ref a11], aI D a2 6 ln, aI D a3 24 ks, aI D a4 384 tm, aI D a5 384 wo, aI D a6 384 ea] hz0) (fun _ : Unit => [oO mo 6 [.int 3, .ref a1, .int (nI nC), .ref a2, .ref a3, .ref a4, .ref a5, .ref a6, .ref a7, .ref a8, .ref a9, .int (nI nS), .ref a10, .int (nI nM), .ref a11], aI D a2 6 ln, aI D a3 24 ks, aI D a4 384 tm, aI D a5 384 wo, aI D a6 384 ea])) (va_A [oO mo 6 [.int th, .ref a1, .int (nI nC), .ref a2, .ref a3, .ref a4, .ref a5, .ref a6, .ref a7, .ref a8, .ref a9, .int (nI nS), .ref a10, .int (nI nM), .ref a11], aI D a2 6 ln, aI D a3 24 ks, aI D a4 384 tm, aI D a5 384 wo, aI D a6 384 ea] hz0)) 0 0 (va_A [oO mo 6 [.int th, .ref a1, .int (nI nC), .ref a2, .ref a3, .ref a4, .ref a5, .ref a6, .ref a7, .ref a8, .ref a9, .int (nI nS), .ref a10, .int (nI nM), .ref a11], aI D a2 6 ln, aI D a3 24 ks, aI D a4 384 tm, aI D a5 384 wo, aI D a6 384 ea] hz0) := by
  refine Met.ofW (cc := cX6_key) (maxL := 10) (ret := (some .int)) (by decide) rfl ?_
  intro p e s m args below meth c s₁ B hml hv
  obtain ⟨rfl, hsz, hG, hP, hD0⟩ := hv
  have hx := B.exec
  have hb := B.bytes
  have hr := B.returns
  have hts : ∀ w ∈ wsL_law, w.before _ s = true := fun w h => atoms_spec (ws := (ws_ yX6_key cX6_key 10 (some .int))) B.pre w (List.mem_cons_of_mem _ h)
  have hown : s.vm.findClass RX6 = some m.cls := findClass_of_methodNamed B.named
  have hlk := B.notSynchronized
  have hC : CallFix p m c cX6_key 10 s _ wsL_law RX6 := ⟨hx, hb, hml, hown, hts⟩
  subst hsz
  have hD := hD0.self (sz := s.heap.size)
  generalize hAe : va_A [oO mo 6 [.int th, .ref a1, .int (nI nC), .ref a2, .ref a3, .ref a4, .ref a5, .ref a6, .ref a7, .ref a8, .ref a9, .int (nI nS), .ref a10, .int (nI nM), .ref a11], aI D a2 6 ln, aI D a3 24 ks, aI D a4 384 tm, aI D a5 384 wo, aI D a6 384 ea] s.heap.size = A at hD ⊢
  have hA : ∀ q : Nat, s.heap.size ≤ q → A q := fun q h => by rw [← hAe]; exact Or.inr h
  have hS : va_S A s.heap s.heap [] := va_S.rf
  obtain ⟨H, hHe⟩ : ∃ H, H = s.heap := ⟨_, rfl⟩
  rw [← hHe] at hP
  have hS : va_S A s.heap H [] := by rw [hHe]; exact hS
  have hl := lv_entry ([.ref mo, .int (nI i), .int (nI j), .int u0, .int v0, .int e0]) (n := 10) (Nat.le_of_ble_eq_true rfl)
  rw [lg_entry_eq]
  generalize (lg_sl ([.ref mo, .int (nI i), .int (nI j), .int u0, .int v0, .int e0]) ++ List.replicate (10 - (lg_sl ([.ref mo, .int (nI i), .int (nI j), .int u0, .int v0, .int e0])).length) Slot.unset).toArray = ls at hl ⊢
  have hl : lv_has ls 10 [(0, .ref mo), (1, .int (nI i)), (2, .int (nI j)), (3, .int u0), (4, .int v0), (5, .int e0)] := hl
  rw [← hHe]
  refine lv_aload_n hx hb dX6_key_0 rfl (lv_at hl 0 rfl) ?_
  refine lv_iconst (v := 0) hx hb dX6_key_1 (by decide) ?_
  refine va_put (D := D) (ci := 6) (v := .int 0) (ty := .int) (C := RX6) (T := TX6) (N := 15) hx hb hts inlX6 tyX6 tyX6_ok nmX6 hown hG.K hP hD hS 0 rfl rfl 0 (by decide) (hts _ mF_X6_43) (fun _ h9 => h9) rfl (by decide +kernel) rfl rfl (Nat.le_of_ble_eq_true rfl) dX6_key_2 (fun H locs hP hD hS => ?_)
  have hP : va_P D cls [oO mo 6 [.int 0, .ref a1, .int (nI nC), .ref a2, .ref a3, .ref a4, .ref a5, .ref a6, .ref a7, .ref a8, .ref a9, .int (nI nS), .ref a10, .int (nI nM), .ref a11], aI D a2 6 ln, aI D a3 24 ks, aI D a4 384 tm, aI D a5 384 wo, aI D a6 384 ea] H := hP
  have hD : va_D A [oO mo 6 [.int 0, .ref a1, .int (nI nC), .ref a2, .ref a3, .ref a4, .ref a5, .ref a6, .ref a7, .ref a8, .ref a9, .int (nI nS), .ref a10, .int (nI nM), .ref a11], aI D a2 6 ln, aI D a3 24 ks, aI D a4 384 tm, aI D a5 384 wo, aI D a6 384 ea] := hD
  refine lv_aload_n hx hb dX6_key_5 rfl (lv_at hl 0 rfl) ?_
  refine lv_iload_n hx hb dX6_key_6 rfl (lv_at hl 1 rfl) ?_
  refine lv_iload_n hx hb dX6_key_7 rfl (lv_at hl 2 rfl) ?_
  have hP9 := hP.sub (ws' := [oO mo 6 [.int 0, .ref a1, .int (nI nC), .ref a2, .ref a3, .ref a4, .ref a5, .ref a6, .ref a7, .ref a8, .ref a9, .int (nI nS), .ref a10, .int (nI nM), .ref a11]]) [0] rfl
  refine vp_callSi (pV (rest := []) (qc := (RX6, TX6, 15)) [.int (nI i), .int (nI j)] 2 hC (m_isTrack l D (mo := mo) (i := i) (j := j) (th := 0) (a1 := a1) (nC := nC) (a2 := a2) (a3 := a3) (a4 := a4) (a5 := a5) (a6 := a6) (a7 := a7) (a8 := a8) (a9 := a9) (nS := nS) (a10 := a10) (nM := nM) (a11 := a11) (by omega) (by omega) (by omega)) rfl (hP 0 _ rfl) (gV mM_X6_74 mI_X6_isTrack mS_X6_isTrack mN_X6 mC_X6_isTrack) (by decide +kernel) rfl rfl ⟨Nat.le_of_ble_eq_true rfl, Nat.le_of_ble_eq_true rfl⟩ hG hP9 rfl hl.1 rfl (Nat.le_of_ble_eq_true rfl) dX6_key_8 ⟨Nat.le_of_ble_eq_true rfl, Nat.le_of_ble_eq_true rfl⟩) (fun r8 h8 => ?_)
  obtain rfl : r8 = 1 := h8
  refine lv_if_ne (tgt := 20) hx hb dX6_key_11 (by decide) (fun _ => ?_) (fun h9 => absurd h9 (by decide))
  refine lv_iload_n hx hb dX6_key_20 rfl (lv_at hl 3 rfl) ?_
  refine lv_iconst (v := 0) hx hb dX6_key_21 (by decide) ?_
  refine lv_aload_n hx hb dX6_key_22 rfl (lv_at hl 0 rfl) ?_
  refine va_get (D := D) (ci := 6) (v := .ref a2) (C := RX6) (T := TX6) (N := 15) hx hb hts inlX6 hown hG.K hP 0 rfl rfl 3 (by decide) (hts _ mF_X6_13) (fun _ h9 => h9) rfl dX6_key_23 ?_
  refine lv_iload_n hx hb dX6_key_26 rfl (lv_at hl 1 rfl) ?_
  refine ild (n := 6) (j := i) hx hb hG hP 1 rfl (by omega) (by omega) dX6_key_27 ?_
  have hP9 : va_P D cls [] H := fun k q h => by simp at h
  refine vp_callSi (pS (rest := []) [.int u0, .int 0, .int (ln i)] 3 hC (m_isIn l D (x := u0) (a := 0) (b := ln i) ) (gS mM_X6_50 mT_X6_isIn mN_X6 mC_X6_isIn) (by decide +kernel) rfl rfl ⟨Nat.le_of_ble_eq_true rfl, Nat.le_of_ble_eq_true rfl⟩ hG hP9 rfl hl.1 rfl (Nat.le_of_ble_eq_true rfl) dX6_key_28 ⟨Nat.le_of_ble_eq_true rfl, Nat.le_of_ble_eq_true rfl⟩) (fun r28 h28 => ?_)
  rcases h28 with ⟨rfl, hb28⟩ | ⟨rfl, hb28⟩
  rotate_left
  · exact absurd (h.1) hb28
  refine lv_if_eq (tgt := 58) hx hb dX6_key_31 (by decide) (fun h9 => absurd h9 (by decide)) (fun _ => ?_)
  refine lv_iload hx hb dX6_key_34 (lv_at hl 4 rfl) ?_
  refine lv_sipush (v := -10000) hx hb dX6_key_36 (by decide) ?_
  refine lv_sipush (v := 10000) hx hb dX6_key_39 (by decide) ?_
  have hP9 : va_P D cls [] H := fun k q h => by simp at h
  refine vp_callSi (pS (rest := []) [.int v0, .int (-10000), .int 10000] 3 hC (m_isIn l D (x := v0) (a := -10000) (b := 10000) ) (gS mM_X6_50 mT_X6_isIn mN_X6 mC_X6_isIn) (by decide +kernel) rfl rfl ⟨Nat.le_of_ble_eq_true rfl, Nat.le_of_ble_eq_true rfl⟩ hG hP9 rfl hl.1 rfl (Nat.le_of_ble_eq_true rfl) dX6_key_42 ⟨Nat.le_of_ble_eq_true rfl, Nat.le_of_ble_eq_true rfl⟩) (fun r42 h42 => ?_)
  rcases h42 with ⟨rfl, hb42⟩ | ⟨rfl, hb42⟩
  rotate_left
  · exact absurd (h.2.1) hb42
  refine lv_if_eq (tgt := 58) hx hb dX6_key_45 (by decide) (fun h9 => absurd h9 (by decide)) (fun _ => ?_)
  refine lv_iload hx hb dX6_key_48 (lv_at hl 5 rfl) ?_
  refine lv_iconst (v := 0) hx hb dX6_key_50 (by decide) ?_
  refine lv_iconst (v := 4) hx hb dX6_key_51 (by decide) ?_
  have hP9 : va_P D cls [] H := fun k q h => by simp at h
  refine vp_callSi (pS (rest := []) [.int e0, .int 0, .int 4] 3 hC (m_isIn l D (x := e0) (a := 0) (b := 4) ) (gS mM_X6_50 mT_X6_isIn mN_X6 mC_X6_isIn) (by decide +kernel) rfl rfl ⟨Nat.le_of_ble_eq_true rfl, Nat.le_of_ble_eq_true rfl⟩ hG hP9 rfl hl.1 rfl (Nat.le_of_ble_eq_true rfl) dX6_key_52 ⟨Nat.le_of_ble_eq_true rfl, Nat.le_of_ble_eq_true rfl⟩) (fun r52 h52 => ?_)
  rcases h52 with ⟨rfl, hb52⟩ | ⟨rfl, hb52⟩
  rotate_left
  · exact absurd (h.2.2) hb52
  refine lv_if_ne (tgt := 64) hx hb dX6_key_55 (by decide) (fun _ => ?_) (fun h9 => absurd h9 (by decide))
  refine lv_iconst (v := 4) hx hb dX6_key_64 (by decide) ?_
  refine lv_iload_n hx hb dX6_key_65 rfl (lv_at hl 1 rfl) ?_
  refine lv_imul hx hb dX6_key_66 ?_
  refine tpi (y := nI (4 * i)) (pk_mul 4 i) ?_
  refine lv_iload_n hx hb dX6_key_67 rfl (lv_at hl 2 rfl) ?_
  refine lv_iadd hx hb dX6_key_68 ?_
  refine tpi (y := nI ((4 * i) + j)) (nI_add (4 * i) j) ?_
  refine lv_istore (lv' := [(6, .int (nI ((4 * i) + j))), (0, .ref mo), (1, .int (nI i)), (2, .int (nI j)), (3, .int u0), (4, .int v0), (5, .int e0)]) hx hb dX6_key_69 hl (by decide) rfl (fun ls hl => ?_)
  refine lv_iconst (v := 0) hx hb dX6_key_71 (by decide) ?_
  refine lv_istore (lv' := [(7, .int 0), (6, .int (nI ((4 * i) + j))), (0, .ref mo), (1, .int (nI i)), (2, .int (nI j)), (3, .int u0), (4, .int v0), (5, .int e0)]) hx hb dX6_key_72 hl (by decide) rfl (fun ls hl => ?_)
  have loop74 : ∀ (d9 : Nat) (k : Nat), (d + 1 - k) < d9 → (k ≤ d) → ∀ (ls : Array Slot), lv_has ls 10 [(0, .ref mo), (1, .int (nI i)), (2, .int (nI j)), (3, .int u0), (4, .int v0), (5, .int e0), (6, .int (nI (4 * i + j))), (7, .int (nI k))] → W p l e ({ frames := 3, cells := 0, slots := 0, locals := 65 } : Room) s m ([.ref mo, .int (nI i), .int (nI j), .int u0, .int v0, .int e0] : List Value).toArray below meth c H locs 0 0 (MQ below (va_Qi (fun v _ => v = 0) (AT D A (fun _ : Unit => [oO mo 6 [.int 3, .ref a1, .int (nI nC), .ref a2, .ref a3, .ref a4, .ref a5, .ref a6, .ref a7, .ref a8, .ref a9, .int (nI nS), .ref a10, .int (nI nM), .ref a11], aI D a2 6 ln, aI D a3 24 ks, aI D a4 384 tm, aI D a5 384 wo, aI D a6 384 ea])) A) ([.ref mo, .int (nI i), .int (nI j), .int u0, .int v0, .int e0] : List Value).toArray s 0 0 A) (F0 m 74 ls []) := by
    intro d9
    induction d9 with
    | zero => intro k hd; exact absurd hd (Nat.not_lt_zero _)
    | succ d9 ih74 =>
      intro k hd74 hk ls hl
      refine lv_iload hx hb dX6_key_74 (lv_at hl 7 rfl) ?_
      refine lv_aload_n hx hb dX6_key_76 rfl (lv_at hl 0 rfl) ?_
      refine va_get (D := D) (ci := 6) (v := .ref a3) (C := RX6) (T := TX6) (N := 15) hx hb hts inlX6 hown hG.K hP 0 rfl rfl 4 (by decide) (hts _ mF_X6_16) (fun _ h9 => h9) rfl dX6_key_77 ?_
      refine lv_iload hx hb dX6_key_80 (lv_at hl 6 rfl) ?_
      refine ild (n := 24) (j := 4 * i + j) hx hb hG hP 2 rfl (by omega) (by omega) dX6_key_82 ?_
      refine tpi (y := nI n) (hks) ?_
      refine lv_icmp_ge (tgt := 109) hx hb dX6_key_83 (by decide) (fun c83 => ?_) (fun c83 => ?_)
      · skip
        have n83 := (nI_leI (a := n) (b := k) (by omega) (by omega)).mp c83
        have hk9 : k = d := Nat.le_antisymm hk (by omega)
        subst k
        refine lv_iload hx hb dX6_key_109 (lv_at hl 7 rfl) ?_
        refine lv_aload_n hx hb dX6_key_111 rfl (lv_at hl 0 rfl) ?_
        refine va_get (D := D) (ci := 6) (v := .ref a3) (C := RX6) (T := TX6) (N := 15) hx hb hts inlX6 hown hG.K hP 0 rfl rfl 4 (by decide) (hts _ mF_X6_16) (fun _ h9 => h9) rfl dX6_key_112 ?_
        refine lv_iload hx hb dX6_key_115 (lv_at hl 6 rfl) ?_
        refine ild (n := 24) (j := 4 * i + j) hx hb hG hP 2 rfl (by omega) (by omega) dX6_key_117 ?_
        refine tpi (y := nI n) (hks) ?_
        refine lv_icmp_ge (tgt := 142) hx hb dX6_key_118 (by decide) (fun c118 => ?_) (fun c118 => ?_)
        · skip
          have n118 := (nI_leI (a := n) (b := d) (by omega) (by omega)).mp c118
          refine lv_iconst (v := 0) hx hb dX6_key_142 (by decide) ?_
          refine lv_istore (lv' := [(8, .int 0), (0, .ref mo), (1, .int (nI i)), (2, .int (nI j)), (3, .int u0), (4, .int v0), (5, .int e0), (6, .int (nI (4 * i + j))), (7, .int (nI d))]) hx hb dX6_key_143 hl (by decide) rfl (fun ls hl => ?_)
          refine lv_iload hx hb dX6_key_145 (lv_at hl 0 rfl) ?_
          refine lv_if_ne (tgt := 168) hx hb dX6_key_147 (by decide) (fun h9 => (h9 (by decide)).elim) (fun _ => ?_)
          refine lv_aload_n hx hb dX6_key_150 rfl (lv_at hl 1 rfl) ?_
          refine va_get (D := D) (ci := 6) (v := .ref a3) (C := RX6) (T := TX6) (N := 15) hx hb hts inlX6 hown hG.K hP 0 rfl rfl 4 (by decide) (hts _ mF_X6_16) (fun _ h9 => h9) rfl dX6_key_151 ?_
          refine lv_iload hx hb dX6_key_154 (lv_at hl 7 rfl) ?_
          refine ild (n := 24) (j := 4 * i + j) hx hb hG hP 2 rfl (by omega) (by omega) dX6_key_156 ?_
          refine tpi (y := nI n) (hks) ?_
          refine lv_bipush (v := 16) hx hb dX6_key_157 (by decide) ?_
          refine lv_icmp_ne (tgt := 168) hx hb dX6_key_159 (by decide) (fun h9 => absurd ((nI_eq (a := n) (b := 16) (by omega) (by omega)).mpr (by omega)) h9) (fun _ => ?_)
          refine lv_aload_n hx hb dX6_key_162 rfl (lv_at hl 1 rfl) ?_
          refine lv_iconst (v := 3) hx hb dX6_key_163 (by decide) ?_
          have hP9 := hP.sub (ws' := [oO mo 6 [.int 0, .ref a1, .int (nI nC), .ref a2, .ref a3, .ref a4, .ref a5, .ref a6, .ref a7, .ref a8, .ref a9, .int (nI nS), .ref a10, .int (nI nM), .ref a11]]) [0] rfl
          have hD9 := (hD.sub (ws' := [oO mo 6 [.int 0, .ref a1, .int (nI nC), .ref a2, .ref a3, .ref a4, .ref a5, .ref a6, .ref a7, .ref a8, .ref a9, .int (nI nS), .ref a10, .int (nI nM), .ref a11]]) [0] (by decide) rfl).weaken (B := fun _ => True) (fun _ _ _ _ => trivial)
          refine ki (wr := [aI D a2 6 ln, aI D a3 24 ks, aI D a4 384 tm, aI D a5 384 wo, aI D a6 384 ea]) (rV (rest := []) (qc := (RX6, TX6, 15)) [.int 3] 1 0 0 hC (m_no l D (mo := mo) (x := 3) (th := 0) (a1 := a1) (nC := nC) (a2 := a2) (a3 := a3) (a4 := a4) (a5 := a5) (a6 := a6) (a7 := a7) (a8 := a8) (a9 := a9) (nS := nS) (a10 := a10) (nM := nM) (a11 := a11) (hz0 := H.size) ) rfl (hP 0 _ rfl) (gV mM_X6_66 mI_X6_no mS_X6_no mN_X6 mC_X6_no) (by decide +kernel) rfl rfl ⟨Nat.le_of_ble_eq_true rfl, Nat.le_of_ble_eq_true rfl⟩ hG hP9 hD9 rfl hl.1 rfl (Nat.le_of_ble_eq_true rfl) dX6_key_164 ⟨Nat.le_of_ble_eq_true rfl, Nat.le_of_ble_eq_true rfl⟩) hP hD hS hA [0] [1, 2, 3, 4, 5] rfl rfl (by decide) (by decide) (fun r164 u164 H locs h164 hP hD hS hz hfr => ?_)
          have hP : va_P D cls [aI D a2 6 ln, aI D a3 24 ks, aI D a4 384 tm, aI D a5 384 wo, aI D a6 384 ea, oO mo 6 [.int 3, .ref a1, .int (nI nC), .ref a2, .ref a3, .ref a4, .ref a5, .ref a6, .ref a7, .ref a8, .ref a9, .int (nI nS), .ref a10, .int (nI nM), .ref a11]] H := hP
          have hD : va_D A [aI D a2 6 ln, aI D a3 24 ks, aI D a4 384 tm, aI D a5 384 wo, aI D a6 384 ea, oO mo 6 [.int 3, .ref a1, .int (nI nC), .ref a2, .ref a3, .ref a4, .ref a5, .ref a6, .ref a7, .ref a8, .ref a9, .int (nI nS), .ref a10, .int (nI nM), .ref a11]] := hD
          obtain rfl : r164 = 0 := h164
          refine Wi () hx hb hr hlk ?_ (hP.sub [5, 0, 1, 2, 3, 4] rfl) (hD.sub [5, 0, 1, 2, 3, 4] (by decide) rfl) hS (Nat.le_of_ble_eq_true rfl) (by first | exact Nat.le_of_ble_eq_true rfl | exact Nat.le_of_eq (Nat.zero_add _)) dX6_key_167
          exact rfl
        · skip
          have n118 := mt (nI_leI (a := n) (b := d) (by omega) (by omega)).mpr c118
          refine lv_aload_n hx hb dX6_key_121 rfl (lv_at hl 0 rfl) ?_
          refine va_get (D := D) (ci := 6) (v := .ref a4) (C := RX6) (T := TX6) (N := 15) hx hb hts inlX6 hown hG.K hP 0 rfl rfl 5 (by decide) (hts _ mF_X6_19) (fun _ h9 => h9) rfl dX6_key_122 ?_
          refine lv_iload hx hb dX6_key_125 (lv_at hl 6 rfl) ?_
          have hP9 : va_P D cls [] H := fun k q h => by simp at h
          refine vp_callSi (pS (rest := [.ref a4]) [.int (nI (4 * i + j))] 1 hC (m_row l D (j := 4 * i + j) ) (gS mM_X6_78 mT_X6_row mN_X6 mC_X6_row) (by decide +kernel) rfl rfl ⟨Nat.le_of_ble_eq_true rfl, Nat.le_of_ble_eq_true rfl⟩ hG hP9 rfl hl.1 rfl (Nat.le_of_ble_eq_true rfl) dX6_key_127 ⟨Nat.le_of_ble_eq_true rfl, Nat.le_of_ble_eq_true rfl⟩) (fun r127 h127 => ?_)
          obtain rfl : r127 = (nI (16 * (4 * i + j))) := h127
          refine lv_iload hx hb dX6_key_130 (lv_at hl 7 rfl) ?_
          refine lv_iadd hx hb dX6_key_132 ?_
          refine tpi (y := nI ((16 * (4 * i + j)) + d)) (nI_add (16 * (4 * i + j)) d) ?_
          refine ild (n := 384) (j := (16 * (4 * i + j)) + d) hx hb hG hP 3 rfl (by omega) (by omega) dX6_key_133 ?_
          refine lv_iload_n hx hb dX6_key_134 rfl (lv_at hl 3 rfl) ?_
          refine lv_icmp_ne (tgt := 142) hx hb dX6_key_135 (by decide) (fun c135 => ?_) (fun c135 => absurd c135 (fun z => hni ⟨by omega, z⟩))
          refine lv_iconst (v := 0) hx hb dX6_key_142 (by decide) ?_
          refine lv_istore (lv' := [(8, .int 0), (0, .ref mo), (1, .int (nI i)), (2, .int (nI j)), (3, .int u0), (4, .int v0), (5, .int e0), (6, .int (nI (4 * i + j))), (7, .int (nI d))]) hx hb dX6_key_143 hl (by decide) rfl (fun ls hl => ?_)
          refine lv_iload hx hb dX6_key_145 (lv_at hl 0 rfl) ?_
          refine lv_if_ne (tgt := 168) hx hb dX6_key_147 (by decide) (fun h9 => (h9 (by decide)).elim) (fun _ => ?_)
          refine lv_aload_n hx hb dX6_key_150 rfl (lv_at hl 1 rfl) ?_
          refine va_get (D := D) (ci := 6) (v := .ref a3) (C := RX6) (T := TX6) (N := 15) hx hb hts inlX6 hown hG.K hP 0 rfl rfl 4 (by decide) (hts _ mF_X6_16) (fun _ h9 => h9) rfl dX6_key_151 ?_
          refine lv_iload hx hb dX6_key_154 (lv_at hl 7 rfl) ?_
          refine ild (n := 24) (j := 4 * i + j) hx hb hG hP 2 rfl (by omega) (by omega) dX6_key_156 ?_
          refine tpi (y := nI n) (hks) ?_
          refine lv_bipush (v := 16) hx hb dX6_key_157 (by decide) ?_
          refine lv_icmp_ne (tgt := 168) hx hb dX6_key_159 (by decide) (fun h9 => absurd ((nI_eq (a := n) (b := 16) (by omega) (by omega)).mpr (by omega)) h9) (fun _ => ?_)
          refine lv_aload_n hx hb dX6_key_162 rfl (lv_at hl 1 rfl) ?_
          refine lv_iconst (v := 3) hx hb dX6_key_163 (by decide) ?_
          have hP9 := hP.sub (ws' := [oO mo 6 [.int 0, .ref a1, .int (nI nC), .ref a2, .ref a3, .ref a4, .ref a5, .ref a6, .ref a7, .ref a8, .ref a9, .int (nI nS), .ref a10, .int (nI nM), .ref a11]]) [0] rfl
          have hD9 := (hD.sub (ws' := [oO mo 6 [.int 0, .ref a1, .int (nI nC), .ref a2, .ref a3, .ref a4, .ref a5, .ref a6, .ref a7, .ref a8, .ref a9, .int (nI nS), .ref a10, .int (nI nM), .ref a11]]) [0] (by decide) rfl).weaken (B := fun _ => True) (fun _ _ _ _ => trivial)
          refine ki (wr := [aI D a2 6 ln, aI D a3 24 ks, aI D a4 384 tm, aI D a5 384 wo, aI D a6 384 ea]) (rV (rest := []) (qc := (RX6, TX6, 15)) [.int 3] 1 0 0 hC (m_no l D (mo := mo) (x := 3) (th := 0) (a1 := a1) (nC := nC) (a2 := a2) (a3 := a3) (a4 := a4) (a5 := a5) (a6 := a6) (a7 := a7) (a8 := a8) (a9 := a9) (nS := nS) (a10 := a10) (nM := nM) (a11 := a11) (hz0 := H.size) ) rfl (hP 0 _ rfl) (gV mM_X6_66 mI_X6_no mS_X6_no mN_X6 mC_X6_no) (by decide +kernel) rfl rfl ⟨Nat.le_of_ble_eq_true rfl, Nat.le_of_ble_eq_true rfl⟩ hG hP9 hD9 rfl hl.1 rfl (Nat.le_of_ble_eq_true rfl) dX6_key_164 ⟨Nat.le_of_ble_eq_true rfl, Nat.le_of_ble_eq_true rfl⟩) hP hD hS hA [0] [1, 2, 3, 4, 5] rfl rfl (by decide) (by decide) (fun r164 u164 H locs h164 hP hD hS hz hfr => ?_)
          have hP : va_P D cls [aI D a2 6 ln, aI D a3 24 ks, aI D a4 384 tm, aI D a5 384 wo, aI D a6 384 ea, oO mo 6 [.int 3, .ref a1, .int (nI nC), .ref a2, .ref a3, .ref a4, .ref a5, .ref a6, .ref a7, .ref a8, .ref a9, .int (nI nS), .ref a10, .int (nI nM), .ref a11]] H := hP
          have hD : va_D A [aI D a2 6 ln, aI D a3 24 ks, aI D a4 384 tm, aI D a5 384 wo, aI D a6 384 ea, oO mo 6 [.int 3, .ref a1, .int (nI nC), .ref a2, .ref a3, .ref a4, .ref a5, .ref a6, .ref a7, .ref a8, .ref a9, .int (nI nS), .ref a10, .int (nI nM), .ref a11]] := hD
          obtain rfl : r164 = 0 := h164
          refine Wi () hx hb hr hlk ?_ (hP.sub [5, 0, 1, 2, 3, 4] rfl) (hD.sub [5, 0, 1, 2, 3, 4] (by decide) rfl) hS (Nat.le_of_ble_eq_true rfl) (by first | exact Nat.le_of_ble_eq_true rfl | exact Nat.le_of_eq (Nat.zero_add _)) dX6_key_167
          exact rfl
      · skip
        have n83 := mt (nI_leI (a := n) (b := k) (by omega) (by omega)).mpr c83
        have n83x : k < n := by omega
        refine lv_aload_n hx hb dX6_key_86 rfl (lv_at hl 0 rfl) ?_
        refine va_get (D := D) (ci := 6) (v := .ref a4) (C := RX6) (T := TX6) (N := 15) hx hb hts inlX6 hown hG.K hP 0 rfl rfl 5 (by decide) (hts _ mF_X6_19) (fun _ h9 => h9) rfl dX6_key_87 ?_
        refine lv_iload hx hb dX6_key_90 (lv_at hl 6 rfl) ?_
        have hP9 : va_P D cls [] H := fun k q h => by simp at h
        refine vp_callSi (pS (rest := [.ref a4]) [.int (nI (4 * i + j))] 1 hC (m_row l D (j := 4 * i + j) ) (gS mM_X6_78 mT_X6_row mN_X6 mC_X6_row) (by decide +kernel) rfl rfl ⟨Nat.le_of_ble_eq_true rfl, Nat.le_of_ble_eq_true rfl⟩ hG hP9 rfl hl.1 rfl (Nat.le_of_ble_eq_true rfl) dX6_key_92 ⟨Nat.le_of_ble_eq_true rfl, Nat.le_of_ble_eq_true rfl⟩) (fun r92 h92 => ?_)
        obtain rfl : r92 = (nI (16 * (4 * i + j))) := h92
        refine lv_iload hx hb dX6_key_95 (lv_at hl 7 rfl) ?_
        refine lv_iadd hx hb dX6_key_97 ?_
        refine tpi (y := nI ((16 * (4 * i + j)) + k)) (nI_add (16 * (4 * i + j)) k) ?_
        refine ild (n := 384) (j := (16 * (4 * i + j)) + k) hx hb hG hP 3 rfl (by omega) (by omega) dX6_key_98 ?_
        refine lv_iload_n hx hb dX6_key_99 rfl (lv_at hl 3 rfl) ?_
        refine lv_icmp_ge (tgt := 109) hx hb dX6_key_100 (by decide) (fun c100 => ?_) (fun c100 => ?_)
        · skip
          have hk9 : k = d := Nat.le_antisymm hk (Nat.le_of_not_lt (fun h9 => absurd (hlt k h9) (Int32.not_lt.mpr c100)))
          subst k
          refine lv_iload hx hb dX6_key_109 (lv_at hl 7 rfl) ?_
          refine lv_aload_n hx hb dX6_key_111 rfl (lv_at hl 0 rfl) ?_
          refine va_get (D := D) (ci := 6) (v := .ref a3) (C := RX6) (T := TX6) (N := 15) hx hb hts inlX6 hown hG.K hP 0 rfl rfl 4 (by decide) (hts _ mF_X6_16) (fun _ h9 => h9) rfl dX6_key_112 ?_
          refine lv_iload hx hb dX6_key_115 (lv_at hl 6 rfl) ?_
          refine ild (n := 24) (j := 4 * i + j) hx hb hG hP 2 rfl (by omega) (by omega) dX6_key_117 ?_
          refine tpi (y := nI n) (hks) ?_
          refine lv_icmp_ge (tgt := 142) hx hb dX6_key_118 (by decide) (fun c118 => ?_) (fun c118 => ?_)
          · skip
            have n118 := (nI_leI (a := n) (b := d) (by omega) (by omega)).mp c118
            refine lv_iconst (v := 0) hx hb dX6_key_142 (by decide) ?_
            refine lv_istore (lv' := [(8, .int 0), (0, .ref mo), (1, .int (nI i)), (2, .int (nI j)), (3, .int u0), (4, .int v0), (5, .int e0), (6, .int (nI (4 * i + j))), (7, .int (nI d))]) hx hb dX6_key_143 hl (by decide) rfl (fun ls hl => ?_)
            refine lv_iload hx hb dX6_key_145 (lv_at hl 0 rfl) ?_
            refine lv_if_ne (tgt := 168) hx hb dX6_key_147 (by decide) (fun h9 => (h9 (by decide)).elim) (fun _ => ?_)
            refine lv_aload_n hx hb dX6_key_150 rfl (lv_at hl 1 rfl) ?_
            refine va_get (D := D) (ci := 6) (v := .ref a3) (C := RX6) (T := TX6) (N := 15) hx hb hts inlX6 hown hG.K hP 0 rfl rfl 4 (by decide) (hts _ mF_X6_16) (fun _ h9 => h9) rfl dX6_key_151 ?_
            refine lv_iload hx hb dX6_key_154 (lv_at hl 7 rfl) ?_
            refine ild (n := 24) (j := 4 * i + j) hx hb hG hP 2 rfl (by omega) (by omega) dX6_key_156 ?_
            refine tpi (y := nI n) (hks) ?_
            refine lv_bipush (v := 16) hx hb dX6_key_157 (by decide) ?_
            refine lv_icmp_ne (tgt := 168) hx hb dX6_key_159 (by decide) (fun h9 => absurd ((nI_eq (a := n) (b := 16) (by omega) (by omega)).mpr (by omega)) h9) (fun _ => ?_)
            refine lv_aload_n hx hb dX6_key_162 rfl (lv_at hl 1 rfl) ?_
            refine lv_iconst (v := 3) hx hb dX6_key_163 (by decide) ?_
            have hP9 := hP.sub (ws' := [oO mo 6 [.int 0, .ref a1, .int (nI nC), .ref a2, .ref a3, .ref a4, .ref a5, .ref a6, .ref a7, .ref a8, .ref a9, .int (nI nS), .ref a10, .int (nI nM), .ref a11]]) [0] rfl
            have hD9 := (hD.sub (ws' := [oO mo 6 [.int 0, .ref a1, .int (nI nC), .ref a2, .ref a3, .ref a4, .ref a5, .ref a6, .ref a7, .ref a8, .ref a9, .int (nI nS), .ref a10, .int (nI nM), .ref a11]]) [0] (by decide) rfl).weaken (B := fun _ => True) (fun _ _ _ _ => trivial)
            refine ki (wr := [aI D a2 6 ln, aI D a3 24 ks, aI D a4 384 tm, aI D a5 384 wo, aI D a6 384 ea]) (rV (rest := []) (qc := (RX6, TX6, 15)) [.int 3] 1 0 0 hC (m_no l D (mo := mo) (x := 3) (th := 0) (a1 := a1) (nC := nC) (a2 := a2) (a3 := a3) (a4 := a4) (a5 := a5) (a6 := a6) (a7 := a7) (a8 := a8) (a9 := a9) (nS := nS) (a10 := a10) (nM := nM) (a11 := a11) (hz0 := H.size) ) rfl (hP 0 _ rfl) (gV mM_X6_66 mI_X6_no mS_X6_no mN_X6 mC_X6_no) (by decide +kernel) rfl rfl ⟨Nat.le_of_ble_eq_true rfl, Nat.le_of_ble_eq_true rfl⟩ hG hP9 hD9 rfl hl.1 rfl (Nat.le_of_ble_eq_true rfl) dX6_key_164 ⟨Nat.le_of_ble_eq_true rfl, Nat.le_of_ble_eq_true rfl⟩) hP hD hS hA [0] [1, 2, 3, 4, 5] rfl rfl (by decide) (by decide) (fun r164 u164 H locs h164 hP hD hS hz hfr => ?_)
            have hP : va_P D cls [aI D a2 6 ln, aI D a3 24 ks, aI D a4 384 tm, aI D a5 384 wo, aI D a6 384 ea, oO mo 6 [.int 3, .ref a1, .int (nI nC), .ref a2, .ref a3, .ref a4, .ref a5, .ref a6, .ref a7, .ref a8, .ref a9, .int (nI nS), .ref a10, .int (nI nM), .ref a11]] H := hP
            have hD : va_D A [aI D a2 6 ln, aI D a3 24 ks, aI D a4 384 tm, aI D a5 384 wo, aI D a6 384 ea, oO mo 6 [.int 3, .ref a1, .int (nI nC), .ref a2, .ref a3, .ref a4, .ref a5, .ref a6, .ref a7, .ref a8, .ref a9, .int (nI nS), .ref a10, .int (nI nM), .ref a11]] := hD
            obtain rfl : r164 = 0 := h164
            refine Wi () hx hb hr hlk ?_ (hP.sub [5, 0, 1, 2, 3, 4] rfl) (hD.sub [5, 0, 1, 2, 3, 4] (by decide) rfl) hS (Nat.le_of_ble_eq_true rfl) (by first | exact Nat.le_of_ble_eq_true rfl | exact Nat.le_of_eq (Nat.zero_add _)) dX6_key_167
            exact rfl
          · skip
            have n118 := mt (nI_leI (a := n) (b := d) (by omega) (by omega)).mpr c118
            refine lv_aload_n hx hb dX6_key_121 rfl (lv_at hl 0 rfl) ?_
            refine va_get (D := D) (ci := 6) (v := .ref a4) (C := RX6) (T := TX6) (N := 15) hx hb hts inlX6 hown hG.K hP 0 rfl rfl 5 (by decide) (hts _ mF_X6_19) (fun _ h9 => h9) rfl dX6_key_122 ?_
            refine lv_iload hx hb dX6_key_125 (lv_at hl 6 rfl) ?_
            have hP9 : va_P D cls [] H := fun k q h => by simp at h
            refine vp_callSi (pS (rest := [.ref a4]) [.int (nI (4 * i + j))] 1 hC (m_row l D (j := 4 * i + j) ) (gS mM_X6_78 mT_X6_row mN_X6 mC_X6_row) (by decide +kernel) rfl rfl ⟨Nat.le_of_ble_eq_true rfl, Nat.le_of_ble_eq_true rfl⟩ hG hP9 rfl hl.1 rfl (Nat.le_of_ble_eq_true rfl) dX6_key_127 ⟨Nat.le_of_ble_eq_true rfl, Nat.le_of_ble_eq_true rfl⟩) (fun r127 h127 => ?_)
            obtain rfl : r127 = (nI (16 * (4 * i + j))) := h127
            refine lv_iload hx hb dX6_key_130 (lv_at hl 7 rfl) ?_
            refine lv_iadd hx hb dX6_key_132 ?_
            refine tpi (y := nI ((16 * (4 * i + j)) + d)) (nI_add (16 * (4 * i + j)) d) ?_
            refine ild (n := 384) (j := (16 * (4 * i + j)) + d) hx hb hG hP 3 rfl (by omega) (by omega) dX6_key_133 ?_
            refine lv_iload_n hx hb dX6_key_134 rfl (lv_at hl 3 rfl) ?_
            refine lv_icmp_ne (tgt := 142) hx hb dX6_key_135 (by decide) (fun c135 => ?_) (fun c135 => absurd c135 (fun z => hni ⟨by omega, z⟩))
            refine lv_iconst (v := 0) hx hb dX6_key_142 (by decide) ?_
            refine lv_istore (lv' := [(8, .int 0), (0, .ref mo), (1, .int (nI i)), (2, .int (nI j)), (3, .int u0), (4, .int v0), (5, .int e0), (6, .int (nI (4 * i + j))), (7, .int (nI d))]) hx hb dX6_key_143 hl (by decide) rfl (fun ls hl => ?_)
            refine lv_iload hx hb dX6_key_145 (lv_at hl 0 rfl) ?_
            refine lv_if_ne (tgt := 168) hx hb dX6_key_147 (by decide) (fun h9 => (h9 (by decide)).elim) (fun _ => ?_)
            refine lv_aload_n hx hb dX6_key_150 rfl (lv_at hl 1 rfl) ?_
            refine va_get (D := D) (ci := 6) (v := .ref a3) (C := RX6) (T := TX6) (N := 15) hx hb hts inlX6 hown hG.K hP 0 rfl rfl 4 (by decide) (hts _ mF_X6_16) (fun _ h9 => h9) rfl dX6_key_151 ?_
            refine lv_iload hx hb dX6_key_154 (lv_at hl 7 rfl) ?_
            refine ild (n := 24) (j := 4 * i + j) hx hb hG hP 2 rfl (by omega) (by omega) dX6_key_156 ?_
            refine tpi (y := nI n) (hks) ?_
            refine lv_bipush (v := 16) hx hb dX6_key_157 (by decide) ?_
            refine lv_icmp_ne (tgt := 168) hx hb dX6_key_159 (by decide) (fun h9 => absurd ((nI_eq (a := n) (b := 16) (by omega) (by omega)).mpr (by omega)) h9) (fun _ => ?_)
            refine lv_aload_n hx hb dX6_key_162 rfl (lv_at hl 1 rfl) ?_
            refine lv_iconst (v := 3) hx hb dX6_key_163 (by decide) ?_
            have hP9 := hP.sub (ws' := [oO mo 6 [.int 0, .ref a1, .int (nI nC), .ref a2, .ref a3, .ref a4, .ref a5, .ref a6, .ref a7, .ref a8, .ref a9, .int (nI nS), .ref a10, .int (nI nM), .ref a11]]) [0] rfl
            have hD9 := (hD.sub (ws' := [oO mo 6 [.int 0, .ref a1, .int (nI nC), .ref a2, .ref a3, .ref a4, .ref a5, .ref a6, .ref a7, .ref a8, .ref a9, .int (nI nS), .ref a10, .int (nI nM), .ref a11]]) [0] (by decide) rfl).weaken (B := fun _ => True) (fun _ _ _ _ => trivial)
            refine ki (wr := [aI D a2 6 ln, aI D a3 24 ks, aI D a4 384 tm, aI D a5 384 wo, aI D a6 384 ea]) (rV (rest := []) (qc := (RX6, TX6, 15)) [.int 3] 1 0 0 hC (m_no l D (mo := mo) (x := 3) (th := 0) (a1 := a1) (nC := nC) (a2 := a2) (a3 := a3) (a4 := a4) (a5 := a5) (a6 := a6) (a7 := a7) (a8 := a8) (a9 := a9) (nS := nS) (a10 := a10) (nM := nM) (a11 := a11) (hz0 := H.size) ) rfl (hP 0 _ rfl) (gV mM_X6_66 mI_X6_no mS_X6_no mN_X6 mC_X6_no) (by decide +kernel) rfl rfl ⟨Nat.le_of_ble_eq_true rfl, Nat.le_of_ble_eq_true rfl⟩ hG hP9 hD9 rfl hl.1 rfl (Nat.le_of_ble_eq_true rfl) dX6_key_164 ⟨Nat.le_of_ble_eq_true rfl, Nat.le_of_ble_eq_true rfl⟩) hP hD hS hA [0] [1, 2, 3, 4, 5] rfl rfl (by decide) (by decide) (fun r164 u164 H locs h164 hP hD hS hz hfr => ?_)
            have hP : va_P D cls [aI D a2 6 ln, aI D a3 24 ks, aI D a4 384 tm, aI D a5 384 wo, aI D a6 384 ea, oO mo 6 [.int 3, .ref a1, .int (nI nC), .ref a2, .ref a3, .ref a4, .ref a5, .ref a6, .ref a7, .ref a8, .ref a9, .int (nI nS), .ref a10, .int (nI nM), .ref a11]] H := hP
            have hD : va_D A [aI D a2 6 ln, aI D a3 24 ks, aI D a4 384 tm, aI D a5 384 wo, aI D a6 384 ea, oO mo 6 [.int 3, .ref a1, .int (nI nC), .ref a2, .ref a3, .ref a4, .ref a5, .ref a6, .ref a7, .ref a8, .ref a9, .int (nI nS), .ref a10, .int (nI nM), .ref a11]] := hD
            obtain rfl : r164 = 0 := h164
            refine Wi () hx hb hr hlk ?_ (hP.sub [5, 0, 1, 2, 3, 4] rfl) (hD.sub [5, 0, 1, 2, 3, 4] (by decide) rfl) hS (Nat.le_of_ble_eq_true rfl) (by first | exact Nat.le_of_ble_eq_true rfl | exact Nat.le_of_eq (Nat.zero_add _)) dX6_key_167
            exact rfl
        · skip
          refine lv_iinc (v := nI (k + 1)) (lv' := [(7, .int (nI (k + 1))), (0, .ref mo), (1, .int (nI i)), (2, .int (nI j)), (3, .int u0), (4, .int v0), (5, .int e0), (6, .int (nI (4 * i + j)))]) hx hb dX6_key_103 hl (k := 7) rfl (nI_1 _) (by decide) rfl (fun ls hl => ?_)
          refine lv_goto (tgt := 74) hx hb dX6_key_106 (by decide) ?_
          exact ih74 (k + 1) (by omega) (Nat.lt_of_le_of_ne hk (fun h9 => by
                      subst h9
                      exact hge n83x (Int32.not_le.mp c100))) _ (lv_sub hl [1, 2, 3, 4, 5, 6, 7, 0] rfl)
  exact loop74 _ 0 (Nat.lt_succ_self _) (by omega) _ (lv_sub hl [2, 3, 4, 5, 6, 7, 1, 0] rfl)
set_option maxHeartbeats 400000 in
set_option maxRecDepth 100000 in
theorem m_key_set (l : Launch) (D : va_G) {mo a1 a2 a3 a4 a5 a6 a7 a8 a9 a10 a11 nC nS nM : Nat} {th : Int32} {ln ks tm wo ea : Nat → Int32} {i j : Nat} {n d : Nat} {u0 v0 e0 : Int32} (hz0 : Nat) (hn : nC ≤ 6) (hi : i < nC) (hj : j < 4) (h : (0 ≤ u0 ∧ u0 ≤ ln i) ∧ ((-10000 : Int32) ≤ v0 ∧ v0 ≤ 10000) ∧ ((0 : Int32) ≤ e0 ∧ e0 ≤ 4)) (hks : ks (4 * i + j) = nI n) (h16 : n ≤ 16) (hdn : d < n) (heq : tm (16 * (4 * i + j) + d) = u0) (ha : d ≤ n) (hlt : ∀ k, k < d → tm (16 * (4 * i + j) + k) < u0) (hge : d < n → ¬ tm (16 * (4 * i + j) + d) < u0) : Met l yX6_key (ws_ yX6_key cX6_key 10 (some .int)) ({ frames := 3, cells := 0, slots := 0, locals := 65 } : Room) (va_Pc [.ref mo, .int (nI i), .int (nI j), .int u0, .int v0, .int e0] (SW D [oO mo 6 [.int th, .ref a1, .int (nI nC), .ref a2, .ref a3, .ref a4, .ref a5, .ref a6, .ref a7, .ref a8, .ref a9, .int (nI nS), .ref a10, .int (nI nM), .ref a11], aI D a2 6 ln, aI D a3 24 ks, aI D a4 384 tm, aI D a5 384 wo, aI D a6 384 ea] hz0)) (va_Qi (fun v _ => v = nI n) (AT D (va_A [oO mo 6 [.int th, .ref a1, .int (nI nC), .ref a2, .ref a3, .ref a4, .ref a5, .ref a6, .ref a7, .ref a8, .ref a9, .int (nI nS), .ref a10, .int (nI nM), .ref a11], aI D a2 6 ln, aI D a3 24 ks, aI D a4 384 tm, aI D a5 384 wo, aI D a6 384 ea] hz0) (fun _ : Unit => [oO mo 6 [.int 0, .ref a1, .int (nI nC), .ref a2, .ref a3, .ref a4, .ref a5, .ref a6, .ref a7, .ref a8, .ref a9, .int (nI nS), .ref a10, .int (nI nM), .ref a11], aI D a2 6 ln, aI D a3 24 ks, aI D a4 384 (upd tm (16 * (4 * i + j) + d) u0), aI D a5 384 (upd wo (16 * (4 * i + j) + d) v0), aI D a6 384 (upd ea (16 * (4 * i + j) + d) e0)])) (va_A [oO mo 6 [.int th, .ref a1, .int (nI nC), .ref a2, .ref a3, .ref a4, .ref a5, .ref a6, .ref a7, .ref a8, .ref a9, .int (nI nS), .ref a10, .int (nI nM), .ref a11], aI D a2 6 ln, aI D a3 24 ks, aI D a4 384 tm, aI D a5 384 wo, aI D a6 384 ea] hz0)) 0 0 (va_A [oO mo 6 [.int th, .ref a1, .int (nI nC), .ref a2, .ref a3, .ref a4, .ref a5, .ref a6, .ref a7, .ref a8, .ref a9, .int (nI nS), .ref a10, .int (nI nM), .ref a11], aI D a2 6 ln, aI D a3 24 ks, aI D a4 384 tm, aI D a5 384 wo, aI D a6 384 ea] hz0) := by
  refine Met.ofW (cc := cX6_key) (maxL := 10) (ret := (some .int)) (by decide) rfl ?_
  intro p e s m args below meth c s₁ B hml hv
  obtain ⟨rfl, hsz, hG, hP, hD0⟩ := hv
  have hx := B.exec
  have hb := B.bytes
  have hr := B.returns
  have hts : ∀ w ∈ wsL_law, w.before _ s = true := fun w h => atoms_spec (ws := (ws_ yX6_key cX6_key 10 (some .int))) B.pre w (List.mem_cons_of_mem _ h)
  have hown : s.vm.findClass RX6 = some m.cls := findClass_of_methodNamed B.named
  have hlk := B.notSynchronized
  have hC : CallFix p m c cX6_key 10 s _ wsL_law RX6 := ⟨hx, hb, hml, hown, hts⟩
  subst hsz
  have hD := hD0.self (sz := s.heap.size)
  generalize hAe : va_A [oO mo 6 [.int th, .ref a1, .int (nI nC), .ref a2, .ref a3, .ref a4, .ref a5, .ref a6, .ref a7, .ref a8, .ref a9, .int (nI nS), .ref a10, .int (nI nM), .ref a11], aI D a2 6 ln, aI D a3 24 ks, aI D a4 384 tm, aI D a5 384 wo, aI D a6 384 ea] s.heap.size = A at hD ⊢
  have hA : ∀ q : Nat, s.heap.size ≤ q → A q := fun q h => by rw [← hAe]; exact Or.inr h
  have hS : va_S A s.heap s.heap [] := va_S.rf
  obtain ⟨H, hHe⟩ : ∃ H, H = s.heap := ⟨_, rfl⟩
  rw [← hHe] at hP
  have hS : va_S A s.heap H [] := by rw [hHe]; exact hS
  have hl := lv_entry ([.ref mo, .int (nI i), .int (nI j), .int u0, .int v0, .int e0]) (n := 10) (Nat.le_of_ble_eq_true rfl)
  rw [lg_entry_eq]
  generalize (lg_sl ([.ref mo, .int (nI i), .int (nI j), .int u0, .int v0, .int e0]) ++ List.replicate (10 - (lg_sl ([.ref mo, .int (nI i), .int (nI j), .int u0, .int v0, .int e0])).length) Slot.unset).toArray = ls at hl ⊢
  have hl : lv_has ls 10 [(0, .ref mo), (1, .int (nI i)), (2, .int (nI j)), (3, .int u0), (4, .int v0), (5, .int e0)] := hl
  rw [← hHe]
  refine lv_aload_n hx hb dX6_key_0 rfl (lv_at hl 0 rfl) ?_
  refine lv_iconst (v := 0) hx hb dX6_key_1 (by decide) ?_
  refine va_put (D := D) (ci := 6) (v := .int 0) (ty := .int) (C := RX6) (T := TX6) (N := 15) hx hb hts inlX6 tyX6 tyX6_ok nmX6 hown hG.K hP hD hS 0 rfl rfl 0 (by decide) (hts _ mF_X6_43) (fun _ h9 => h9) rfl (by decide +kernel) rfl rfl (Nat.le_of_ble_eq_true rfl) dX6_key_2 (fun H locs hP hD hS => ?_)
  have hP : va_P D cls [oO mo 6 [.int 0, .ref a1, .int (nI nC), .ref a2, .ref a3, .ref a4, .ref a5, .ref a6, .ref a7, .ref a8, .ref a9, .int (nI nS), .ref a10, .int (nI nM), .ref a11], aI D a2 6 ln, aI D a3 24 ks, aI D a4 384 tm, aI D a5 384 wo, aI D a6 384 ea] H := hP
  have hD : va_D A [oO mo 6 [.int 0, .ref a1, .int (nI nC), .ref a2, .ref a3, .ref a4, .ref a5, .ref a6, .ref a7, .ref a8, .ref a9, .int (nI nS), .ref a10, .int (nI nM), .ref a11], aI D a2 6 ln, aI D a3 24 ks, aI D a4 384 tm, aI D a5 384 wo, aI D a6 384 ea] := hD
  refine lv_aload_n hx hb dX6_key_5 rfl (lv_at hl 0 rfl) ?_
  refine lv_iload_n hx hb dX6_key_6 rfl (lv_at hl 1 rfl) ?_
  refine lv_iload_n hx hb dX6_key_7 rfl (lv_at hl 2 rfl) ?_
  have hP9 := hP.sub (ws' := [oO mo 6 [.int 0, .ref a1, .int (nI nC), .ref a2, .ref a3, .ref a4, .ref a5, .ref a6, .ref a7, .ref a8, .ref a9, .int (nI nS), .ref a10, .int (nI nM), .ref a11]]) [0] rfl
  refine vp_callSi (pV (rest := []) (qc := (RX6, TX6, 15)) [.int (nI i), .int (nI j)] 2 hC (m_isTrack l D (mo := mo) (i := i) (j := j) (th := 0) (a1 := a1) (nC := nC) (a2 := a2) (a3 := a3) (a4 := a4) (a5 := a5) (a6 := a6) (a7 := a7) (a8 := a8) (a9 := a9) (nS := nS) (a10 := a10) (nM := nM) (a11 := a11) (by omega) (by omega) (by omega)) rfl (hP 0 _ rfl) (gV mM_X6_74 mI_X6_isTrack mS_X6_isTrack mN_X6 mC_X6_isTrack) (by decide +kernel) rfl rfl ⟨Nat.le_of_ble_eq_true rfl, Nat.le_of_ble_eq_true rfl⟩ hG hP9 rfl hl.1 rfl (Nat.le_of_ble_eq_true rfl) dX6_key_8 ⟨Nat.le_of_ble_eq_true rfl, Nat.le_of_ble_eq_true rfl⟩) (fun r8 h8 => ?_)
  obtain rfl : r8 = 1 := h8
  refine lv_if_ne (tgt := 20) hx hb dX6_key_11 (by decide) (fun _ => ?_) (fun h9 => absurd h9 (by decide))
  refine lv_iload_n hx hb dX6_key_20 rfl (lv_at hl 3 rfl) ?_
  refine lv_iconst (v := 0) hx hb dX6_key_21 (by decide) ?_
  refine lv_aload_n hx hb dX6_key_22 rfl (lv_at hl 0 rfl) ?_
  refine va_get (D := D) (ci := 6) (v := .ref a2) (C := RX6) (T := TX6) (N := 15) hx hb hts inlX6 hown hG.K hP 0 rfl rfl 3 (by decide) (hts _ mF_X6_13) (fun _ h9 => h9) rfl dX6_key_23 ?_
  refine lv_iload_n hx hb dX6_key_26 rfl (lv_at hl 1 rfl) ?_
  refine ild (n := 6) (j := i) hx hb hG hP 1 rfl (by omega) (by omega) dX6_key_27 ?_
  have hP9 : va_P D cls [] H := fun k q h => by simp at h
  refine vp_callSi (pS (rest := []) [.int u0, .int 0, .int (ln i)] 3 hC (m_isIn l D (x := u0) (a := 0) (b := ln i) ) (gS mM_X6_50 mT_X6_isIn mN_X6 mC_X6_isIn) (by decide +kernel) rfl rfl ⟨Nat.le_of_ble_eq_true rfl, Nat.le_of_ble_eq_true rfl⟩ hG hP9 rfl hl.1 rfl (Nat.le_of_ble_eq_true rfl) dX6_key_28 ⟨Nat.le_of_ble_eq_true rfl, Nat.le_of_ble_eq_true rfl⟩) (fun r28 h28 => ?_)
  rcases h28 with ⟨rfl, hb28⟩ | ⟨rfl, hb28⟩
  rotate_left
  · exact absurd (h.1) hb28
  refine lv_if_eq (tgt := 58) hx hb dX6_key_31 (by decide) (fun h9 => absurd h9 (by decide)) (fun _ => ?_)
  refine lv_iload hx hb dX6_key_34 (lv_at hl 4 rfl) ?_
  refine lv_sipush (v := -10000) hx hb dX6_key_36 (by decide) ?_
  refine lv_sipush (v := 10000) hx hb dX6_key_39 (by decide) ?_
  have hP9 : va_P D cls [] H := fun k q h => by simp at h
  refine vp_callSi (pS (rest := []) [.int v0, .int (-10000), .int 10000] 3 hC (m_isIn l D (x := v0) (a := -10000) (b := 10000) ) (gS mM_X6_50 mT_X6_isIn mN_X6 mC_X6_isIn) (by decide +kernel) rfl rfl ⟨Nat.le_of_ble_eq_true rfl, Nat.le_of_ble_eq_true rfl⟩ hG hP9 rfl hl.1 rfl (Nat.le_of_ble_eq_true rfl) dX6_key_42 ⟨Nat.le_of_ble_eq_true rfl, Nat.le_of_ble_eq_true rfl⟩) (fun r42 h42 => ?_)
  rcases h42 with ⟨rfl, hb42⟩ | ⟨rfl, hb42⟩
  rotate_left
  · exact absurd (h.2.1) hb42
  refine lv_if_eq (tgt := 58) hx hb dX6_key_45 (by decide) (fun h9 => absurd h9 (by decide)) (fun _ => ?_)
  refine lv_iload hx hb dX6_key_48 (lv_at hl 5 rfl) ?_
  refine lv_iconst (v := 0) hx hb dX6_key_50 (by decide) ?_
  refine lv_iconst (v := 4) hx hb dX6_key_51 (by decide) ?_
  have hP9 : va_P D cls [] H := fun k q h => by simp at h
  refine vp_callSi (pS (rest := []) [.int e0, .int 0, .int 4] 3 hC (m_isIn l D (x := e0) (a := 0) (b := 4) ) (gS mM_X6_50 mT_X6_isIn mN_X6 mC_X6_isIn) (by decide +kernel) rfl rfl ⟨Nat.le_of_ble_eq_true rfl, Nat.le_of_ble_eq_true rfl⟩ hG hP9 rfl hl.1 rfl (Nat.le_of_ble_eq_true rfl) dX6_key_52 ⟨Nat.le_of_ble_eq_true rfl, Nat.le_of_ble_eq_true rfl⟩) (fun r52 h52 => ?_)
  rcases h52 with ⟨rfl, hb52⟩ | ⟨rfl, hb52⟩
  rotate_left
  · exact absurd (h.2.2) hb52
  refine lv_if_ne (tgt := 64) hx hb dX6_key_55 (by decide) (fun _ => ?_) (fun h9 => absurd h9 (by decide))
  refine lv_iconst (v := 4) hx hb dX6_key_64 (by decide) ?_
  refine lv_iload_n hx hb dX6_key_65 rfl (lv_at hl 1 rfl) ?_
  refine lv_imul hx hb dX6_key_66 ?_
  refine tpi (y := nI (4 * i)) (pk_mul 4 i) ?_
  refine lv_iload_n hx hb dX6_key_67 rfl (lv_at hl 2 rfl) ?_
  refine lv_iadd hx hb dX6_key_68 ?_
  refine tpi (y := nI ((4 * i) + j)) (nI_add (4 * i) j) ?_
  refine lv_istore (lv' := [(6, .int (nI ((4 * i) + j))), (0, .ref mo), (1, .int (nI i)), (2, .int (nI j)), (3, .int u0), (4, .int v0), (5, .int e0)]) hx hb dX6_key_69 hl (by decide) rfl (fun ls hl => ?_)
  refine lv_iconst (v := 0) hx hb dX6_key_71 (by decide) ?_
  refine lv_istore (lv' := [(7, .int 0), (6, .int (nI ((4 * i) + j))), (0, .ref mo), (1, .int (nI i)), (2, .int (nI j)), (3, .int u0), (4, .int v0), (5, .int e0)]) hx hb dX6_key_72 hl (by decide) rfl (fun ls hl => ?_)
  have loop74 : ∀ (d9 : Nat) (k : Nat), (d + 1 - k) < d9 → (k ≤ d) → ∀ (ls : Array Slot), lv_has ls 10 [(0, .ref mo), (1, .int (nI i)), (2, .int (nI j)), (3, .int u0), (4, .int v0), (5, .int e0), (6, .int (nI (4 * i + j))), (7, .int (nI k))] → W p l e ({ frames := 3, cells := 0, slots := 0, locals := 65 } : Room) s m ([.ref mo, .int (nI i), .int (nI j), .int u0, .int v0, .int e0] : List Value).toArray below meth c H locs 0 0 (MQ below (va_Qi (fun v _ => v = nI n) (AT D A (fun _ : Unit => [oO mo 6 [.int 0, .ref a1, .int (nI nC), .ref a2, .ref a3, .ref a4, .ref a5, .ref a6, .ref a7, .ref a8, .ref a9, .int (nI nS), .ref a10, .int (nI nM), .ref a11], aI D a2 6 ln, aI D a3 24 ks, aI D a4 384 (upd tm (16 * (4 * i + j) + d) u0), aI D a5 384 (upd wo (16 * (4 * i + j) + d) v0), aI D a6 384 (upd ea (16 * (4 * i + j) + d) e0)])) A) ([.ref mo, .int (nI i), .int (nI j), .int u0, .int v0, .int e0] : List Value).toArray s 0 0 A) (F0 m 74 ls []) := by
    intro d9
    induction d9 with
    | zero => intro k hd; exact absurd hd (Nat.not_lt_zero _)
    | succ d9 ih74 =>
      intro k hd74 hk ls hl
      refine lv_iload hx hb dX6_key_74 (lv_at hl 7 rfl) ?_
      refine lv_aload_n hx hb dX6_key_76 rfl (lv_at hl 0 rfl) ?_
      refine va_get (D := D) (ci := 6) (v := .ref a3) (C := RX6) (T := TX6) (N := 15) hx hb hts inlX6 hown hG.K hP 0 rfl rfl 4 (by decide) (hts _ mF_X6_16) (fun _ h9 => h9) rfl dX6_key_77 ?_
      refine lv_iload hx hb dX6_key_80 (lv_at hl 6 rfl) ?_
      refine ild (n := 24) (j := 4 * i + j) hx hb hG hP 2 rfl (by omega) (by omega) dX6_key_82 ?_
      refine tpi (y := nI n) (hks) ?_
      refine lv_icmp_ge (tgt := 109) hx hb dX6_key_83 (by decide) (fun c83 => ?_) (fun c83 => ?_)
      · skip
        have n83 := (nI_leI (a := n) (b := k) (by omega) (by omega)).mp c83
        have hk9 : k = d := Nat.le_antisymm hk (by omega)
        subst k
        refine lv_iload hx hb dX6_key_109 (lv_at hl 7 rfl) ?_
        refine lv_aload_n hx hb dX6_key_111 rfl (lv_at hl 0 rfl) ?_
        refine va_get (D := D) (ci := 6) (v := .ref a3) (C := RX6) (T := TX6) (N := 15) hx hb hts inlX6 hown hG.K hP 0 rfl rfl 4 (by decide) (hts _ mF_X6_16) (fun _ h9 => h9) rfl dX6_key_112 ?_
        refine lv_iload hx hb dX6_key_115 (lv_at hl 6 rfl) ?_
        refine ild (n := 24) (j := 4 * i + j) hx hb hG hP 2 rfl (by omega) (by omega) dX6_key_117 ?_
        refine tpi (y := nI n) (hks) ?_
        refine lv_icmp_ge (tgt := 142) hx hb dX6_key_118 (by decide) (fun h9 => absurd ((nI_leI (a := n) (b := d) (by omega) (by omega)).mp h9) (by omega)) (fun _ => ?_)
        refine lv_aload_n hx hb dX6_key_121 rfl (lv_at hl 0 rfl) ?_
        refine va_get (D := D) (ci := 6) (v := .ref a4) (C := RX6) (T := TX6) (N := 15) hx hb hts inlX6 hown hG.K hP 0 rfl rfl 5 (by decide) (hts _ mF_X6_19) (fun _ h9 => h9) rfl dX6_key_122 ?_
        refine lv_iload hx hb dX6_key_125 (lv_at hl 6 rfl) ?_
        have hP9 : va_P D cls [] H := fun k q h => by simp at h
        refine vp_callSi (pS (rest := [.ref a4]) [.int (nI (4 * i + j))] 1 hC (m_row l D (j := 4 * i + j) ) (gS mM_X6_78 mT_X6_row mN_X6 mC_X6_row) (by decide +kernel) rfl rfl ⟨Nat.le_of_ble_eq_true rfl, Nat.le_of_ble_eq_true rfl⟩ hG hP9 rfl hl.1 rfl (Nat.le_of_ble_eq_true rfl) dX6_key_127 ⟨Nat.le_of_ble_eq_true rfl, Nat.le_of_ble_eq_true rfl⟩) (fun r127 h127 => ?_)
        obtain rfl : r127 = (nI (16 * (4 * i + j))) := h127
        refine lv_iload hx hb dX6_key_130 (lv_at hl 7 rfl) ?_
        refine lv_iadd hx hb dX6_key_132 ?_
        refine tpi (y := nI ((16 * (4 * i + j)) + d)) (nI_add (16 * (4 * i + j)) d) ?_
        refine ild (n := 384) (j := (16 * (4 * i + j)) + d) hx hb hG hP 3 rfl (by omega) (by omega) dX6_key_133 ?_
        refine lv_iload_n hx hb dX6_key_134 rfl (lv_at hl 3 rfl) ?_
        refine lv_icmp_ne (tgt := 142) hx hb dX6_key_135 (by decide) (fun c135 => absurd (heq) c135) (fun c135 => ?_)
        refine lv_iconst (v := 1) hx hb dX6_key_138 (by decide) ?_
        refine lv_goto (tgt := 143) hx hb dX6_key_139 (by decide) ?_
        refine lv_istore (lv' := [(8, .int 1), (0, .ref mo), (1, .int (nI i)), (2, .int (nI j)), (3, .int u0), (4, .int v0), (5, .int e0), (6, .int (nI (4 * i + j))), (7, .int (nI d))]) hx hb dX6_key_143 hl (by decide) rfl (fun ls hl => ?_)
        refine lv_iload hx hb dX6_key_145 (lv_at hl 0 rfl) ?_
        refine lv_if_ne (tgt := 168) hx hb dX6_key_147 (by decide) (fun _ => ?_) (fun h9 => absurd h9 (by decide))
        refine lv_iload hx hb dX6_key_168 (lv_at hl 0 rfl) ?_
        refine lv_if_ne (tgt := 251) hx hb dX6_key_170 (by decide) (fun _ => ?_) (fun h9 => absurd h9 (by decide))
        refine lv_aload_n hx hb dX6_key_251 rfl (lv_at hl 1 rfl) ?_
        refine lv_iload hx hb dX6_key_252 (lv_at hl 7 rfl) ?_
        have hP9 : va_P D cls [] H := fun k q h => by simp at h
        refine vp_callSi (pS (rest := [.ref mo]) [.int (nI (4 * i + j))] 1 hC (m_row l D (j := 4 * i + j) ) (gS mM_X6_78 mT_X6_row mN_X6 mC_X6_row) (by decide +kernel) rfl rfl ⟨Nat.le_of_ble_eq_true rfl, Nat.le_of_ble_eq_true rfl⟩ hG hP9 rfl hl.1 rfl (Nat.le_of_ble_eq_true rfl) dX6_key_254 ⟨Nat.le_of_ble_eq_true rfl, Nat.le_of_ble_eq_true rfl⟩) (fun r254 h254 => ?_)
        obtain rfl : r254 = (nI (16 * (4 * i + j))) := h254
        refine lv_iload hx hb dX6_key_257 (lv_at hl 8 rfl) ?_
        refine lv_iadd hx hb dX6_key_259 ?_
        refine tpi (y := nI ((16 * (4 * i + j)) + d)) (nI_add (16 * (4 * i + j)) d) ?_
        refine lv_iload_n hx hb dX6_key_260 rfl (lv_at hl 4 rfl) ?_
        refine lv_iload hx hb dX6_key_261 (lv_at hl 5 rfl) ?_
        refine lv_iload hx hb dX6_key_263 (lv_at hl 6 rfl) ?_
        have hP9 := hP.sub (ws' := [oO mo 6 [.int 0, .ref a1, .int (nI nC), .ref a2, .ref a3, .ref a4, .ref a5, .ref a6, .ref a7, .ref a8, .ref a9, .int (nI nS), .ref a10, .int (nI nM), .ref a11], aI D a4 384 tm, aI D a5 384 wo, aI D a6 384 ea]) [0, 3, 4, 5] rfl
        have hD9 := (hD.sub (ws' := [oO mo 6 [.int 0, .ref a1, .int (nI nC), .ref a2, .ref a3, .ref a4, .ref a5, .ref a6, .ref a7, .ref a8, .ref a9, .int (nI nS), .ref a10, .int (nI nM), .ref a11], aI D a4 384 tm, aI D a5 384 wo, aI D a6 384 ea]) [0, 3, 4, 5] (by decide) rfl).weaken (B := fun _ => True) (fun _ _ _ _ => trivial)
        refine kv (wr := [aI D a2 6 ln, aI D a3 24 ks]) (rV (rest := []) (qc := (RX6, TX6, 15)) [.int (nI ((16 * (4 * i + j)) + d)), .int u0, .int v0, .int e0] 4 0 0 hC (m_put l D (mo := mo) (k := (16 * (4 * i + j)) + d) (x := u0) (y := v0) (z := e0) (th := 0) (a1 := a1) (nC := nC) (a2 := a2) (a3 := a3) (a4 := a4) (a5 := a5) (a6 := a6) (a7 := a7) (a8 := a8) (a9 := a9) (nS := nS) (a10 := a10) (nM := nM) (a11 := a11) (tm := tm) (wo := wo) (ea := ea) (hz0 := H.size) (by omega)) rfl (hP 0 _ rfl) (gV mM_X6_81 mI_X6_put mS_X6_put mN_X6 mC_X6_put) (by decide +kernel) rfl rfl ⟨Nat.le_of_ble_eq_true rfl, Nat.le_of_ble_eq_true rfl⟩ hG hP9 hD9 rfl hl.1 rfl (Nat.le_of_ble_eq_true rfl) dX6_key_265 ⟨Nat.le_of_ble_eq_true rfl, Nat.le_of_ble_eq_true rfl⟩) hP hD hS hA [0, 3, 4, 5] [1, 2] rfl rfl (by decide) (by decide) (fun u265 H locs h265 hP hD hS hz hfr => ?_)
        have hP : va_P D cls [aI D a2 6 ln, aI D a3 24 ks, oO mo 6 [.int 0, .ref a1, .int (nI nC), .ref a2, .ref a3, .ref a4, .ref a5, .ref a6, .ref a7, .ref a8, .ref a9, .int (nI nS), .ref a10, .int (nI nM), .ref a11], aI D a4 384 (upd tm ((16 * (4 * i + j)) + d) u0), aI D a5 384 (upd wo ((16 * (4 * i + j)) + d) v0), aI D a6 384 (upd ea ((16 * (4 * i + j)) + d) e0)] H := hP
        have hD : va_D A [aI D a2 6 ln, aI D a3 24 ks, oO mo 6 [.int 0, .ref a1, .int (nI nC), .ref a2, .ref a3, .ref a4, .ref a5, .ref a6, .ref a7, .ref a8, .ref a9, .int (nI nS), .ref a10, .int (nI nM), .ref a11], aI D a4 384 (upd tm ((16 * (4 * i + j)) + d) u0), aI D a5 384 (upd wo ((16 * (4 * i + j)) + d) v0), aI D a6 384 (upd ea ((16 * (4 * i + j)) + d) e0)] := hD
        refine lv_aload_n hx hb dX6_key_268 rfl (lv_at hl 1 rfl) ?_
        refine va_get (D := D) (ci := 6) (v := .ref a3) (C := RX6) (T := TX6) (N := 15) hx hb hts inlX6 hown hG.K hP 2 rfl rfl 4 (by decide) (hts _ mF_X6_16) (fun _ h9 => h9) rfl dX6_key_269 ?_
        refine lv_iload hx hb dX6_key_272 (lv_at hl 7 rfl) ?_
        refine ild (n := 24) (j := 4 * i + j) hx hb hG hP 1 rfl (by omega) (by omega) dX6_key_274 ?_
        refine tpi (y := nI n) (hks) ?_
        refine Wi () hx hb hr hlk ?_ (hP.sub [2, 0, 1, 3, 4, 5] rfl) (hD.sub [2, 0, 1, 3, 4, 5] (by decide) rfl) hS (Nat.le_of_ble_eq_true rfl) (by first | exact Nat.le_of_ble_eq_true rfl | exact Nat.le_of_eq (Nat.zero_add _)) dX6_key_275
        exact rfl
      · skip
        have n83 := mt (nI_leI (a := n) (b := k) (by omega) (by omega)).mpr c83
        have n83x : k < n := by omega
        refine lv_aload_n hx hb dX6_key_86 rfl (lv_at hl 0 rfl) ?_
        refine va_get (D := D) (ci := 6) (v := .ref a4) (C := RX6) (T := TX6) (N := 15) hx hb hts inlX6 hown hG.K hP 0 rfl rfl 5 (by decide) (hts _ mF_X6_19) (fun _ h9 => h9) rfl dX6_key_87 ?_
        refine lv_iload hx hb dX6_key_90 (lv_at hl 6 rfl) ?_
        have hP9 : va_P D cls [] H := fun k q h => by simp at h
        refine vp_callSi (pS (rest := [.ref a4]) [.int (nI (4 * i + j))] 1 hC (m_row l D (j := 4 * i + j) ) (gS mM_X6_78 mT_X6_row mN_X6 mC_X6_row) (by decide +kernel) rfl rfl ⟨Nat.le_of_ble_eq_true rfl, Nat.le_of_ble_eq_true rfl⟩ hG hP9 rfl hl.1 rfl (Nat.le_of_ble_eq_true rfl) dX6_key_92 ⟨Nat.le_of_ble_eq_true rfl, Nat.le_of_ble_eq_true rfl⟩) (fun r92 h92 => ?_)
        obtain rfl : r92 = (nI (16 * (4 * i + j))) := h92
        refine lv_iload hx hb dX6_key_95 (lv_at hl 7 rfl) ?_
        refine lv_iadd hx hb dX6_key_97 ?_
        refine tpi (y := nI ((16 * (4 * i + j)) + k)) (nI_add (16 * (4 * i + j)) k) ?_
        refine ild (n := 384) (j := (16 * (4 * i + j)) + k) hx hb hG hP 3 rfl (by omega) (by omega) dX6_key_98 ?_
        refine lv_iload_n hx hb dX6_key_99 rfl (lv_at hl 3 rfl) ?_
        refine lv_icmp_ge (tgt := 109) hx hb dX6_key_100 (by decide) (fun c100 => ?_) (fun c100 => ?_)
        · skip
          have hk9 : k = d := Nat.le_antisymm hk (Nat.le_of_not_lt (fun h9 => absurd (hlt k h9) (Int32.not_lt.mpr c100)))
          subst k
          refine lv_iload hx hb dX6_key_109 (lv_at hl 7 rfl) ?_
          refine lv_aload_n hx hb dX6_key_111 rfl (lv_at hl 0 rfl) ?_
          refine va_get (D := D) (ci := 6) (v := .ref a3) (C := RX6) (T := TX6) (N := 15) hx hb hts inlX6 hown hG.K hP 0 rfl rfl 4 (by decide) (hts _ mF_X6_16) (fun _ h9 => h9) rfl dX6_key_112 ?_
          refine lv_iload hx hb dX6_key_115 (lv_at hl 6 rfl) ?_
          refine ild (n := 24) (j := 4 * i + j) hx hb hG hP 2 rfl (by omega) (by omega) dX6_key_117 ?_
          refine tpi (y := nI n) (hks) ?_
          refine lv_icmp_ge (tgt := 142) hx hb dX6_key_118 (by decide) (fun h9 => absurd ((nI_leI (a := n) (b := d) (by omega) (by omega)).mp h9) (by omega)) (fun _ => ?_)
          refine lv_aload_n hx hb dX6_key_121 rfl (lv_at hl 0 rfl) ?_
          refine va_get (D := D) (ci := 6) (v := .ref a4) (C := RX6) (T := TX6) (N := 15) hx hb hts inlX6 hown hG.K hP 0 rfl rfl 5 (by decide) (hts _ mF_X6_19) (fun _ h9 => h9) rfl dX6_key_122 ?_
          refine lv_iload hx hb dX6_key_125 (lv_at hl 6 rfl) ?_
          have hP9 : va_P D cls [] H := fun k q h => by simp at h
          refine vp_callSi (pS (rest := [.ref a4]) [.int (nI (4 * i + j))] 1 hC (m_row l D (j := 4 * i + j) ) (gS mM_X6_78 mT_X6_row mN_X6 mC_X6_row) (by decide +kernel) rfl rfl ⟨Nat.le_of_ble_eq_true rfl, Nat.le_of_ble_eq_true rfl⟩ hG hP9 rfl hl.1 rfl (Nat.le_of_ble_eq_true rfl) dX6_key_127 ⟨Nat.le_of_ble_eq_true rfl, Nat.le_of_ble_eq_true rfl⟩) (fun r127 h127 => ?_)
          obtain rfl : r127 = (nI (16 * (4 * i + j))) := h127
          refine lv_iload hx hb dX6_key_130 (lv_at hl 7 rfl) ?_
          refine lv_iadd hx hb dX6_key_132 ?_
          refine tpi (y := nI ((16 * (4 * i + j)) + d)) (nI_add (16 * (4 * i + j)) d) ?_
          refine ild (n := 384) (j := (16 * (4 * i + j)) + d) hx hb hG hP 3 rfl (by omega) (by omega) dX6_key_133 ?_
          refine lv_iload_n hx hb dX6_key_134 rfl (lv_at hl 3 rfl) ?_
          refine lv_icmp_ne (tgt := 142) hx hb dX6_key_135 (by decide) (fun c135 => absurd (heq) c135) (fun c135 => ?_)
          refine lv_iconst (v := 1) hx hb dX6_key_138 (by decide) ?_
          refine lv_goto (tgt := 143) hx hb dX6_key_139 (by decide) ?_
          refine lv_istore (lv' := [(8, .int 1), (0, .ref mo), (1, .int (nI i)), (2, .int (nI j)), (3, .int u0), (4, .int v0), (5, .int e0), (6, .int (nI (4 * i + j))), (7, .int (nI d))]) hx hb dX6_key_143 hl (by decide) rfl (fun ls hl => ?_)
          refine lv_iload hx hb dX6_key_145 (lv_at hl 0 rfl) ?_
          refine lv_if_ne (tgt := 168) hx hb dX6_key_147 (by decide) (fun _ => ?_) (fun h9 => absurd h9 (by decide))
          refine lv_iload hx hb dX6_key_168 (lv_at hl 0 rfl) ?_
          refine lv_if_ne (tgt := 251) hx hb dX6_key_170 (by decide) (fun _ => ?_) (fun h9 => absurd h9 (by decide))
          refine lv_aload_n hx hb dX6_key_251 rfl (lv_at hl 1 rfl) ?_
          refine lv_iload hx hb dX6_key_252 (lv_at hl 7 rfl) ?_
          have hP9 : va_P D cls [] H := fun k q h => by simp at h
          refine vp_callSi (pS (rest := [.ref mo]) [.int (nI (4 * i + j))] 1 hC (m_row l D (j := 4 * i + j) ) (gS mM_X6_78 mT_X6_row mN_X6 mC_X6_row) (by decide +kernel) rfl rfl ⟨Nat.le_of_ble_eq_true rfl, Nat.le_of_ble_eq_true rfl⟩ hG hP9 rfl hl.1 rfl (Nat.le_of_ble_eq_true rfl) dX6_key_254 ⟨Nat.le_of_ble_eq_true rfl, Nat.le_of_ble_eq_true rfl⟩) (fun r254 h254 => ?_)
          obtain rfl : r254 = (nI (16 * (4 * i + j))) := h254
          refine lv_iload hx hb dX6_key_257 (lv_at hl 8 rfl) ?_
          refine lv_iadd hx hb dX6_key_259 ?_
          refine tpi (y := nI ((16 * (4 * i + j)) + d)) (nI_add (16 * (4 * i + j)) d) ?_
          refine lv_iload_n hx hb dX6_key_260 rfl (lv_at hl 4 rfl) ?_
          refine lv_iload hx hb dX6_key_261 (lv_at hl 5 rfl) ?_
          refine lv_iload hx hb dX6_key_263 (lv_at hl 6 rfl) ?_
          have hP9 := hP.sub (ws' := [oO mo 6 [.int 0, .ref a1, .int (nI nC), .ref a2, .ref a3, .ref a4, .ref a5, .ref a6, .ref a7, .ref a8, .ref a9, .int (nI nS), .ref a10, .int (nI nM), .ref a11], aI D a4 384 tm, aI D a5 384 wo, aI D a6 384 ea]) [0, 3, 4, 5] rfl
          have hD9 := (hD.sub (ws' := [oO mo 6 [.int 0, .ref a1, .int (nI nC), .ref a2, .ref a3, .ref a4, .ref a5, .ref a6, .ref a7, .ref a8, .ref a9, .int (nI nS), .ref a10, .int (nI nM), .ref a11], aI D a4 384 tm, aI D a5 384 wo, aI D a6 384 ea]) [0, 3, 4, 5] (by decide) rfl).weaken (B := fun _ => True) (fun _ _ _ _ => trivial)
          refine kv (wr := [aI D a2 6 ln, aI D a3 24 ks]) (rV (rest := []) (qc := (RX6, TX6, 15)) [.int (nI ((16 * (4 * i + j)) + d)), .int u0, .int v0, .int e0] 4 0 0 hC (m_put l D (mo := mo) (k := (16 * (4 * i + j)) + d) (x := u0) (y := v0) (z := e0) (th := 0) (a1 := a1) (nC := nC) (a2 := a2) (a3 := a3) (a4 := a4) (a5 := a5) (a6 := a6) (a7 := a7) (a8 := a8) (a9 := a9) (nS := nS) (a10 := a10) (nM := nM) (a11 := a11) (tm := tm) (wo := wo) (ea := ea) (hz0 := H.size) (by omega)) rfl (hP 0 _ rfl) (gV mM_X6_81 mI_X6_put mS_X6_put mN_X6 mC_X6_put) (by decide +kernel) rfl rfl ⟨Nat.le_of_ble_eq_true rfl, Nat.le_of_ble_eq_true rfl⟩ hG hP9 hD9 rfl hl.1 rfl (Nat.le_of_ble_eq_true rfl) dX6_key_265 ⟨Nat.le_of_ble_eq_true rfl, Nat.le_of_ble_eq_true rfl⟩) hP hD hS hA [0, 3, 4, 5] [1, 2] rfl rfl (by decide) (by decide) (fun u265 H locs h265 hP hD hS hz hfr => ?_)
          have hP : va_P D cls [aI D a2 6 ln, aI D a3 24 ks, oO mo 6 [.int 0, .ref a1, .int (nI nC), .ref a2, .ref a3, .ref a4, .ref a5, .ref a6, .ref a7, .ref a8, .ref a9, .int (nI nS), .ref a10, .int (nI nM), .ref a11], aI D a4 384 (upd tm ((16 * (4 * i + j)) + d) u0), aI D a5 384 (upd wo ((16 * (4 * i + j)) + d) v0), aI D a6 384 (upd ea ((16 * (4 * i + j)) + d) e0)] H := hP
          have hD : va_D A [aI D a2 6 ln, aI D a3 24 ks, oO mo 6 [.int 0, .ref a1, .int (nI nC), .ref a2, .ref a3, .ref a4, .ref a5, .ref a6, .ref a7, .ref a8, .ref a9, .int (nI nS), .ref a10, .int (nI nM), .ref a11], aI D a4 384 (upd tm ((16 * (4 * i + j)) + d) u0), aI D a5 384 (upd wo ((16 * (4 * i + j)) + d) v0), aI D a6 384 (upd ea ((16 * (4 * i + j)) + d) e0)] := hD
          refine lv_aload_n hx hb dX6_key_268 rfl (lv_at hl 1 rfl) ?_
          refine va_get (D := D) (ci := 6) (v := .ref a3) (C := RX6) (T := TX6) (N := 15) hx hb hts inlX6 hown hG.K hP 2 rfl rfl 4 (by decide) (hts _ mF_X6_16) (fun _ h9 => h9) rfl dX6_key_269 ?_
          refine lv_iload hx hb dX6_key_272 (lv_at hl 7 rfl) ?_
          refine ild (n := 24) (j := 4 * i + j) hx hb hG hP 1 rfl (by omega) (by omega) dX6_key_274 ?_
          refine tpi (y := nI n) (hks) ?_
          refine Wi () hx hb hr hlk ?_ (hP.sub [2, 0, 1, 3, 4, 5] rfl) (hD.sub [2, 0, 1, 3, 4, 5] (by decide) rfl) hS (Nat.le_of_ble_eq_true rfl) (by first | exact Nat.le_of_ble_eq_true rfl | exact Nat.le_of_eq (Nat.zero_add _)) dX6_key_275
          exact rfl
        · skip
          refine lv_iinc (v := nI (k + 1)) (lv' := [(7, .int (nI (k + 1))), (0, .ref mo), (1, .int (nI i)), (2, .int (nI j)), (3, .int u0), (4, .int v0), (5, .int e0), (6, .int (nI (4 * i + j)))]) hx hb dX6_key_103 hl (k := 7) rfl (nI_1 _) (by decide) rfl (fun ls hl => ?_)
          refine lv_goto (tgt := 74) hx hb dX6_key_106 (by decide) ?_
          exact ih74 (k + 1) (by omega) (Nat.lt_of_le_of_ne hk (fun h9 => by
                      subst h9
                      exact hge n83x (Int32.not_le.mp c100))) _ (lv_sub hl [1, 2, 3, 4, 5, 6, 7, 0] rfl)
  exact loop74 _ 0 (Nat.lt_succ_self _) (by omega) _ (lv_sub hl [2, 3, 4, 5, 6, 7, 1, 0] rfl)
set_option maxHeartbeats 400000 in
set_option maxRecDepth 100000 in
theorem m_key_ins (l : Launch) (D : va_G) {mo a1 a2 a3 a4 a5 a6 a7 a8 a9 a10 a11 nC nS nM : Nat} {th : Int32} {ln ks tm wo ea : Nat → Int32} {i j : Nat} {n d : Nat} {u0 v0 e0 : Int32} (hz0 : Nat) (hn : nC ≤ 6) (hi : i < nC) (hj : j < 4) (h : (0 ≤ u0 ∧ u0 ≤ ln i) ∧ ((-10000 : Int32) ≤ v0 ∧ v0 ≤ 10000) ∧ ((0 : Int32) ≤ e0 ∧ e0 ≤ 4)) (hks : ks (4 * i + j) = nI n) (h16 : n < 16) (hni : ¬ (d < n ∧ tm (16 * (4 * i + j) + d) = u0)) (ha : d ≤ n) (hlt : ∀ k, k < d → tm (16 * (4 * i + j) + k) < u0) (hge : d < n → ¬ tm (16 * (4 * i + j) + d) < u0) : Met l yX6_key (ws_ yX6_key cX6_key 10 (some .int)) ({ frames := 3, cells := 0, slots := 0, locals := 65 } : Room) (va_Pc [.ref mo, .int (nI i), .int (nI j), .int u0, .int v0, .int e0] (SW D [oO mo 6 [.int th, .ref a1, .int (nI nC), .ref a2, .ref a3, .ref a4, .ref a5, .ref a6, .ref a7, .ref a8, .ref a9, .int (nI nS), .ref a10, .int (nI nM), .ref a11], aI D a2 6 ln, aI D a3 24 ks, aI D a4 384 tm, aI D a5 384 wo, aI D a6 384 ea] hz0)) (va_Qi (fun v _ => v = nI (n + 1)) (AT D (va_A [oO mo 6 [.int th, .ref a1, .int (nI nC), .ref a2, .ref a3, .ref a4, .ref a5, .ref a6, .ref a7, .ref a8, .ref a9, .int (nI nS), .ref a10, .int (nI nM), .ref a11], aI D a2 6 ln, aI D a3 24 ks, aI D a4 384 tm, aI D a5 384 wo, aI D a6 384 ea] hz0) (fun _ : Unit => [oO mo 6 [.int 0, .ref a1, .int (nI nC), .ref a2, .ref a3, .ref a4, .ref a5, .ref a6, .ref a7, .ref a8, .ref a9, .int (nI nS), .ref a10, .int (nI nM), .ref a11], aI D a2 6 ln, aI D a3 24 (upd ks (4 * i + j) (nI (n + 1))), aI D a4 384 (insF tm (16 * (4 * i + j) + d) (16 * (4 * i + j) + n) u0), aI D a5 384 (insF wo (16 * (4 * i + j) + d) (16 * (4 * i + j) + n) v0), aI D a6 384 (insF ea (16 * (4 * i + j) + d) (16 * (4 * i + j) + n) e0)])) (va_A [oO mo 6 [.int th, .ref a1, .int (nI nC), .ref a2, .ref a3, .ref a4, .ref a5, .ref a6, .ref a7, .ref a8, .ref a9, .int (nI nS), .ref a10, .int (nI nM), .ref a11], aI D a2 6 ln, aI D a3 24 ks, aI D a4 384 tm, aI D a5 384 wo, aI D a6 384 ea] hz0)) 0 0 (va_A [oO mo 6 [.int th, .ref a1, .int (nI nC), .ref a2, .ref a3, .ref a4, .ref a5, .ref a6, .ref a7, .ref a8, .ref a9, .int (nI nS), .ref a10, .int (nI nM), .ref a11], aI D a2 6 ln, aI D a3 24 ks, aI D a4 384 tm, aI D a5 384 wo, aI D a6 384 ea] hz0) := by
  refine Met.ofW (cc := cX6_key) (maxL := 10) (ret := (some .int)) (by decide) rfl ?_
  intro p e s m args below meth c s₁ B hml hv
  obtain ⟨rfl, hsz, hG, hP, hD0⟩ := hv
  have hx := B.exec
  have hb := B.bytes
  have hr := B.returns
  have hts : ∀ w ∈ wsL_law, w.before _ s = true := fun w h => atoms_spec (ws := (ws_ yX6_key cX6_key 10 (some .int))) B.pre w (List.mem_cons_of_mem _ h)
  have hown : s.vm.findClass RX6 = some m.cls := findClass_of_methodNamed B.named
  have hlk := B.notSynchronized
  have hC : CallFix p m c cX6_key 10 s _ wsL_law RX6 := ⟨hx, hb, hml, hown, hts⟩
  subst hsz
  have hD := hD0.self (sz := s.heap.size)
  generalize hAe : va_A [oO mo 6 [.int th, .ref a1, .int (nI nC), .ref a2, .ref a3, .ref a4, .ref a5, .ref a6, .ref a7, .ref a8, .ref a9, .int (nI nS), .ref a10, .int (nI nM), .ref a11], aI D a2 6 ln, aI D a3 24 ks, aI D a4 384 tm, aI D a5 384 wo, aI D a6 384 ea] s.heap.size = A at hD ⊢
  have hA : ∀ q : Nat, s.heap.size ≤ q → A q := fun q h => by rw [← hAe]; exact Or.inr h
  have hS : va_S A s.heap s.heap [] := va_S.rf
  obtain ⟨H, hHe⟩ : ∃ H, H = s.heap := ⟨_, rfl⟩
  rw [← hHe] at hP
  have hS : va_S A s.heap H [] := by rw [hHe]; exact hS
  have hl := lv_entry ([.ref mo, .int (nI i), .int (nI j), .int u0, .int v0, .int e0]) (n := 10) (Nat.le_of_ble_eq_true rfl)
  rw [lg_entry_eq]
  generalize (lg_sl ([.ref mo, .int (nI i), .int (nI j), .int u0, .int v0, .int e0]) ++ List.replicate (10 - (lg_sl ([.ref mo, .int (nI i), .int (nI j), .int u0, .int v0, .int e0])).length) Slot.unset).toArray = ls at hl ⊢
  have hl : lv_has ls 10 [(0, .ref mo), (1, .int (nI i)), (2, .int (nI j)), (3, .int u0), (4, .int v0), (5, .int e0)] := hl
  rw [← hHe]
  refine lv_aload_n hx hb dX6_key_0 rfl (lv_at hl 0 rfl) ?_
  refine lv_iconst (v := 0) hx hb dX6_key_1 (by decide) ?_
  refine va_put (D := D) (ci := 6) (v := .int 0) (ty := .int) (C := RX6) (T := TX6) (N := 15) hx hb hts inlX6 tyX6 tyX6_ok nmX6 hown hG.K hP hD hS 0 rfl rfl 0 (by decide) (hts _ mF_X6_43) (fun _ h9 => h9) rfl (by decide +kernel) rfl rfl (Nat.le_of_ble_eq_true rfl) dX6_key_2 (fun H locs hP hD hS => ?_)
  have hP : va_P D cls [oO mo 6 [.int 0, .ref a1, .int (nI nC), .ref a2, .ref a3, .ref a4, .ref a5, .ref a6, .ref a7, .ref a8, .ref a9, .int (nI nS), .ref a10, .int (nI nM), .ref a11], aI D a2 6 ln, aI D a3 24 ks, aI D a4 384 tm, aI D a5 384 wo, aI D a6 384 ea] H := hP
  have hD : va_D A [oO mo 6 [.int 0, .ref a1, .int (nI nC), .ref a2, .ref a3, .ref a4, .ref a5, .ref a6, .ref a7, .ref a8, .ref a9, .int (nI nS), .ref a10, .int (nI nM), .ref a11], aI D a2 6 ln, aI D a3 24 ks, aI D a4 384 tm, aI D a5 384 wo, aI D a6 384 ea] := hD
  refine lv_aload_n hx hb dX6_key_5 rfl (lv_at hl 0 rfl) ?_
  refine lv_iload_n hx hb dX6_key_6 rfl (lv_at hl 1 rfl) ?_
  refine lv_iload_n hx hb dX6_key_7 rfl (lv_at hl 2 rfl) ?_
  have hP9 := hP.sub (ws' := [oO mo 6 [.int 0, .ref a1, .int (nI nC), .ref a2, .ref a3, .ref a4, .ref a5, .ref a6, .ref a7, .ref a8, .ref a9, .int (nI nS), .ref a10, .int (nI nM), .ref a11]]) [0] rfl
  refine vp_callSi (pV (rest := []) (qc := (RX6, TX6, 15)) [.int (nI i), .int (nI j)] 2 hC (m_isTrack l D (mo := mo) (i := i) (j := j) (th := 0) (a1 := a1) (nC := nC) (a2 := a2) (a3 := a3) (a4 := a4) (a5 := a5) (a6 := a6) (a7 := a7) (a8 := a8) (a9 := a9) (nS := nS) (a10 := a10) (nM := nM) (a11 := a11) (by omega) (by omega) (by omega)) rfl (hP 0 _ rfl) (gV mM_X6_74 mI_X6_isTrack mS_X6_isTrack mN_X6 mC_X6_isTrack) (by decide +kernel) rfl rfl ⟨Nat.le_of_ble_eq_true rfl, Nat.le_of_ble_eq_true rfl⟩ hG hP9 rfl hl.1 rfl (Nat.le_of_ble_eq_true rfl) dX6_key_8 ⟨Nat.le_of_ble_eq_true rfl, Nat.le_of_ble_eq_true rfl⟩) (fun r8 h8 => ?_)
  obtain rfl : r8 = 1 := h8
  refine lv_if_ne (tgt := 20) hx hb dX6_key_11 (by decide) (fun _ => ?_) (fun h9 => absurd h9 (by decide))
  refine lv_iload_n hx hb dX6_key_20 rfl (lv_at hl 3 rfl) ?_
  refine lv_iconst (v := 0) hx hb dX6_key_21 (by decide) ?_
  refine lv_aload_n hx hb dX6_key_22 rfl (lv_at hl 0 rfl) ?_
  refine va_get (D := D) (ci := 6) (v := .ref a2) (C := RX6) (T := TX6) (N := 15) hx hb hts inlX6 hown hG.K hP 0 rfl rfl 3 (by decide) (hts _ mF_X6_13) (fun _ h9 => h9) rfl dX6_key_23 ?_
  refine lv_iload_n hx hb dX6_key_26 rfl (lv_at hl 1 rfl) ?_
  refine ild (n := 6) (j := i) hx hb hG hP 1 rfl (by omega) (by omega) dX6_key_27 ?_
  have hP9 : va_P D cls [] H := fun k q h => by simp at h
  refine vp_callSi (pS (rest := []) [.int u0, .int 0, .int (ln i)] 3 hC (m_isIn l D (x := u0) (a := 0) (b := ln i) ) (gS mM_X6_50 mT_X6_isIn mN_X6 mC_X6_isIn) (by decide +kernel) rfl rfl ⟨Nat.le_of_ble_eq_true rfl, Nat.le_of_ble_eq_true rfl⟩ hG hP9 rfl hl.1 rfl (Nat.le_of_ble_eq_true rfl) dX6_key_28 ⟨Nat.le_of_ble_eq_true rfl, Nat.le_of_ble_eq_true rfl⟩) (fun r28 h28 => ?_)
  rcases h28 with ⟨rfl, hb28⟩ | ⟨rfl, hb28⟩
  rotate_left
  · exact absurd (h.1) hb28
  refine lv_if_eq (tgt := 58) hx hb dX6_key_31 (by decide) (fun h9 => absurd h9 (by decide)) (fun _ => ?_)
  refine lv_iload hx hb dX6_key_34 (lv_at hl 4 rfl) ?_
  refine lv_sipush (v := -10000) hx hb dX6_key_36 (by decide) ?_
  refine lv_sipush (v := 10000) hx hb dX6_key_39 (by decide) ?_
  have hP9 : va_P D cls [] H := fun k q h => by simp at h
  refine vp_callSi (pS (rest := []) [.int v0, .int (-10000), .int 10000] 3 hC (m_isIn l D (x := v0) (a := -10000) (b := 10000) ) (gS mM_X6_50 mT_X6_isIn mN_X6 mC_X6_isIn) (by decide +kernel) rfl rfl ⟨Nat.le_of_ble_eq_true rfl, Nat.le_of_ble_eq_true rfl⟩ hG hP9 rfl hl.1 rfl (Nat.le_of_ble_eq_true rfl) dX6_key_42 ⟨Nat.le_of_ble_eq_true rfl, Nat.le_of_ble_eq_true rfl⟩) (fun r42 h42 => ?_)
  rcases h42 with ⟨rfl, hb42⟩ | ⟨rfl, hb42⟩
  rotate_left
  · exact absurd (h.2.1) hb42
  refine lv_if_eq (tgt := 58) hx hb dX6_key_45 (by decide) (fun h9 => absurd h9 (by decide)) (fun _ => ?_)
  refine lv_iload hx hb dX6_key_48 (lv_at hl 5 rfl) ?_
  refine lv_iconst (v := 0) hx hb dX6_key_50 (by decide) ?_
  refine lv_iconst (v := 4) hx hb dX6_key_51 (by decide) ?_
  have hP9 : va_P D cls [] H := fun k q h => by simp at h
  refine vp_callSi (pS (rest := []) [.int e0, .int 0, .int 4] 3 hC (m_isIn l D (x := e0) (a := 0) (b := 4) ) (gS mM_X6_50 mT_X6_isIn mN_X6 mC_X6_isIn) (by decide +kernel) rfl rfl ⟨Nat.le_of_ble_eq_true rfl, Nat.le_of_ble_eq_true rfl⟩ hG hP9 rfl hl.1 rfl (Nat.le_of_ble_eq_true rfl) dX6_key_52 ⟨Nat.le_of_ble_eq_true rfl, Nat.le_of_ble_eq_true rfl⟩) (fun r52 h52 => ?_)
  rcases h52 with ⟨rfl, hb52⟩ | ⟨rfl, hb52⟩
  rotate_left
  · exact absurd (h.2.2) hb52
  refine lv_if_ne (tgt := 64) hx hb dX6_key_55 (by decide) (fun _ => ?_) (fun h9 => absurd h9 (by decide))
  refine lv_iconst (v := 4) hx hb dX6_key_64 (by decide) ?_
  refine lv_iload_n hx hb dX6_key_65 rfl (lv_at hl 1 rfl) ?_
  refine lv_imul hx hb dX6_key_66 ?_
  refine tpi (y := nI (4 * i)) (pk_mul 4 i) ?_
  refine lv_iload_n hx hb dX6_key_67 rfl (lv_at hl 2 rfl) ?_
  refine lv_iadd hx hb dX6_key_68 ?_
  refine tpi (y := nI ((4 * i) + j)) (nI_add (4 * i) j) ?_
  refine lv_istore (lv' := [(6, .int (nI ((4 * i) + j))), (0, .ref mo), (1, .int (nI i)), (2, .int (nI j)), (3, .int u0), (4, .int v0), (5, .int e0)]) hx hb dX6_key_69 hl (by decide) rfl (fun ls hl => ?_)
  refine lv_iconst (v := 0) hx hb dX6_key_71 (by decide) ?_
  refine lv_istore (lv' := [(7, .int 0), (6, .int (nI ((4 * i) + j))), (0, .ref mo), (1, .int (nI i)), (2, .int (nI j)), (3, .int u0), (4, .int v0), (5, .int e0)]) hx hb dX6_key_72 hl (by decide) rfl (fun ls hl => ?_)
  have loop74 : ∀ (d9 : Nat) (k : Nat), (d + 1 - k) < d9 → (k ≤ d) → ∀ (ls : Array Slot), lv_has ls 10 [(0, .ref mo), (1, .int (nI i)), (2, .int (nI j)), (3, .int u0), (4, .int v0), (5, .int e0), (6, .int (nI (4 * i + j))), (7, .int (nI k))] → W p l e ({ frames := 3, cells := 0, slots := 0, locals := 65 } : Room) s m ([.ref mo, .int (nI i), .int (nI j), .int u0, .int v0, .int e0] : List Value).toArray below meth c H locs 0 0 (MQ below (va_Qi (fun v _ => v = nI (n + 1)) (AT D A (fun _ : Unit => [oO mo 6 [.int 0, .ref a1, .int (nI nC), .ref a2, .ref a3, .ref a4, .ref a5, .ref a6, .ref a7, .ref a8, .ref a9, .int (nI nS), .ref a10, .int (nI nM), .ref a11], aI D a2 6 ln, aI D a3 24 (upd ks (4 * i + j) (nI (n + 1))), aI D a4 384 (insF tm (16 * (4 * i + j) + d) (16 * (4 * i + j) + n) u0), aI D a5 384 (insF wo (16 * (4 * i + j) + d) (16 * (4 * i + j) + n) v0), aI D a6 384 (insF ea (16 * (4 * i + j) + d) (16 * (4 * i + j) + n) e0)])) A) ([.ref mo, .int (nI i), .int (nI j), .int u0, .int v0, .int e0] : List Value).toArray s 0 0 A) (F0 m 74 ls []) := by
    intro d9
    induction d9 with
    | zero => intro k hd; exact absurd hd (Nat.not_lt_zero _)
    | succ d9 ih74 =>
      intro k hd74 hk ls hl
      refine lv_iload hx hb dX6_key_74 (lv_at hl 7 rfl) ?_
      refine lv_aload_n hx hb dX6_key_76 rfl (lv_at hl 0 rfl) ?_
      refine va_get (D := D) (ci := 6) (v := .ref a3) (C := RX6) (T := TX6) (N := 15) hx hb hts inlX6 hown hG.K hP 0 rfl rfl 4 (by decide) (hts _ mF_X6_16) (fun _ h9 => h9) rfl dX6_key_77 ?_
      refine lv_iload hx hb dX6_key_80 (lv_at hl 6 rfl) ?_
      refine ild (n := 24) (j := 4 * i + j) hx hb hG hP 2 rfl (by omega) (by omega) dX6_key_82 ?_
      refine tpi (y := nI n) (hks) ?_
      refine lv_icmp_ge (tgt := 109) hx hb dX6_key_83 (by decide) (fun c83 => ?_) (fun c83 => ?_)
      · skip
        have n83 := (nI_leI (a := n) (b := k) (by omega) (by omega)).mp c83
        have hk9 : k = d := Nat.le_antisymm hk (by omega)
        subst k
        refine lv_iload hx hb dX6_key_109 (lv_at hl 7 rfl) ?_
        refine lv_aload_n hx hb dX6_key_111 rfl (lv_at hl 0 rfl) ?_
        refine va_get (D := D) (ci := 6) (v := .ref a3) (C := RX6) (T := TX6) (N := 15) hx hb hts inlX6 hown hG.K hP 0 rfl rfl 4 (by decide) (hts _ mF_X6_16) (fun _ h9 => h9) rfl dX6_key_112 ?_
        refine lv_iload hx hb dX6_key_115 (lv_at hl 6 rfl) ?_
        refine ild (n := 24) (j := 4 * i + j) hx hb hG hP 2 rfl (by omega) (by omega) dX6_key_117 ?_
        refine tpi (y := nI n) (hks) ?_
        refine lv_icmp_ge (tgt := 142) hx hb dX6_key_118 (by decide) (fun c118 => ?_) (fun c118 => ?_)
        · skip
          have n118 := (nI_leI (a := n) (b := d) (by omega) (by omega)).mp c118
          refine lv_iconst (v := 0) hx hb dX6_key_142 (by decide) ?_
          refine lv_istore (lv' := [(8, .int 0), (0, .ref mo), (1, .int (nI i)), (2, .int (nI j)), (3, .int u0), (4, .int v0), (5, .int e0), (6, .int (nI (4 * i + j))), (7, .int (nI d))]) hx hb dX6_key_143 hl (by decide) rfl (fun ls hl => ?_)
          refine lv_iload hx hb dX6_key_145 (lv_at hl 0 rfl) ?_
          refine lv_if_ne (tgt := 168) hx hb dX6_key_147 (by decide) (fun h9 => (h9 (by decide)).elim) (fun _ => ?_)
          refine lv_aload_n hx hb dX6_key_150 rfl (lv_at hl 1 rfl) ?_
          refine va_get (D := D) (ci := 6) (v := .ref a3) (C := RX6) (T := TX6) (N := 15) hx hb hts inlX6 hown hG.K hP 0 rfl rfl 4 (by decide) (hts _ mF_X6_16) (fun _ h9 => h9) rfl dX6_key_151 ?_
          refine lv_iload hx hb dX6_key_154 (lv_at hl 7 rfl) ?_
          refine ild (n := 24) (j := 4 * i + j) hx hb hG hP 2 rfl (by omega) (by omega) dX6_key_156 ?_
          refine tpi (y := nI n) (hks) ?_
          refine lv_bipush (v := 16) hx hb dX6_key_157 (by decide) ?_
          refine lv_icmp_ne (tgt := 168) hx hb dX6_key_159 (by decide) (fun _ => ?_) (fun h9 => absurd ((nI_eq (a := n) (b := 16) (by omega) (by omega)).mp h9) (by omega))
          refine lv_iload hx hb dX6_key_168 (lv_at hl 0 rfl) ?_
          refine lv_if_ne (tgt := 251) hx hb dX6_key_170 (by decide) (fun h9 => (h9 (by decide)).elim) (fun _ => ?_)
          refine lv_iload hx hb dX6_key_173 (lv_at hl 7 rfl) ?_
          have hP9 : va_P D cls [] H := fun k q h => by simp at h
          refine vp_callSi (pS (rest := []) [.int (nI (4 * i + j))] 1 hC (m_row l D (j := 4 * i + j) ) (gS mM_X6_78 mT_X6_row mN_X6 mC_X6_row) (by decide +kernel) rfl rfl ⟨Nat.le_of_ble_eq_true rfl, Nat.le_of_ble_eq_true rfl⟩ hG hP9 rfl hl.1 rfl (Nat.le_of_ble_eq_true rfl) dX6_key_175 ⟨Nat.le_of_ble_eq_true rfl, Nat.le_of_ble_eq_true rfl⟩) (fun r175 h175 => ?_)
          obtain rfl : r175 = (nI (16 * (4 * i + j))) := h175
          refine lv_aload_n hx hb dX6_key_178 rfl (lv_at hl 1 rfl) ?_
          refine va_get (D := D) (ci := 6) (v := .ref a3) (C := RX6) (T := TX6) (N := 15) hx hb hts inlX6 hown hG.K hP 0 rfl rfl 4 (by decide) (hts _ mF_X6_16) (fun _ h9 => h9) rfl dX6_key_179 ?_
          refine lv_iload hx hb dX6_key_182 (lv_at hl 7 rfl) ?_
          refine ild (n := 24) (j := 4 * i + j) hx hb hG hP 2 rfl (by omega) (by omega) dX6_key_184 ?_
          refine tpi (y := nI n) (hks) ?_
          refine lv_iadd hx hb dX6_key_185 ?_
          refine tpi (y := nI ((16 * (4 * i + j)) + n)) (nI_add (16 * (4 * i + j)) n) ?_
          refine lv_istore (lv' := [(9, .int (nI ((16 * (4 * i + j)) + n))), (8, .int 0), (0, .ref mo), (1, .int (nI i)), (2, .int (nI j)), (3, .int u0), (4, .int v0), (5, .int e0), (6, .int (nI (4 * i + j))), (7, .int (nI d))]) hx hb dX6_key_186 hl (by decide) rfl (fun ls hl => ?_)
          have loop188 : ∀ (d9 : Nat) (k : Nat), k < d9 → (16 * (4 * i + j) + d ≤ k) → (k ≤ 16 * (4 * i + j) + n) → ∀ (H : Heap) (locs : List Loc) (ls : Array Slot), va_P D cls [oO mo 6 [.int 0, .ref a1, .int (nI nC), .ref a2, .ref a3, .ref a4, .ref a5, .ref a6, .ref a7, .ref a8, .ref a9, .int (nI nS), .ref a10, .int (nI nM), .ref a11], aI D a2 6 ln, aI D a3 24 ks, aI D a4 384 (shF tm k (16 * (4 * i + j) + n)), aI D a5 384 (shF wo k (16 * (4 * i + j) + n)), aI D a6 384 (shF ea k (16 * (4 * i + j) + n))] H → va_D A [oO mo 6 [.int 0, .ref a1, .int (nI nC), .ref a2, .ref a3, .ref a4, .ref a5, .ref a6, .ref a7, .ref a8, .ref a9, .int (nI nS), .ref a10, .int (nI nM), .ref a11], aI D a2 6 ln, aI D a3 24 ks, aI D a4 384 (shF tm k (16 * (4 * i + j) + n)), aI D a5 384 (shF wo k (16 * (4 * i + j) + n)), aI D a6 384 (shF ea k (16 * (4 * i + j) + n))] → va_S A s.heap H locs → lv_has ls 10 [(0, .ref mo), (1, .int (nI i)), (2, .int (nI j)), (3, .int u0), (4, .int v0), (5, .int e0), (6, .int (nI (4 * i + j))), (7, .int (nI d)), (8, .int 0), (9, .int (nI k))] → W p l e ({ frames := 3, cells := 0, slots := 0, locals := 65 } : Room) s m ([.ref mo, .int (nI i), .int (nI j), .int u0, .int v0, .int e0] : List Value).toArray below meth c H locs 0 0 (MQ below (va_Qi (fun v _ => v = nI (n + 1)) (AT D A (fun _ : Unit => [oO mo 6 [.int 0, .ref a1, .int (nI nC), .ref a2, .ref a3, .ref a4, .ref a5, .ref a6, .ref a7, .ref a8, .ref a9, .int (nI nS), .ref a10, .int (nI nM), .ref a11], aI D a2 6 ln, aI D a3 24 (upd ks (4 * i + j) (nI (n + 1))), aI D a4 384 (insF tm (16 * (4 * i + j) + d) (16 * (4 * i + j) + n) u0), aI D a5 384 (insF wo (16 * (4 * i + j) + d) (16 * (4 * i + j) + n) v0), aI D a6 384 (insF ea (16 * (4 * i + j) + d) (16 * (4 * i + j) + n) e0)])) A) ([.ref mo, .int (nI i), .int (nI j), .int u0, .int v0, .int e0] : List Value).toArray s 0 0 A) (F0 m 188 ls []) := by
            intro d9
            induction d9 with
            | zero => intro k hd; exact absurd hd (Nat.not_lt_zero _)
            | succ d9 ih188 =>
              intro k hd188 hk1 hk2 H locs ls hP hD hS hl
              refine lv_iload hx hb dX6_key_188 (lv_at hl 9 rfl) ?_
              refine lv_iload hx hb dX6_key_190 (lv_at hl 6 rfl) ?_
              have hP9 : va_P D cls [] H := fun k q h => by simp at h
              refine vp_callSi (pS (rest := [.int (nI k)]) [.int (nI (4 * i + j))] 1 hC (m_row l D (j := 4 * i + j) ) (gS mM_X6_78 mT_X6_row mN_X6 mC_X6_row) (by decide +kernel) rfl rfl ⟨Nat.le_of_ble_eq_true rfl, Nat.le_of_ble_eq_true rfl⟩ hG hP9 rfl hl.1 rfl (Nat.le_of_ble_eq_true rfl) dX6_key_192 ⟨Nat.le_of_ble_eq_true rfl, Nat.le_of_ble_eq_true rfl⟩) (fun r192 h192 => ?_)
              obtain rfl : r192 = (nI (16 * (4 * i + j))) := h192
              refine lv_iload hx hb dX6_key_195 (lv_at hl 7 rfl) ?_
              refine lv_iadd hx hb dX6_key_197 ?_
              refine tpi (y := nI ((16 * (4 * i + j)) + d)) (nI_add (16 * (4 * i + j)) d) ?_
              refine lv_icmp_le (tgt := 240) hx hb dX6_key_198 (by decide) (fun c198 => ?_) (fun c198 => ?_)
              · skip
                have n198 := (nI_leI (a := k) (b := (16 * (4 * i + j)) + d) (by omega) (by omega)).mp c198
                have hk9 : k = 16 * (4 * i + j) + d := by omega
                subst k
                refine lv_aload_n hx hb dX6_key_240 rfl (lv_at hl 0 rfl) ?_
                refine va_get (D := D) (ci := 6) (v := .ref a3) (C := RX6) (T := TX6) (N := 15) hx hb hts inlX6 hown hG.K hP 0 rfl rfl 4 (by decide) (hts _ mF_X6_16) (fun _ h9 => h9) rfl dX6_key_241 ?_
                refine lv_iload hx hb dX6_key_244 (lv_at hl 6 rfl) ?_
                refine lv_dup2_11 hx hb dX6_key_246 rfl rfl ?_
                refine ild (n := 24) (j := 4 * i + j) hx hb hG hP 2 rfl (by omega) (by omega) dX6_key_247 ?_
                refine tpi (y := nI n) (hks) ?_
                refine lv_iconst (v := 1) hx hb dX6_key_248 (by decide) ?_
                refine lv_iadd hx hb dX6_key_249 ?_
                refine tpi (y := nI (n + 1)) (nI_add n 1) ?_
                refine ist (n := 24) (j := 4 * i + j) hx hb hG hP hD hS 2 rfl (by omega) (by omega) dX6_key_250 (fun H locs hP hD hS => ?_)
                have hP : va_P D cls [oO mo 6 [.int 0, .ref a1, .int (nI nC), .ref a2, .ref a3, .ref a4, .ref a5, .ref a6, .ref a7, .ref a8, .ref a9, .int (nI nS), .ref a10, .int (nI nM), .ref a11], aI D a2 6 ln, aI D a3 24 (upd ks (4 * i + j) (nI (n + 1))), aI D a4 384 (shF tm (16 * (4 * i + j) + d) (16 * (4 * i + j) + n)), aI D a5 384 (shF wo (16 * (4 * i + j) + d) (16 * (4 * i + j) + n)), aI D a6 384 (shF ea (16 * (4 * i + j) + d) (16 * (4 * i + j) + n))] H := hP
                have hD : va_D A [oO mo 6 [.int 0, .ref a1, .int (nI nC), .ref a2, .ref a3, .ref a4, .ref a5, .ref a6, .ref a7, .ref a8, .ref a9, .int (nI nS), .ref a10, .int (nI nM), .ref a11], aI D a2 6 ln, aI D a3 24 (upd ks (4 * i + j) (nI (n + 1))), aI D a4 384 (shF tm (16 * (4 * i + j) + d) (16 * (4 * i + j) + n)), aI D a5 384 (shF wo (16 * (4 * i + j) + d) (16 * (4 * i + j) + n)), aI D a6 384 (shF ea (16 * (4 * i + j) + d) (16 * (4 * i + j) + n))] := hD
                refine lv_aload_n hx hb dX6_key_251 rfl (lv_at hl 0 rfl) ?_
                refine lv_iload hx hb dX6_key_252 (lv_at hl 6 rfl) ?_
                have hP9 : va_P D cls [] H := fun k q h => by simp at h
                refine vp_callSi (pS (rest := [.ref mo]) [.int (nI (4 * i + j))] 1 hC (m_row l D (j := 4 * i + j) ) (gS mM_X6_78 mT_X6_row mN_X6 mC_X6_row) (by decide +kernel) rfl rfl ⟨Nat.le_of_ble_eq_true rfl, Nat.le_of_ble_eq_true rfl⟩ hG hP9 rfl hl.1 rfl (Nat.le_of_ble_eq_true rfl) dX6_key_254 ⟨Nat.le_of_ble_eq_true rfl, Nat.le_of_ble_eq_true rfl⟩) (fun r254 h254 => ?_)
                obtain rfl : r254 = (nI (16 * (4 * i + j))) := h254
                refine lv_iload hx hb dX6_key_257 (lv_at hl 7 rfl) ?_
                refine lv_iadd hx hb dX6_key_259 ?_
                refine tpi (y := nI ((16 * (4 * i + j)) + d)) (nI_add (16 * (4 * i + j)) d) ?_
                refine lv_iload_n hx hb dX6_key_260 rfl (lv_at hl 3 rfl) ?_
                refine lv_iload hx hb dX6_key_261 (lv_at hl 4 rfl) ?_
                refine lv_iload hx hb dX6_key_263 (lv_at hl 5 rfl) ?_
                have hP9 := hP.sub (ws' := [oO mo 6 [.int 0, .ref a1, .int (nI nC), .ref a2, .ref a3, .ref a4, .ref a5, .ref a6, .ref a7, .ref a8, .ref a9, .int (nI nS), .ref a10, .int (nI nM), .ref a11], aI D a4 384 (shF tm (16 * (4 * i + j) + d) (16 * (4 * i + j) + n)), aI D a5 384 (shF wo (16 * (4 * i + j) + d) (16 * (4 * i + j) + n)), aI D a6 384 (shF ea (16 * (4 * i + j) + d) (16 * (4 * i + j) + n))]) [0, 3, 4, 5] rfl
                have hD9 := (hD.sub (ws' := [oO mo 6 [.int 0, .ref a1, .int (nI nC), .ref a2, .ref a3, .ref a4, .ref a5, .ref a6, .ref a7, .ref a8, .ref a9, .int (nI nS), .ref a10, .int (nI nM), .ref a11], aI D a4 384 (shF tm (16 * (4 * i + j) + d) (16 * (4 * i + j) + n)), aI D a5 384 (shF wo (16 * (4 * i + j) + d) (16 * (4 * i + j) + n)), aI D a6 384 (shF ea (16 * (4 * i + j) + d) (16 * (4 * i + j) + n))]) [0, 3, 4, 5] (by decide) rfl).weaken (B := fun _ => True) (fun _ _ _ _ => trivial)
                refine kv (wr := [aI D a2 6 ln, aI D a3 24 (upd ks (4 * i + j) (nI (n + 1)))]) (rV (rest := []) (qc := (RX6, TX6, 15)) [.int (nI ((16 * (4 * i + j)) + d)), .int u0, .int v0, .int e0] 4 0 0 hC (m_put l D (mo := mo) (k := (16 * (4 * i + j)) + d) (x := u0) (y := v0) (z := e0) (th := 0) (a1 := a1) (nC := nC) (a2 := a2) (a3 := a3) (a4 := a4) (a5 := a5) (a6 := a6) (a7 := a7) (a8 := a8) (a9 := a9) (nS := nS) (a10 := a10) (nM := nM) (a11 := a11) (tm := shF tm (16 * (4 * i + j) + d) (16 * (4 * i + j) + n)) (wo := shF wo (16 * (4 * i + j) + d) (16 * (4 * i + j) + n)) (ea := shF ea (16 * (4 * i + j) + d) (16 * (4 * i + j) + n)) (hz0 := H.size) (by omega)) rfl (hP 0 _ rfl) (gV mM_X6_81 mI_X6_put mS_X6_put mN_X6 mC_X6_put) (by decide +kernel) rfl rfl ⟨Nat.le_of_ble_eq_true rfl, Nat.le_of_ble_eq_true rfl⟩ hG hP9 hD9 rfl hl.1 rfl (Nat.le_of_ble_eq_true rfl) dX6_key_265 ⟨Nat.le_of_ble_eq_true rfl, Nat.le_of_ble_eq_true rfl⟩) hP hD hS hA [0, 3, 4, 5] [1, 2] rfl rfl (by decide) (by decide) (fun u265 H locs h265 hP hD hS hz hfr => ?_)
                have hP : va_P D cls [aI D a2 6 ln, aI D a3 24 (upd ks (4 * i + j) (nI (n + 1))), oO mo 6 [.int 0, .ref a1, .int (nI nC), .ref a2, .ref a3, .ref a4, .ref a5, .ref a6, .ref a7, .ref a8, .ref a9, .int (nI nS), .ref a10, .int (nI nM), .ref a11], aI D a4 384 (upd (shF tm (16 * (4 * i + j) + d) (16 * (4 * i + j) + n)) ((16 * (4 * i + j)) + d) u0), aI D a5 384 (upd (shF wo (16 * (4 * i + j) + d) (16 * (4 * i + j) + n)) ((16 * (4 * i + j)) + d) v0), aI D a6 384 (upd (shF ea (16 * (4 * i + j) + d) (16 * (4 * i + j) + n)) ((16 * (4 * i + j)) + d) e0)] H := hP
                have hD : va_D A [aI D a2 6 ln, aI D a3 24 (upd ks (4 * i + j) (nI (n + 1))), oO mo 6 [.int 0, .ref a1, .int (nI nC), .ref a2, .ref a3, .ref a4, .ref a5, .ref a6, .ref a7, .ref a8, .ref a9, .int (nI nS), .ref a10, .int (nI nM), .ref a11], aI D a4 384 (upd (shF tm (16 * (4 * i + j) + d) (16 * (4 * i + j) + n)) ((16 * (4 * i + j)) + d) u0), aI D a5 384 (upd (shF wo (16 * (4 * i + j) + d) (16 * (4 * i + j) + n)) ((16 * (4 * i + j)) + d) v0), aI D a6 384 (upd (shF ea (16 * (4 * i + j) + d) (16 * (4 * i + j) + n)) ((16 * (4 * i + j)) + d) e0)] := hD
                refine lv_aload_n hx hb dX6_key_268 rfl (lv_at hl 0 rfl) ?_
                refine va_get (D := D) (ci := 6) (v := .ref a3) (C := RX6) (T := TX6) (N := 15) hx hb hts inlX6 hown hG.K hP 2 rfl rfl 4 (by decide) (hts _ mF_X6_16) (fun _ h9 => h9) rfl dX6_key_269 ?_
                refine lv_iload hx hb dX6_key_272 (lv_at hl 6 rfl) ?_
                refine ild (n := 24) (j := 4 * i + j) hx hb hG hP 1 rfl (by omega) (by omega) dX6_key_274 ?_
                refine tpi (y := nI (n + 1)) (if_pos rfl) ?_
                refine Wi () hx hb hr hlk ?_ (hP.sub [2, 0, 1, 3, 4, 5] rfl) (hD.sub [2, 0, 1, 3, 4, 5] (by decide) rfl) hS (Nat.le_of_ble_eq_true rfl) (by first | exact Nat.le_of_ble_eq_true rfl | exact Nat.le_of_eq (Nat.zero_add _)) dX6_key_275
                exact rfl
              · skip
                have n198 := mt (nI_leI (a := k) (b := (16 * (4 * i + j)) + d) (by omega) (by omega)).mpr c198
                refine lv_aload_n hx hb dX6_key_201 rfl (lv_at hl 0 rfl) ?_
                refine lv_iload hx hb dX6_key_202 (lv_at hl 9 rfl) ?_
                refine lv_aload_n hx hb dX6_key_204 rfl (lv_at hl 0 rfl) ?_
                refine va_get (D := D) (ci := 6) (v := .ref a4) (C := RX6) (T := TX6) (N := 15) hx hb hts inlX6 hown hG.K hP 0 rfl rfl 5 (by decide) (hts _ mF_X6_19) (fun _ h9 => h9) rfl dX6_key_205 ?_
                refine lv_iload hx hb dX6_key_208 (lv_at hl 9 rfl) ?_
                refine lv_iconst (v := 1) hx hb dX6_key_210 (by decide) ?_
                refine lv_isub hx hb dX6_key_211 ?_
                refine tpi (y := nI (k - 1)) (pk_sub (a := k) (b := 1) (by omega)) ?_
                refine ild (n := 384) (j := k - 1) hx hb hG hP 3 rfl (by omega) (by omega) dX6_key_212 ?_
                refine lv_aload_n hx hb dX6_key_213 rfl (lv_at hl 0 rfl) ?_
                refine va_get (D := D) (ci := 6) (v := .ref a5) (C := RX6) (T := TX6) (N := 15) hx hb hts inlX6 hown hG.K hP 0 rfl rfl 6 (by decide) (hts _ mF_X6_22) (fun _ h9 => h9) rfl dX6_key_214 ?_
                refine lv_iload hx hb dX6_key_217 (lv_at hl 9 rfl) ?_
                refine lv_iconst (v := 1) hx hb dX6_key_219 (by decide) ?_
                refine lv_isub hx hb dX6_key_220 ?_
                refine tpi (y := nI (k - 1)) (pk_sub (a := k) (b := 1) (by omega)) ?_
                refine ild (n := 384) (j := k - 1) hx hb hG hP 4 rfl (by omega) (by omega) dX6_key_221 ?_
                refine lv_aload_n hx hb dX6_key_222 rfl (lv_at hl 0 rfl) ?_
                refine va_get (D := D) (ci := 6) (v := .ref a6) (C := RX6) (T := TX6) (N := 15) hx hb hts inlX6 hown hG.K hP 0 rfl rfl 7 (by decide) (hts _ mF_X6_25) (fun _ h9 => h9) rfl dX6_key_223 ?_
                refine lv_iload hx hb dX6_key_226 (lv_at hl 9 rfl) ?_
                refine lv_iconst (v := 1) hx hb dX6_key_228 (by decide) ?_
                refine lv_isub hx hb dX6_key_229 ?_
                refine tpi (y := nI (k - 1)) (pk_sub (a := k) (b := 1) (by omega)) ?_
                refine ild (n := 384) (j := k - 1) hx hb hG hP 5 rfl (by omega) (by omega) dX6_key_230 ?_
                have hP9 := hP.sub (ws' := [oO mo 6 [.int 0, .ref a1, .int (nI nC), .ref a2, .ref a3, .ref a4, .ref a5, .ref a6, .ref a7, .ref a8, .ref a9, .int (nI nS), .ref a10, .int (nI nM), .ref a11], aI D a4 384 (shF tm k (16 * (4 * i + j) + n)), aI D a5 384 (shF wo k (16 * (4 * i + j) + n)), aI D a6 384 (shF ea k (16 * (4 * i + j) + n))]) [0, 3, 4, 5] rfl
                have hD9 := (hD.sub (ws' := [oO mo 6 [.int 0, .ref a1, .int (nI nC), .ref a2, .ref a3, .ref a4, .ref a5, .ref a6, .ref a7, .ref a8, .ref a9, .int (nI nS), .ref a10, .int (nI nM), .ref a11], aI D a4 384 (shF tm k (16 * (4 * i + j) + n)), aI D a5 384 (shF wo k (16 * (4 * i + j) + n)), aI D a6 384 (shF ea k (16 * (4 * i + j) + n))]) [0, 3, 4, 5] (by decide) rfl).weaken (B := fun _ => True) (fun _ _ _ _ => trivial)
                refine kv (wr := [aI D a2 6 ln, aI D a3 24 ks]) (rV (rest := []) (qc := (RX6, TX6, 15)) [.int (nI k), .int ((shF tm k (16 * (4 * i + j) + n)) (k - 1)), .int ((shF wo k (16 * (4 * i + j) + n)) (k - 1)), .int ((shF ea k (16 * (4 * i + j) + n)) (k - 1))] 4 0 0 hC (m_put l D (mo := mo) (k := k) (x := (shF tm k (16 * (4 * i + j) + n)) (k - 1)) (y := (shF wo k (16 * (4 * i + j) + n)) (k - 1)) (z := (shF ea k (16 * (4 * i + j) + n)) (k - 1)) (th := 0) (a1 := a1) (nC := nC) (a2 := a2) (a3 := a3) (a4 := a4) (a5 := a5) (a6 := a6) (a7 := a7) (a8 := a8) (a9 := a9) (nS := nS) (a10 := a10) (nM := nM) (a11 := a11) (tm := shF tm k (16 * (4 * i + j) + n)) (wo := shF wo k (16 * (4 * i + j) + n)) (ea := shF ea k (16 * (4 * i + j) + n)) (hz0 := H.size) (by omega)) rfl (hP 0 _ rfl) (gV mM_X6_81 mI_X6_put mS_X6_put mN_X6 mC_X6_put) (by decide +kernel) rfl rfl ⟨Nat.le_of_ble_eq_true rfl, Nat.le_of_ble_eq_true rfl⟩ hG hP9 hD9 rfl hl.1 rfl (Nat.le_of_ble_eq_true rfl) dX6_key_231 ⟨Nat.le_of_ble_eq_true rfl, Nat.le_of_ble_eq_true rfl⟩) hP hD hS hA [0, 3, 4, 5] [1, 2] rfl rfl (by decide) (by decide) (fun u231 H locs h231 hP hD hS hz hfr => ?_)
                have hP : va_P D cls [aI D a2 6 ln, aI D a3 24 ks, oO mo 6 [.int 0, .ref a1, .int (nI nC), .ref a2, .ref a3, .ref a4, .ref a5, .ref a6, .ref a7, .ref a8, .ref a9, .int (nI nS), .ref a10, .int (nI nM), .ref a11], aI D a4 384 (upd (shF tm k (16 * (4 * i + j) + n)) k ((shF tm k (16 * (4 * i + j) + n)) (k - 1))), aI D a5 384 (upd (shF wo k (16 * (4 * i + j) + n)) k ((shF wo k (16 * (4 * i + j) + n)) (k - 1))), aI D a6 384 (upd (shF ea k (16 * (4 * i + j) + n)) k ((shF ea k (16 * (4 * i + j) + n)) (k - 1)))] H := hP
                have hD : va_D A [aI D a2 6 ln, aI D a3 24 ks, oO mo 6 [.int 0, .ref a1, .int (nI nC), .ref a2, .ref a3, .ref a4, .ref a5, .ref a6, .ref a7, .ref a8, .ref a9, .int (nI nS), .ref a10, .int (nI nM), .ref a11], aI D a4 384 (upd (shF tm k (16 * (4 * i + j) + n)) k ((shF tm k (16 * (4 * i + j) + n)) (k - 1))), aI D a5 384 (upd (shF wo k (16 * (4 * i + j) + n)) k ((shF wo k (16 * (4 * i + j) + n)) (k - 1))), aI D a6 384 (upd (shF ea k (16 * (4 * i + j) + n)) k ((shF ea k (16 * (4 * i + j) + n)) (k - 1)))] := hD
                have hcv1 : (shF tm (k - 1) (16 * (4 * i + j) + n)) = (upd (shF tm k (16 * (4 * i + j) + n)) k ((shF tm k (16 * (4 * i + j) + n)) (k - 1))) := (shF_step (f := tm) (k := k) (sz := 16 * (4 * i + j) + n) (by omega) (by omega)).symm
                have hP := Eq.mpr (congrArg (fun z9 => va_P D cls [aI D a2 6 ln, aI D a3 24 ks, oO mo 6 [.int 0, .ref a1, .int (nI nC), .ref a2, .ref a3, .ref a4, .ref a5, .ref a6, .ref a7, .ref a8, .ref a9, .int (nI nS), .ref a10, .int (nI nM), .ref a11], aI D a4 384 z9, aI D a5 384 (upd (shF wo k (16 * (4 * i + j) + n)) k ((shF wo k (16 * (4 * i + j) + n)) (k - 1))), aI D a6 384 (upd (shF ea k (16 * (4 * i + j) + n)) k ((shF ea k (16 * (4 * i + j) + n)) (k - 1)))] H) hcv1) hP
                have hD := Eq.mpr (congrArg (fun z9 => va_D A [aI D a2 6 ln, aI D a3 24 ks, oO mo 6 [.int 0, .ref a1, .int (nI nC), .ref a2, .ref a3, .ref a4, .ref a5, .ref a6, .ref a7, .ref a8, .ref a9, .int (nI nS), .ref a10, .int (nI nM), .ref a11], aI D a4 384 z9, aI D a5 384 (upd (shF wo k (16 * (4 * i + j) + n)) k ((shF wo k (16 * (4 * i + j) + n)) (k - 1))), aI D a6 384 (upd (shF ea k (16 * (4 * i + j) + n)) k ((shF ea k (16 * (4 * i + j) + n)) (k - 1)))]) hcv1) hD
                have hP : va_P D cls [aI D a2 6 ln, aI D a3 24 ks, oO mo 6 [.int 0, .ref a1, .int (nI nC), .ref a2, .ref a3, .ref a4, .ref a5, .ref a6, .ref a7, .ref a8, .ref a9, .int (nI nS), .ref a10, .int (nI nM), .ref a11], aI D a4 384 (shF tm (k - 1) (16 * (4 * i + j) + n)), aI D a5 384 (upd (shF wo k (16 * (4 * i + j) + n)) k ((shF wo k (16 * (4 * i + j) + n)) (k - 1))), aI D a6 384 (upd (shF ea k (16 * (4 * i + j) + n)) k ((shF ea k (16 * (4 * i + j) + n)) (k - 1)))] H := hP
                have hD : va_D A [aI D a2 6 ln, aI D a3 24 ks, oO mo 6 [.int 0, .ref a1, .int (nI nC), .ref a2, .ref a3, .ref a4, .ref a5, .ref a6, .ref a7, .ref a8, .ref a9, .int (nI nS), .ref a10, .int (nI nM), .ref a11], aI D a4 384 (shF tm (k - 1) (16 * (4 * i + j) + n)), aI D a5 384 (upd (shF wo k (16 * (4 * i + j) + n)) k ((shF wo k (16 * (4 * i + j) + n)) (k - 1))), aI D a6 384 (upd (shF ea k (16 * (4 * i + j) + n)) k ((shF ea k (16 * (4 * i + j) + n)) (k - 1)))] := hD
                have hcv2 : (shF wo (k - 1) (16 * (4 * i + j) + n)) = (upd (shF wo k (16 * (4 * i + j) + n)) k ((shF wo k (16 * (4 * i + j) + n)) (k - 1))) := (shF_step (f := wo) (k := k) (sz := 16 * (4 * i + j) + n) (by omega) (by omega)).symm
                have hP := Eq.mpr (congrArg (fun z9 => va_P D cls [aI D a2 6 ln, aI D a3 24 ks, oO mo 6 [.int 0, .ref a1, .int (nI nC), .ref a2, .ref a3, .ref a4, .ref a5, .ref a6, .ref a7, .ref a8, .ref a9, .int (nI nS), .ref a10, .int (nI nM), .ref a11], aI D a4 384 (shF tm (k - 1) (16 * (4 * i + j) + n)), aI D a5 384 z9, aI D a6 384 (upd (shF ea k (16 * (4 * i + j) + n)) k ((shF ea k (16 * (4 * i + j) + n)) (k - 1)))] H) hcv2) hP
                have hD := Eq.mpr (congrArg (fun z9 => va_D A [aI D a2 6 ln, aI D a3 24 ks, oO mo 6 [.int 0, .ref a1, .int (nI nC), .ref a2, .ref a3, .ref a4, .ref a5, .ref a6, .ref a7, .ref a8, .ref a9, .int (nI nS), .ref a10, .int (nI nM), .ref a11], aI D a4 384 (shF tm (k - 1) (16 * (4 * i + j) + n)), aI D a5 384 z9, aI D a6 384 (upd (shF ea k (16 * (4 * i + j) + n)) k ((shF ea k (16 * (4 * i + j) + n)) (k - 1)))]) hcv2) hD
                have hP : va_P D cls [aI D a2 6 ln, aI D a3 24 ks, oO mo 6 [.int 0, .ref a1, .int (nI nC), .ref a2, .ref a3, .ref a4, .ref a5, .ref a6, .ref a7, .ref a8, .ref a9, .int (nI nS), .ref a10, .int (nI nM), .ref a11], aI D a4 384 (shF tm (k - 1) (16 * (4 * i + j) + n)), aI D a5 384 (shF wo (k - 1) (16 * (4 * i + j) + n)), aI D a6 384 (upd (shF ea k (16 * (4 * i + j) + n)) k ((shF ea k (16 * (4 * i + j) + n)) (k - 1)))] H := hP
                have hD : va_D A [aI D a2 6 ln, aI D a3 24 ks, oO mo 6 [.int 0, .ref a1, .int (nI nC), .ref a2, .ref a3, .ref a4, .ref a5, .ref a6, .ref a7, .ref a8, .ref a9, .int (nI nS), .ref a10, .int (nI nM), .ref a11], aI D a4 384 (shF tm (k - 1) (16 * (4 * i + j) + n)), aI D a5 384 (shF wo (k - 1) (16 * (4 * i + j) + n)), aI D a6 384 (upd (shF ea k (16 * (4 * i + j) + n)) k ((shF ea k (16 * (4 * i + j) + n)) (k - 1)))] := hD
                have hcv3 : (shF ea (k - 1) (16 * (4 * i + j) + n)) = (upd (shF ea k (16 * (4 * i + j) + n)) k ((shF ea k (16 * (4 * i + j) + n)) (k - 1))) := (shF_step (f := ea) (k := k) (sz := 16 * (4 * i + j) + n) (by omega) (by omega)).symm
                have hP := Eq.mpr (congrArg (fun z9 => va_P D cls [aI D a2 6 ln, aI D a3 24 ks, oO mo 6 [.int 0, .ref a1, .int (nI nC), .ref a2, .ref a3, .ref a4, .ref a5, .ref a6, .ref a7, .ref a8, .ref a9, .int (nI nS), .ref a10, .int (nI nM), .ref a11], aI D a4 384 (shF tm (k - 1) (16 * (4 * i + j) + n)), aI D a5 384 (shF wo (k - 1) (16 * (4 * i + j) + n)), aI D a6 384 z9] H) hcv3) hP
                have hD := Eq.mpr (congrArg (fun z9 => va_D A [aI D a2 6 ln, aI D a3 24 ks, oO mo 6 [.int 0, .ref a1, .int (nI nC), .ref a2, .ref a3, .ref a4, .ref a5, .ref a6, .ref a7, .ref a8, .ref a9, .int (nI nS), .ref a10, .int (nI nM), .ref a11], aI D a4 384 (shF tm (k - 1) (16 * (4 * i + j) + n)), aI D a5 384 (shF wo (k - 1) (16 * (4 * i + j) + n)), aI D a6 384 z9]) hcv3) hD
                have hP : va_P D cls [aI D a2 6 ln, aI D a3 24 ks, oO mo 6 [.int 0, .ref a1, .int (nI nC), .ref a2, .ref a3, .ref a4, .ref a5, .ref a6, .ref a7, .ref a8, .ref a9, .int (nI nS), .ref a10, .int (nI nM), .ref a11], aI D a4 384 (shF tm (k - 1) (16 * (4 * i + j) + n)), aI D a5 384 (shF wo (k - 1) (16 * (4 * i + j) + n)), aI D a6 384 (shF ea (k - 1) (16 * (4 * i + j) + n))] H := hP
                have hD : va_D A [aI D a2 6 ln, aI D a3 24 ks, oO mo 6 [.int 0, .ref a1, .int (nI nC), .ref a2, .ref a3, .ref a4, .ref a5, .ref a6, .ref a7, .ref a8, .ref a9, .int (nI nS), .ref a10, .int (nI nM), .ref a11], aI D a4 384 (shF tm (k - 1) (16 * (4 * i + j) + n)), aI D a5 384 (shF wo (k - 1) (16 * (4 * i + j) + n)), aI D a6 384 (shF ea (k - 1) (16 * (4 * i + j) + n))] := hD
                refine lv_iinc (v := nI (k - 1)) (lv' := [(9, .int (nI (k - 1))), (0, .ref mo), (1, .int (nI i)), (2, .int (nI j)), (3, .int u0), (4, .int v0), (5, .int e0), (6, .int (nI (4 * i + j))), (7, .int (nI d)), (8, .int 0)]) hx hb dX6_key_234 hl (k := 9) rfl (sb_m1 (by omega)) (by decide) rfl (fun ls hl => ?_)
                refine lv_goto (tgt := 188) hx hb dX6_key_237 (by decide) ?_
                exact ih188 (k - 1) (by omega) (by omega) (by omega) _ _ _ (hP.sub [2, 0, 1, 3, 4, 5] rfl) (hD.sub [2, 0, 1, 3, 4, 5] (by decide) rfl) hS (lv_sub hl [1, 2, 3, 4, 5, 6, 7, 8, 9, 0] rfl)
          have hcv4 : (shF tm (16 * (4 * i + j) + n) (16 * (4 * i + j) + n)) = tm := shF_self _ _
          have hP := Eq.mpr (congrArg (fun z9 => va_P D cls [oO mo 6 [.int 0, .ref a1, .int (nI nC), .ref a2, .ref a3, .ref a4, .ref a5, .ref a6, .ref a7, .ref a8, .ref a9, .int (nI nS), .ref a10, .int (nI nM), .ref a11], aI D a2 6 ln, aI D a3 24 ks, aI D a4 384 z9, aI D a5 384 wo, aI D a6 384 ea] H) hcv4) hP
          have hD := Eq.mpr (congrArg (fun z9 => va_D A [oO mo 6 [.int 0, .ref a1, .int (nI nC), .ref a2, .ref a3, .ref a4, .ref a5, .ref a6, .ref a7, .ref a8, .ref a9, .int (nI nS), .ref a10, .int (nI nM), .ref a11], aI D a2 6 ln, aI D a3 24 ks, aI D a4 384 z9, aI D a5 384 wo, aI D a6 384 ea]) hcv4) hD
          have hP : va_P D cls [oO mo 6 [.int 0, .ref a1, .int (nI nC), .ref a2, .ref a3, .ref a4, .ref a5, .ref a6, .ref a7, .ref a8, .ref a9, .int (nI nS), .ref a10, .int (nI nM), .ref a11], aI D a2 6 ln, aI D a3 24 ks, aI D a4 384 (shF tm (16 * (4 * i + j) + n) (16 * (4 * i + j) + n)), aI D a5 384 wo, aI D a6 384 ea] H := hP
          have hD : va_D A [oO mo 6 [.int 0, .ref a1, .int (nI nC), .ref a2, .ref a3, .ref a4, .ref a5, .ref a6, .ref a7, .ref a8, .ref a9, .int (nI nS), .ref a10, .int (nI nM), .ref a11], aI D a2 6 ln, aI D a3 24 ks, aI D a4 384 (shF tm (16 * (4 * i + j) + n) (16 * (4 * i + j) + n)), aI D a5 384 wo, aI D a6 384 ea] := hD
          have hcv5 : (shF wo (16 * (4 * i + j) + n) (16 * (4 * i + j) + n)) = wo := shF_self _ _
          have hP := Eq.mpr (congrArg (fun z9 => va_P D cls [oO mo 6 [.int 0, .ref a1, .int (nI nC), .ref a2, .ref a3, .ref a4, .ref a5, .ref a6, .ref a7, .ref a8, .ref a9, .int (nI nS), .ref a10, .int (nI nM), .ref a11], aI D a2 6 ln, aI D a3 24 ks, aI D a4 384 (shF tm (16 * (4 * i + j) + n) (16 * (4 * i + j) + n)), aI D a5 384 z9, aI D a6 384 ea] H) hcv5) hP
          have hD := Eq.mpr (congrArg (fun z9 => va_D A [oO mo 6 [.int 0, .ref a1, .int (nI nC), .ref a2, .ref a3, .ref a4, .ref a5, .ref a6, .ref a7, .ref a8, .ref a9, .int (nI nS), .ref a10, .int (nI nM), .ref a11], aI D a2 6 ln, aI D a3 24 ks, aI D a4 384 (shF tm (16 * (4 * i + j) + n) (16 * (4 * i + j) + n)), aI D a5 384 z9, aI D a6 384 ea]) hcv5) hD
          have hP : va_P D cls [oO mo 6 [.int 0, .ref a1, .int (nI nC), .ref a2, .ref a3, .ref a4, .ref a5, .ref a6, .ref a7, .ref a8, .ref a9, .int (nI nS), .ref a10, .int (nI nM), .ref a11], aI D a2 6 ln, aI D a3 24 ks, aI D a4 384 (shF tm (16 * (4 * i + j) + n) (16 * (4 * i + j) + n)), aI D a5 384 (shF wo (16 * (4 * i + j) + n) (16 * (4 * i + j) + n)), aI D a6 384 ea] H := hP
          have hD : va_D A [oO mo 6 [.int 0, .ref a1, .int (nI nC), .ref a2, .ref a3, .ref a4, .ref a5, .ref a6, .ref a7, .ref a8, .ref a9, .int (nI nS), .ref a10, .int (nI nM), .ref a11], aI D a2 6 ln, aI D a3 24 ks, aI D a4 384 (shF tm (16 * (4 * i + j) + n) (16 * (4 * i + j) + n)), aI D a5 384 (shF wo (16 * (4 * i + j) + n) (16 * (4 * i + j) + n)), aI D a6 384 ea] := hD
          have hcv6 : (shF ea (16 * (4 * i + j) + n) (16 * (4 * i + j) + n)) = ea := shF_self _ _
          have hP := Eq.mpr (congrArg (fun z9 => va_P D cls [oO mo 6 [.int 0, .ref a1, .int (nI nC), .ref a2, .ref a3, .ref a4, .ref a5, .ref a6, .ref a7, .ref a8, .ref a9, .int (nI nS), .ref a10, .int (nI nM), .ref a11], aI D a2 6 ln, aI D a3 24 ks, aI D a4 384 (shF tm (16 * (4 * i + j) + n) (16 * (4 * i + j) + n)), aI D a5 384 (shF wo (16 * (4 * i + j) + n) (16 * (4 * i + j) + n)), aI D a6 384 z9] H) hcv6) hP
          have hD := Eq.mpr (congrArg (fun z9 => va_D A [oO mo 6 [.int 0, .ref a1, .int (nI nC), .ref a2, .ref a3, .ref a4, .ref a5, .ref a6, .ref a7, .ref a8, .ref a9, .int (nI nS), .ref a10, .int (nI nM), .ref a11], aI D a2 6 ln, aI D a3 24 ks, aI D a4 384 (shF tm (16 * (4 * i + j) + n) (16 * (4 * i + j) + n)), aI D a5 384 (shF wo (16 * (4 * i + j) + n) (16 * (4 * i + j) + n)), aI D a6 384 z9]) hcv6) hD
          have hP : va_P D cls [oO mo 6 [.int 0, .ref a1, .int (nI nC), .ref a2, .ref a3, .ref a4, .ref a5, .ref a6, .ref a7, .ref a8, .ref a9, .int (nI nS), .ref a10, .int (nI nM), .ref a11], aI D a2 6 ln, aI D a3 24 ks, aI D a4 384 (shF tm (16 * (4 * i + j) + n) (16 * (4 * i + j) + n)), aI D a5 384 (shF wo (16 * (4 * i + j) + n) (16 * (4 * i + j) + n)), aI D a6 384 (shF ea (16 * (4 * i + j) + n) (16 * (4 * i + j) + n))] H := hP
          have hD : va_D A [oO mo 6 [.int 0, .ref a1, .int (nI nC), .ref a2, .ref a3, .ref a4, .ref a5, .ref a6, .ref a7, .ref a8, .ref a9, .int (nI nS), .ref a10, .int (nI nM), .ref a11], aI D a2 6 ln, aI D a3 24 ks, aI D a4 384 (shF tm (16 * (4 * i + j) + n) (16 * (4 * i + j) + n)), aI D a5 384 (shF wo (16 * (4 * i + j) + n) (16 * (4 * i + j) + n)), aI D a6 384 (shF ea (16 * (4 * i + j) + n) (16 * (4 * i + j) + n))] := hD
          exact loop188 _ (16 * (4 * i + j) + n) (Nat.lt_succ_self _) (by omega) (by omega) _ _ _ hP hD hS (lv_sub hl [2, 3, 4, 5, 6, 7, 8, 9, 1, 0] rfl)
        · skip
          have n118 := mt (nI_leI (a := n) (b := d) (by omega) (by omega)).mpr c118
          refine lv_aload_n hx hb dX6_key_121 rfl (lv_at hl 0 rfl) ?_
          refine va_get (D := D) (ci := 6) (v := .ref a4) (C := RX6) (T := TX6) (N := 15) hx hb hts inlX6 hown hG.K hP 0 rfl rfl 5 (by decide) (hts _ mF_X6_19) (fun _ h9 => h9) rfl dX6_key_122 ?_
          refine lv_iload hx hb dX6_key_125 (lv_at hl 6 rfl) ?_
          have hP9 : va_P D cls [] H := fun k q h => by simp at h
          refine vp_callSi (pS (rest := [.ref a4]) [.int (nI (4 * i + j))] 1 hC (m_row l D (j := 4 * i + j) ) (gS mM_X6_78 mT_X6_row mN_X6 mC_X6_row) (by decide +kernel) rfl rfl ⟨Nat.le_of_ble_eq_true rfl, Nat.le_of_ble_eq_true rfl⟩ hG hP9 rfl hl.1 rfl (Nat.le_of_ble_eq_true rfl) dX6_key_127 ⟨Nat.le_of_ble_eq_true rfl, Nat.le_of_ble_eq_true rfl⟩) (fun r127 h127 => ?_)
          obtain rfl : r127 = (nI (16 * (4 * i + j))) := h127
          refine lv_iload hx hb dX6_key_130 (lv_at hl 7 rfl) ?_
          refine lv_iadd hx hb dX6_key_132 ?_
          refine tpi (y := nI ((16 * (4 * i + j)) + d)) (nI_add (16 * (4 * i + j)) d) ?_
          refine ild (n := 384) (j := (16 * (4 * i + j)) + d) hx hb hG hP 3 rfl (by omega) (by omega) dX6_key_133 ?_
          refine lv_iload_n hx hb dX6_key_134 rfl (lv_at hl 3 rfl) ?_
          refine lv_icmp_ne (tgt := 142) hx hb dX6_key_135 (by decide) (fun c135 => ?_) (fun c135 => absurd c135 (fun z => hni ⟨by omega, z⟩))
          refine lv_iconst (v := 0) hx hb dX6_key_142 (by decide) ?_
          refine lv_istore (lv' := [(8, .int 0), (0, .ref mo), (1, .int (nI i)), (2, .int (nI j)), (3, .int u0), (4, .int v0), (5, .int e0), (6, .int (nI (4 * i + j))), (7, .int (nI d))]) hx hb dX6_key_143 hl (by decide) rfl (fun ls hl => ?_)
          refine lv_iload hx hb dX6_key_145 (lv_at hl 0 rfl) ?_
          refine lv_if_ne (tgt := 168) hx hb dX6_key_147 (by decide) (fun h9 => (h9 (by decide)).elim) (fun _ => ?_)
          refine lv_aload_n hx hb dX6_key_150 rfl (lv_at hl 1 rfl) ?_
          refine va_get (D := D) (ci := 6) (v := .ref a3) (C := RX6) (T := TX6) (N := 15) hx hb hts inlX6 hown hG.K hP 0 rfl rfl 4 (by decide) (hts _ mF_X6_16) (fun _ h9 => h9) rfl dX6_key_151 ?_
          refine lv_iload hx hb dX6_key_154 (lv_at hl 7 rfl) ?_
          refine ild (n := 24) (j := 4 * i + j) hx hb hG hP 2 rfl (by omega) (by omega) dX6_key_156 ?_
          refine tpi (y := nI n) (hks) ?_
          refine lv_bipush (v := 16) hx hb dX6_key_157 (by decide) ?_
          refine lv_icmp_ne (tgt := 168) hx hb dX6_key_159 (by decide) (fun _ => ?_) (fun h9 => absurd ((nI_eq (a := n) (b := 16) (by omega) (by omega)).mp h9) (by omega))
          refine lv_iload hx hb dX6_key_168 (lv_at hl 0 rfl) ?_
          refine lv_if_ne (tgt := 251) hx hb dX6_key_170 (by decide) (fun h9 => (h9 (by decide)).elim) (fun _ => ?_)
          refine lv_iload hx hb dX6_key_173 (lv_at hl 7 rfl) ?_
          have hP9 : va_P D cls [] H := fun k q h => by simp at h
          refine vp_callSi (pS (rest := []) [.int (nI (4 * i + j))] 1 hC (m_row l D (j := 4 * i + j) ) (gS mM_X6_78 mT_X6_row mN_X6 mC_X6_row) (by decide +kernel) rfl rfl ⟨Nat.le_of_ble_eq_true rfl, Nat.le_of_ble_eq_true rfl⟩ hG hP9 rfl hl.1 rfl (Nat.le_of_ble_eq_true rfl) dX6_key_175 ⟨Nat.le_of_ble_eq_true rfl, Nat.le_of_ble_eq_true rfl⟩) (fun r175 h175 => ?_)
          obtain rfl : r175 = (nI (16 * (4 * i + j))) := h175
          refine lv_aload_n hx hb dX6_key_178 rfl (lv_at hl 1 rfl) ?_
          refine va_get (D := D) (ci := 6) (v := .ref a3) (C := RX6) (T := TX6) (N := 15) hx hb hts inlX6 hown hG.K hP 0 rfl rfl 4 (by decide) (hts _ mF_X6_16) (fun _ h9 => h9) rfl dX6_key_179 ?_
          refine lv_iload hx hb dX6_key_182 (lv_at hl 7 rfl) ?_
          refine ild (n := 24) (j := 4 * i + j) hx hb hG hP 2 rfl (by omega) (by omega) dX6_key_184 ?_
          refine tpi (y := nI n) (hks) ?_
          refine lv_iadd hx hb dX6_key_185 ?_
          refine tpi (y := nI ((16 * (4 * i + j)) + n)) (nI_add (16 * (4 * i + j)) n) ?_
          refine lv_istore (lv' := [(9, .int (nI ((16 * (4 * i + j)) + n))), (8, .int 0), (0, .ref mo), (1, .int (nI i)), (2, .int (nI j)), (3, .int u0), (4, .int v0), (5, .int e0), (6, .int (nI (4 * i + j))), (7, .int (nI d))]) hx hb dX6_key_186 hl (by decide) rfl (fun ls hl => ?_)
          have loop188 : ∀ (d9 : Nat) (k : Nat), k < d9 → (16 * (4 * i + j) + d ≤ k) → (k ≤ 16 * (4 * i + j) + n) → ∀ (H : Heap) (locs : List Loc) (ls : Array Slot), va_P D cls [oO mo 6 [.int 0, .ref a1, .int (nI nC), .ref a2, .ref a3, .ref a4, .ref a5, .ref a6, .ref a7, .ref a8, .ref a9, .int (nI nS), .ref a10, .int (nI nM), .ref a11], aI D a2 6 ln, aI D a3 24 ks, aI D a4 384 (shF tm k (16 * (4 * i + j) + n)), aI D a5 384 (shF wo k (16 * (4 * i + j) + n)), aI D a6 384 (shF ea k (16 * (4 * i + j) + n))] H → va_D A [oO mo 6 [.int 0, .ref a1, .int (nI nC), .ref a2, .ref a3, .ref a4, .ref a5, .ref a6, .ref a7, .ref a8, .ref a9, .int (nI nS), .ref a10, .int (nI nM), .ref a11], aI D a2 6 ln, aI D a3 24 ks, aI D a4 384 (shF tm k (16 * (4 * i + j) + n)), aI D a5 384 (shF wo k (16 * (4 * i + j) + n)), aI D a6 384 (shF ea k (16 * (4 * i + j) + n))] → va_S A s.heap H locs → lv_has ls 10 [(0, .ref mo), (1, .int (nI i)), (2, .int (nI j)), (3, .int u0), (4, .int v0), (5, .int e0), (6, .int (nI (4 * i + j))), (7, .int (nI d)), (8, .int 0), (9, .int (nI k))] → W p l e ({ frames := 3, cells := 0, slots := 0, locals := 65 } : Room) s m ([.ref mo, .int (nI i), .int (nI j), .int u0, .int v0, .int e0] : List Value).toArray below meth c H locs 0 0 (MQ below (va_Qi (fun v _ => v = nI (n + 1)) (AT D A (fun _ : Unit => [oO mo 6 [.int 0, .ref a1, .int (nI nC), .ref a2, .ref a3, .ref a4, .ref a5, .ref a6, .ref a7, .ref a8, .ref a9, .int (nI nS), .ref a10, .int (nI nM), .ref a11], aI D a2 6 ln, aI D a3 24 (upd ks (4 * i + j) (nI (n + 1))), aI D a4 384 (insF tm (16 * (4 * i + j) + d) (16 * (4 * i + j) + n) u0), aI D a5 384 (insF wo (16 * (4 * i + j) + d) (16 * (4 * i + j) + n) v0), aI D a6 384 (insF ea (16 * (4 * i + j) + d) (16 * (4 * i + j) + n) e0)])) A) ([.ref mo, .int (nI i), .int (nI j), .int u0, .int v0, .int e0] : List Value).toArray s 0 0 A) (F0 m 188 ls []) := by
            intro d9
            induction d9 with
            | zero => intro k hd; exact absurd hd (Nat.not_lt_zero _)
            | succ d9 ih188 =>
              intro k hd188 hk1 hk2 H locs ls hP hD hS hl
              refine lv_iload hx hb dX6_key_188 (lv_at hl 9 rfl) ?_
              refine lv_iload hx hb dX6_key_190 (lv_at hl 6 rfl) ?_
              have hP9 : va_P D cls [] H := fun k q h => by simp at h
              refine vp_callSi (pS (rest := [.int (nI k)]) [.int (nI (4 * i + j))] 1 hC (m_row l D (j := 4 * i + j) ) (gS mM_X6_78 mT_X6_row mN_X6 mC_X6_row) (by decide +kernel) rfl rfl ⟨Nat.le_of_ble_eq_true rfl, Nat.le_of_ble_eq_true rfl⟩ hG hP9 rfl hl.1 rfl (Nat.le_of_ble_eq_true rfl) dX6_key_192 ⟨Nat.le_of_ble_eq_true rfl, Nat.le_of_ble_eq_true rfl⟩) (fun r192 h192 => ?_)
              obtain rfl : r192 = (nI (16 * (4 * i + j))) := h192
              refine lv_iload hx hb dX6_key_195 (lv_at hl 7 rfl) ?_
              refine lv_iadd hx hb dX6_key_197 ?_
              refine tpi (y := nI ((16 * (4 * i + j)) + d)) (nI_add (16 * (4 * i + j)) d) ?_
              refine lv_icmp_le (tgt := 240) hx hb dX6_key_198 (by decide) (fun c198 => ?_) (fun c198 => ?_)
              · skip
                have n198 := (nI_leI (a := k) (b := (16 * (4 * i + j)) + d) (by omega) (by omega)).mp c198
                have hk9 : k = 16 * (4 * i + j) + d := by omega
                subst k
                refine lv_aload_n hx hb dX6_key_240 rfl (lv_at hl 0 rfl) ?_
                refine va_get (D := D) (ci := 6) (v := .ref a3) (C := RX6) (T := TX6) (N := 15) hx hb hts inlX6 hown hG.K hP 0 rfl rfl 4 (by decide) (hts _ mF_X6_16) (fun _ h9 => h9) rfl dX6_key_241 ?_
                refine lv_iload hx hb dX6_key_244 (lv_at hl 6 rfl) ?_
                refine lv_dup2_11 hx hb dX6_key_246 rfl rfl ?_
                refine ild (n := 24) (j := 4 * i + j) hx hb hG hP 2 rfl (by omega) (by omega) dX6_key_247 ?_
                refine tpi (y := nI n) (hks) ?_
                refine lv_iconst (v := 1) hx hb dX6_key_248 (by decide) ?_
                refine lv_iadd hx hb dX6_key_249 ?_
                refine tpi (y := nI (n + 1)) (nI_add n 1) ?_
                refine ist (n := 24) (j := 4 * i + j) hx hb hG hP hD hS 2 rfl (by omega) (by omega) dX6_key_250 (fun H locs hP hD hS => ?_)
                have hP : va_P D cls [oO mo 6 [.int 0, .ref a1, .int (nI nC), .ref a2, .ref a3, .ref a4, .ref a5, .ref a6, .ref a7, .ref a8, .ref a9, .int (nI nS), .ref a10, .int (nI nM), .ref a11], aI D a2 6 ln, aI D a3 24 (upd ks (4 * i + j) (nI (n + 1))), aI D a4 384 (shF tm (16 * (4 * i + j) + d) (16 * (4 * i + j) + n)), aI D a5 384 (shF wo (16 * (4 * i + j) + d) (16 * (4 * i + j) + n)), aI D a6 384 (shF ea (16 * (4 * i + j) + d) (16 * (4 * i + j) + n))] H := hP
                have hD : va_D A [oO mo 6 [.int 0, .ref a1, .int (nI nC), .ref a2, .ref a3, .ref a4, .ref a5, .ref a6, .ref a7, .ref a8, .ref a9, .int (nI nS), .ref a10, .int (nI nM), .ref a11], aI D a2 6 ln, aI D a3 24 (upd ks (4 * i + j) (nI (n + 1))), aI D a4 384 (shF tm (16 * (4 * i + j) + d) (16 * (4 * i + j) + n)), aI D a5 384 (shF wo (16 * (4 * i + j) + d) (16 * (4 * i + j) + n)), aI D a6 384 (shF ea (16 * (4 * i + j) + d) (16 * (4 * i + j) + n))] := hD
                refine lv_aload_n hx hb dX6_key_251 rfl (lv_at hl 0 rfl) ?_
                refine lv_iload hx hb dX6_key_252 (lv_at hl 6 rfl) ?_
                have hP9 : va_P D cls [] H := fun k q h => by simp at h
                refine vp_callSi (pS (rest := [.ref mo]) [.int (nI (4 * i + j))] 1 hC (m_row l D (j := 4 * i + j) ) (gS mM_X6_78 mT_X6_row mN_X6 mC_X6_row) (by decide +kernel) rfl rfl ⟨Nat.le_of_ble_eq_true rfl, Nat.le_of_ble_eq_true rfl⟩ hG hP9 rfl hl.1 rfl (Nat.le_of_ble_eq_true rfl) dX6_key_254 ⟨Nat.le_of_ble_eq_true rfl, Nat.le_of_ble_eq_true rfl⟩) (fun r254 h254 => ?_)
                obtain rfl : r254 = (nI (16 * (4 * i + j))) := h254
                refine lv_iload hx hb dX6_key_257 (lv_at hl 7 rfl) ?_
                refine lv_iadd hx hb dX6_key_259 ?_
                refine tpi (y := nI ((16 * (4 * i + j)) + d)) (nI_add (16 * (4 * i + j)) d) ?_
                refine lv_iload_n hx hb dX6_key_260 rfl (lv_at hl 3 rfl) ?_
                refine lv_iload hx hb dX6_key_261 (lv_at hl 4 rfl) ?_
                refine lv_iload hx hb dX6_key_263 (lv_at hl 5 rfl) ?_
                have hP9 := hP.sub (ws' := [oO mo 6 [.int 0, .ref a1, .int (nI nC), .ref a2, .ref a3, .ref a4, .ref a5, .ref a6, .ref a7, .ref a8, .ref a9, .int (nI nS), .ref a10, .int (nI nM), .ref a11], aI D a4 384 (shF tm (16 * (4 * i + j) + d) (16 * (4 * i + j) + n)), aI D a5 384 (shF wo (16 * (4 * i + j) + d) (16 * (4 * i + j) + n)), aI D a6 384 (shF ea (16 * (4 * i + j) + d) (16 * (4 * i + j) + n))]) [0, 3, 4, 5] rfl
                have hD9 := (hD.sub (ws' := [oO mo 6 [.int 0, .ref a1, .int (nI nC), .ref a2, .ref a3, .ref a4, .ref a5, .ref a6, .ref a7, .ref a8, .ref a9, .int (nI nS), .ref a10, .int (nI nM), .ref a11], aI D a4 384 (shF tm (16 * (4 * i + j) + d) (16 * (4 * i + j) + n)), aI D a5 384 (shF wo (16 * (4 * i + j) + d) (16 * (4 * i + j) + n)), aI D a6 384 (shF ea (16 * (4 * i + j) + d) (16 * (4 * i + j) + n))]) [0, 3, 4, 5] (by decide) rfl).weaken (B := fun _ => True) (fun _ _ _ _ => trivial)
                refine kv (wr := [aI D a2 6 ln, aI D a3 24 (upd ks (4 * i + j) (nI (n + 1)))]) (rV (rest := []) (qc := (RX6, TX6, 15)) [.int (nI ((16 * (4 * i + j)) + d)), .int u0, .int v0, .int e0] 4 0 0 hC (m_put l D (mo := mo) (k := (16 * (4 * i + j)) + d) (x := u0) (y := v0) (z := e0) (th := 0) (a1 := a1) (nC := nC) (a2 := a2) (a3 := a3) (a4 := a4) (a5 := a5) (a6 := a6) (a7 := a7) (a8 := a8) (a9 := a9) (nS := nS) (a10 := a10) (nM := nM) (a11 := a11) (tm := shF tm (16 * (4 * i + j) + d) (16 * (4 * i + j) + n)) (wo := shF wo (16 * (4 * i + j) + d) (16 * (4 * i + j) + n)) (ea := shF ea (16 * (4 * i + j) + d) (16 * (4 * i + j) + n)) (hz0 := H.size) (by omega)) rfl (hP 0 _ rfl) (gV mM_X6_81 mI_X6_put mS_X6_put mN_X6 mC_X6_put) (by decide +kernel) rfl rfl ⟨Nat.le_of_ble_eq_true rfl, Nat.le_of_ble_eq_true rfl⟩ hG hP9 hD9 rfl hl.1 rfl (Nat.le_of_ble_eq_true rfl) dX6_key_265 ⟨Nat.le_of_ble_eq_true rfl, Nat.le_of_ble_eq_true rfl⟩) hP hD hS hA [0, 3, 4, 5] [1, 2] rfl rfl (by decide) (by decide) (fun u265 H locs h265 hP hD hS hz hfr => ?_)
                have hP : va_P D cls [aI D a2 6 ln, aI D a3 24 (upd ks (4 * i + j) (nI (n + 1))), oO mo 6 [.int 0, .ref a1, .int (nI nC), .ref a2, .ref a3, .ref a4, .ref a5, .ref a6, .ref a7, .ref a8, .ref a9, .int (nI nS), .ref a10, .int (nI nM), .ref a11], aI D a4 384 (upd (shF tm (16 * (4 * i + j) + d) (16 * (4 * i + j) + n)) ((16 * (4 * i + j)) + d) u0), aI D a5 384 (upd (shF wo (16 * (4 * i + j) + d) (16 * (4 * i + j) + n)) ((16 * (4 * i + j)) + d) v0), aI D a6 384 (upd (shF ea (16 * (4 * i + j) + d) (16 * (4 * i + j) + n)) ((16 * (4 * i + j)) + d) e0)] H := hP
                have hD : va_D A [aI D a2 6 ln, aI D a3 24 (upd ks (4 * i + j) (nI (n + 1))), oO mo 6 [.int 0, .ref a1, .int (nI nC), .ref a2, .ref a3, .ref a4, .ref a5, .ref a6, .ref a7, .ref a8, .ref a9, .int (nI nS), .ref a10, .int (nI nM), .ref a11], aI D a4 384 (upd (shF tm (16 * (4 * i + j) + d) (16 * (4 * i + j) + n)) ((16 * (4 * i + j)) + d) u0), aI D a5 384 (upd (shF wo (16 * (4 * i + j) + d) (16 * (4 * i + j) + n)) ((16 * (4 * i + j)) + d) v0), aI D a6 384 (upd (shF ea (16 * (4 * i + j) + d) (16 * (4 * i + j) + n)) ((16 * (4 * i + j)) + d) e0)] := hD
                refine lv_aload_n hx hb dX6_key_268 rfl (lv_at hl 0 rfl) ?_
                refine va_get (D := D) (ci := 6) (v := .ref a3) (C := RX6) (T := TX6) (N := 15) hx hb hts inlX6 hown hG.K hP 2 rfl rfl 4 (by decide) (hts _ mF_X6_16) (fun _ h9 => h9) rfl dX6_key_269 ?_
                refine lv_iload hx hb dX6_key_272 (lv_at hl 6 rfl) ?_
                refine ild (n := 24) (j := 4 * i + j) hx hb hG hP 1 rfl (by omega) (by omega) dX6_key_274 ?_
                refine tpi (y := nI (n + 1)) (if_pos rfl) ?_
                refine Wi () hx hb hr hlk ?_ (hP.sub [2, 0, 1, 3, 4, 5] rfl) (hD.sub [2, 0, 1, 3, 4, 5] (by decide) rfl) hS (Nat.le_of_ble_eq_true rfl) (by first | exact Nat.le_of_ble_eq_true rfl | exact Nat.le_of_eq (Nat.zero_add _)) dX6_key_275
                exact rfl
              · skip
                have n198 := mt (nI_leI (a := k) (b := (16 * (4 * i + j)) + d) (by omega) (by omega)).mpr c198
                refine lv_aload_n hx hb dX6_key_201 rfl (lv_at hl 0 rfl) ?_
                refine lv_iload hx hb dX6_key_202 (lv_at hl 9 rfl) ?_
                refine lv_aload_n hx hb dX6_key_204 rfl (lv_at hl 0 rfl) ?_
                refine va_get (D := D) (ci := 6) (v := .ref a4) (C := RX6) (T := TX6) (N := 15) hx hb hts inlX6 hown hG.K hP 0 rfl rfl 5 (by decide) (hts _ mF_X6_19) (fun _ h9 => h9) rfl dX6_key_205 ?_
                refine lv_iload hx hb dX6_key_208 (lv_at hl 9 rfl) ?_
                refine lv_iconst (v := 1) hx hb dX6_key_210 (by decide) ?_
                refine lv_isub hx hb dX6_key_211 ?_
                refine tpi (y := nI (k - 1)) (pk_sub (a := k) (b := 1) (by omega)) ?_
                refine ild (n := 384) (j := k - 1) hx hb hG hP 3 rfl (by omega) (by omega) dX6_key_212 ?_
                refine lv_aload_n hx hb dX6_key_213 rfl (lv_at hl 0 rfl) ?_
                refine va_get (D := D) (ci := 6) (v := .ref a5) (C := RX6) (T := TX6) (N := 15) hx hb hts inlX6 hown hG.K hP 0 rfl rfl 6 (by decide) (hts _ mF_X6_22) (fun _ h9 => h9) rfl dX6_key_214 ?_
                refine lv_iload hx hb dX6_key_217 (lv_at hl 9 rfl) ?_
                refine lv_iconst (v := 1) hx hb dX6_key_219 (by decide) ?_
                refine lv_isub hx hb dX6_key_220 ?_
                refine tpi (y := nI (k - 1)) (pk_sub (a := k) (b := 1) (by omega)) ?_
                refine ild (n := 384) (j := k - 1) hx hb hG hP 4 rfl (by omega) (by omega) dX6_key_221 ?_
                refine lv_aload_n hx hb dX6_key_222 rfl (lv_at hl 0 rfl) ?_
                refine va_get (D := D) (ci := 6) (v := .ref a6) (C := RX6) (T := TX6) (N := 15) hx hb hts inlX6 hown hG.K hP 0 rfl rfl 7 (by decide) (hts _ mF_X6_25) (fun _ h9 => h9) rfl dX6_key_223 ?_
                refine lv_iload hx hb dX6_key_226 (lv_at hl 9 rfl) ?_
                refine lv_iconst (v := 1) hx hb dX6_key_228 (by decide) ?_
                refine lv_isub hx hb dX6_key_229 ?_
                refine tpi (y := nI (k - 1)) (pk_sub (a := k) (b := 1) (by omega)) ?_
                refine ild (n := 384) (j := k - 1) hx hb hG hP 5 rfl (by omega) (by omega) dX6_key_230 ?_
                have hP9 := hP.sub (ws' := [oO mo 6 [.int 0, .ref a1, .int (nI nC), .ref a2, .ref a3, .ref a4, .ref a5, .ref a6, .ref a7, .ref a8, .ref a9, .int (nI nS), .ref a10, .int (nI nM), .ref a11], aI D a4 384 (shF tm k (16 * (4 * i + j) + n)), aI D a5 384 (shF wo k (16 * (4 * i + j) + n)), aI D a6 384 (shF ea k (16 * (4 * i + j) + n))]) [0, 3, 4, 5] rfl
                have hD9 := (hD.sub (ws' := [oO mo 6 [.int 0, .ref a1, .int (nI nC), .ref a2, .ref a3, .ref a4, .ref a5, .ref a6, .ref a7, .ref a8, .ref a9, .int (nI nS), .ref a10, .int (nI nM), .ref a11], aI D a4 384 (shF tm k (16 * (4 * i + j) + n)), aI D a5 384 (shF wo k (16 * (4 * i + j) + n)), aI D a6 384 (shF ea k (16 * (4 * i + j) + n))]) [0, 3, 4, 5] (by decide) rfl).weaken (B := fun _ => True) (fun _ _ _ _ => trivial)
                refine kv (wr := [aI D a2 6 ln, aI D a3 24 ks]) (rV (rest := []) (qc := (RX6, TX6, 15)) [.int (nI k), .int ((shF tm k (16 * (4 * i + j) + n)) (k - 1)), .int ((shF wo k (16 * (4 * i + j) + n)) (k - 1)), .int ((shF ea k (16 * (4 * i + j) + n)) (k - 1))] 4 0 0 hC (m_put l D (mo := mo) (k := k) (x := (shF tm k (16 * (4 * i + j) + n)) (k - 1)) (y := (shF wo k (16 * (4 * i + j) + n)) (k - 1)) (z := (shF ea k (16 * (4 * i + j) + n)) (k - 1)) (th := 0) (a1 := a1) (nC := nC) (a2 := a2) (a3 := a3) (a4 := a4) (a5 := a5) (a6 := a6) (a7 := a7) (a8 := a8) (a9 := a9) (nS := nS) (a10 := a10) (nM := nM) (a11 := a11) (tm := shF tm k (16 * (4 * i + j) + n)) (wo := shF wo k (16 * (4 * i + j) + n)) (ea := shF ea k (16 * (4 * i + j) + n)) (hz0 := H.size) (by omega)) rfl (hP 0 _ rfl) (gV mM_X6_81 mI_X6_put mS_X6_put mN_X6 mC_X6_put) (by decide +kernel) rfl rfl ⟨Nat.le_of_ble_eq_true rfl, Nat.le_of_ble_eq_true rfl⟩ hG hP9 hD9 rfl hl.1 rfl (Nat.le_of_ble_eq_true rfl) dX6_key_231 ⟨Nat.le_of_ble_eq_true rfl, Nat.le_of_ble_eq_true rfl⟩) hP hD hS hA [0, 3, 4, 5] [1, 2] rfl rfl (by decide) (by decide) (fun u231 H locs h231 hP hD hS hz hfr => ?_)
                have hP : va_P D cls [aI D a2 6 ln, aI D a3 24 ks, oO mo 6 [.int 0, .ref a1, .int (nI nC), .ref a2, .ref a3, .ref a4, .ref a5, .ref a6, .ref a7, .ref a8, .ref a9, .int (nI nS), .ref a10, .int (nI nM), .ref a11], aI D a4 384 (upd (shF tm k (16 * (4 * i + j) + n)) k ((shF tm k (16 * (4 * i + j) + n)) (k - 1))), aI D a5 384 (upd (shF wo k (16 * (4 * i + j) + n)) k ((shF wo k (16 * (4 * i + j) + n)) (k - 1))), aI D a6 384 (upd (shF ea k (16 * (4 * i + j) + n)) k ((shF ea k (16 * (4 * i + j) + n)) (k - 1)))] H := hP
                have hD : va_D A [aI D a2 6 ln, aI D a3 24 ks, oO mo 6 [.int 0, .ref a1, .int (nI nC), .ref a2, .ref a3, .ref a4, .ref a5, .ref a6, .ref a7, .ref a8, .ref a9, .int (nI nS), .ref a10, .int (nI nM), .ref a11], aI D a4 384 (upd (shF tm k (16 * (4 * i + j) + n)) k ((shF tm k (16 * (4 * i + j) + n)) (k - 1))), aI D a5 384 (upd (shF wo k (16 * (4 * i + j) + n)) k ((shF wo k (16 * (4 * i + j) + n)) (k - 1))), aI D a6 384 (upd (shF ea k (16 * (4 * i + j) + n)) k ((shF ea k (16 * (4 * i + j) + n)) (k - 1)))] := hD
                have hcv7 : (shF tm (k - 1) (16 * (4 * i + j) + n)) = (upd (shF tm k (16 * (4 * i + j) + n)) k ((shF tm k (16 * (4 * i + j) + n)) (k - 1))) := (shF_step (f := tm) (k := k) (sz := 16 * (4 * i + j) + n) (by omega) (by omega)).symm
                have hP := Eq.mpr (congrArg (fun z9 => va_P D cls [aI D a2 6 ln, aI D a3 24 ks, oO mo 6 [.int 0, .ref a1, .int (nI nC), .ref a2, .ref a3, .ref a4, .ref a5, .ref a6, .ref a7, .ref a8, .ref a9, .int (nI nS), .ref a10, .int (nI nM), .ref a11], aI D a4 384 z9, aI D a5 384 (upd (shF wo k (16 * (4 * i + j) + n)) k ((shF wo k (16 * (4 * i + j) + n)) (k - 1))), aI D a6 384 (upd (shF ea k (16 * (4 * i + j) + n)) k ((shF ea k (16 * (4 * i + j) + n)) (k - 1)))] H) hcv7) hP
                have hD := Eq.mpr (congrArg (fun z9 => va_D A [aI D a2 6 ln, aI D a3 24 ks, oO mo 6 [.int 0, .ref a1, .int (nI nC), .ref a2, .ref a3, .ref a4, .ref a5, .ref a6, .ref a7, .ref a8, .ref a9, .int (nI nS), .ref a10, .int (nI nM), .ref a11], aI D a4 384 z9, aI D a5 384 (upd (shF wo k (16 * (4 * i + j) + n)) k ((shF wo k (16 * (4 * i + j) + n)) (k - 1))), aI D a6 384 (upd (shF ea k (16 * (4 * i + j) + n)) k ((shF ea k (16 * (4 * i + j) + n)) (k - 1)))]) hcv7) hD
                have hP : va_P D cls [aI D a2 6 ln, aI D a3 24 ks, oO mo 6 [.int 0, .ref a1, .int (nI nC), .ref a2, .ref a3, .ref a4, .ref a5, .ref a6, .ref a7, .ref a8, .ref a9, .int (nI nS), .ref a10, .int (nI nM), .ref a11], aI D a4 384 (shF tm (k - 1) (16 * (4 * i + j) + n)), aI D a5 384 (upd (shF wo k (16 * (4 * i + j) + n)) k ((shF wo k (16 * (4 * i + j) + n)) (k - 1))), aI D a6 384 (upd (shF ea k (16 * (4 * i + j) + n)) k ((shF ea k (16 * (4 * i + j) + n)) (k - 1)))] H := hP
                have hD : va_D A [aI D a2 6 ln, aI D a3 24 ks, oO mo 6 [.int 0, .ref a1, .int (nI nC), .ref a2, .ref a3, .ref a4, .ref a5, .ref a6, .ref a7, .ref a8, .ref a9, .int (nI nS), .ref a10, .int (nI nM), .ref a11], aI D a4 384 (shF tm (k - 1) (16 * (4 * i + j) + n)), aI D a5 384 (upd (shF wo k (16 * (4 * i + j) + n)) k ((shF wo k (16 * (4 * i + j) + n)) (k - 1))), aI D a6 384 (upd (shF ea k (16 * (4 * i + j) + n)) k ((shF ea k (16 * (4 * i + j) + n)) (k - 1)))] := hD
                have hcv8 : (shF wo (k - 1) (16 * (4 * i + j) + n)) = (upd (shF wo k (16 * (4 * i + j) + n)) k ((shF wo k (16 * (4 * i + j) + n)) (k - 1))) := (shF_step (f := wo) (k := k) (sz := 16 * (4 * i + j) + n) (by omega) (by omega)).symm
                have hP := Eq.mpr (congrArg (fun z9 => va_P D cls [aI D a2 6 ln, aI D a3 24 ks, oO mo 6 [.int 0, .ref a1, .int (nI nC), .ref a2, .ref a3, .ref a4, .ref a5, .ref a6, .ref a7, .ref a8, .ref a9, .int (nI nS), .ref a10, .int (nI nM), .ref a11], aI D a4 384 (shF tm (k - 1) (16 * (4 * i + j) + n)), aI D a5 384 z9, aI D a6 384 (upd (shF ea k (16 * (4 * i + j) + n)) k ((shF ea k (16 * (4 * i + j) + n)) (k - 1)))] H) hcv8) hP
                have hD := Eq.mpr (congrArg (fun z9 => va_D A [aI D a2 6 ln, aI D a3 24 ks, oO mo 6 [.int 0, .ref a1, .int (nI nC), .ref a2, .ref a3, .ref a4, .ref a5, .ref a6, .ref a7, .ref a8, .ref a9, .int (nI nS), .ref a10, .int (nI nM), .ref a11], aI D a4 384 (shF tm (k - 1) (16 * (4 * i + j) + n)), aI D a5 384 z9, aI D a6 384 (upd (shF ea k (16 * (4 * i + j) + n)) k ((shF ea k (16 * (4 * i + j) + n)) (k - 1)))]) hcv8) hD
                have hP : va_P D cls [aI D a2 6 ln, aI D a3 24 ks, oO mo 6 [.int 0, .ref a1, .int (nI nC), .ref a2, .ref a3, .ref a4, .ref a5, .ref a6, .ref a7, .ref a8, .ref a9, .int (nI nS), .ref a10, .int (nI nM), .ref a11], aI D a4 384 (shF tm (k - 1) (16 * (4 * i + j) + n)), aI D a5 384 (shF wo (k - 1) (16 * (4 * i + j) + n)), aI D a6 384 (upd (shF ea k (16 * (4 * i + j) + n)) k ((shF ea k (16 * (4 * i + j) + n)) (k - 1)))] H := hP
                have hD : va_D A [aI D a2 6 ln, aI D a3 24 ks, oO mo 6 [.int 0, .ref a1, .int (nI nC), .ref a2, .ref a3, .ref a4, .ref a5, .ref a6, .ref a7, .ref a8, .ref a9, .int (nI nS), .ref a10, .int (nI nM), .ref a11], aI D a4 384 (shF tm (k - 1) (16 * (4 * i + j) + n)), aI D a5 384 (shF wo (k - 1) (16 * (4 * i + j) + n)), aI D a6 384 (upd (shF ea k (16 * (4 * i + j) + n)) k ((shF ea k (16 * (4 * i + j) + n)) (k - 1)))] := hD
                have hcv9 : (shF ea (k - 1) (16 * (4 * i + j) + n)) = (upd (shF ea k (16 * (4 * i + j) + n)) k ((shF ea k (16 * (4 * i + j) + n)) (k - 1))) := (shF_step (f := ea) (k := k) (sz := 16 * (4 * i + j) + n) (by omega) (by omega)).symm
                have hP := Eq.mpr (congrArg (fun z9 => va_P D cls [aI D a2 6 ln, aI D a3 24 ks, oO mo 6 [.int 0, .ref a1, .int (nI nC), .ref a2, .ref a3, .ref a4, .ref a5, .ref a6, .ref a7, .ref a8, .ref a9, .int (nI nS), .ref a10, .int (nI nM), .ref a11], aI D a4 384 (shF tm (k - 1) (16 * (4 * i + j) + n)), aI D a5 384 (shF wo (k - 1) (16 * (4 * i + j) + n)), aI D a6 384 z9] H) hcv9) hP
                have hD := Eq.mpr (congrArg (fun z9 => va_D A [aI D a2 6 ln, aI D a3 24 ks, oO mo 6 [.int 0, .ref a1, .int (nI nC), .ref a2, .ref a3, .ref a4, .ref a5, .ref a6, .ref a7, .ref a8, .ref a9, .int (nI nS), .ref a10, .int (nI nM), .ref a11], aI D a4 384 (shF tm (k - 1) (16 * (4 * i + j) + n)), aI D a5 384 (shF wo (k - 1) (16 * (4 * i + j) + n)), aI D a6 384 z9]) hcv9) hD
                have hP : va_P D cls [aI D a2 6 ln, aI D a3 24 ks, oO mo 6 [.int 0, .ref a1, .int (nI nC), .ref a2, .ref a3, .ref a4, .ref a5, .ref a6, .ref a7, .ref a8, .ref a9, .int (nI nS), .ref a10, .int (nI nM), .ref a11], aI D a4 384 (shF tm (k - 1) (16 * (4 * i + j) + n)), aI D a5 384 (shF wo (k - 1) (16 * (4 * i + j) + n)), aI D a6 384 (shF ea (k - 1) (16 * (4 * i + j) + n))] H := hP
                have hD : va_D A [aI D a2 6 ln, aI D a3 24 ks, oO mo 6 [.int 0, .ref a1, .int (nI nC), .ref a2, .ref a3, .ref a4, .ref a5, .ref a6, .ref a7, .ref a8, .ref a9, .int (nI nS), .ref a10, .int (nI nM), .ref a11], aI D a4 384 (shF tm (k - 1) (16 * (4 * i + j) + n)), aI D a5 384 (shF wo (k - 1) (16 * (4 * i + j) + n)), aI D a6 384 (shF ea (k - 1) (16 * (4 * i + j) + n))] := hD
                refine lv_iinc (v := nI (k - 1)) (lv' := [(9, .int (nI (k - 1))), (0, .ref mo), (1, .int (nI i)), (2, .int (nI j)), (3, .int u0), (4, .int v0), (5, .int e0), (6, .int (nI (4 * i + j))), (7, .int (nI d)), (8, .int 0)]) hx hb dX6_key_234 hl (k := 9) rfl (sb_m1 (by omega)) (by decide) rfl (fun ls hl => ?_)
                refine lv_goto (tgt := 188) hx hb dX6_key_237 (by decide) ?_
                exact ih188 (k - 1) (by omega) (by omega) (by omega) _ _ _ (hP.sub [2, 0, 1, 3, 4, 5] rfl) (hD.sub [2, 0, 1, 3, 4, 5] (by decide) rfl) hS (lv_sub hl [1, 2, 3, 4, 5, 6, 7, 8, 9, 0] rfl)
          have hcv10 : (shF tm (16 * (4 * i + j) + n) (16 * (4 * i + j) + n)) = tm := shF_self _ _
          have hP := Eq.mpr (congrArg (fun z9 => va_P D cls [oO mo 6 [.int 0, .ref a1, .int (nI nC), .ref a2, .ref a3, .ref a4, .ref a5, .ref a6, .ref a7, .ref a8, .ref a9, .int (nI nS), .ref a10, .int (nI nM), .ref a11], aI D a2 6 ln, aI D a3 24 ks, aI D a4 384 z9, aI D a5 384 wo, aI D a6 384 ea] H) hcv10) hP
          have hD := Eq.mpr (congrArg (fun z9 => va_D A [oO mo 6 [.int 0, .ref a1, .int (nI nC), .ref a2, .ref a3, .ref a4, .ref a5, .ref a6, .ref a7, .ref a8, .ref a9, .int (nI nS), .ref a10, .int (nI nM), .ref a11], aI D a2 6 ln, aI D a3 24 ks, aI D a4 384 z9, aI D a5 384 wo, aI D a6 384 ea]) hcv10) hD
          have hP : va_P D cls [oO mo 6 [.int 0, .ref a1, .int (nI nC), .ref a2, .ref a3, .ref a4, .ref a5, .ref a6, .ref a7, .ref a8, .ref a9, .int (nI nS), .ref a10, .int (nI nM), .ref a11], aI D a2 6 ln, aI D a3 24 ks, aI D a4 384 (shF tm (16 * (4 * i + j) + n) (16 * (4 * i + j) + n)), aI D a5 384 wo, aI D a6 384 ea] H := hP
          have hD : va_D A [oO mo 6 [.int 0, .ref a1, .int (nI nC), .ref a2, .ref a3, .ref a4, .ref a5, .ref a6, .ref a7, .ref a8, .ref a9, .int (nI nS), .ref a10, .int (nI nM), .ref a11], aI D a2 6 ln, aI D a3 24 ks, aI D a4 384 (shF tm (16 * (4 * i + j) + n) (16 * (4 * i + j) + n)), aI D a5 384 wo, aI D a6 384 ea] := hD
          have hcv11 : (shF wo (16 * (4 * i + j) + n) (16 * (4 * i + j) + n)) = wo := shF_self _ _
          have hP := Eq.mpr (congrArg (fun z9 => va_P D cls [oO mo 6 [.int 0, .ref a1, .int (nI nC), .ref a2, .ref a3, .ref a4, .ref a5, .ref a6, .ref a7, .ref a8, .ref a9, .int (nI nS), .ref a10, .int (nI nM), .ref a11], aI D a2 6 ln, aI D a3 24 ks, aI D a4 384 (shF tm (16 * (4 * i + j) + n) (16 * (4 * i + j) + n)), aI D a5 384 z9, aI D a6 384 ea] H) hcv11) hP
          have hD := Eq.mpr (congrArg (fun z9 => va_D A [oO mo 6 [.int 0, .ref a1, .int (nI nC), .ref a2, .ref a3, .ref a4, .ref a5, .ref a6, .ref a7, .ref a8, .ref a9, .int (nI nS), .ref a10, .int (nI nM), .ref a11], aI D a2 6 ln, aI D a3 24 ks, aI D a4 384 (shF tm (16 * (4 * i + j) + n) (16 * (4 * i + j) + n)), aI D a5 384 z9, aI D a6 384 ea]) hcv11) hD
          have hP : va_P D cls [oO mo 6 [.int 0, .ref a1, .int (nI nC), .ref a2, .ref a3, .ref a4, .ref a5, .ref a6, .ref a7, .ref a8, .ref a9, .int (nI nS), .ref a10, .int (nI nM), .ref a11], aI D a2 6 ln, aI D a3 24 ks, aI D a4 384 (shF tm (16 * (4 * i + j) + n) (16 * (4 * i + j) + n)), aI D a5 384 (shF wo (16 * (4 * i + j) + n) (16 * (4 * i + j) + n)), aI D a6 384 ea] H := hP
          have hD : va_D A [oO mo 6 [.int 0, .ref a1, .int (nI nC), .ref a2, .ref a3, .ref a4, .ref a5, .ref a6, .ref a7, .ref a8, .ref a9, .int (nI nS), .ref a10, .int (nI nM), .ref a11], aI D a2 6 ln, aI D a3 24 ks, aI D a4 384 (shF tm (16 * (4 * i + j) + n) (16 * (4 * i + j) + n)), aI D a5 384 (shF wo (16 * (4 * i + j) + n) (16 * (4 * i + j) + n)), aI D a6 384 ea] := hD
          have hcv12 : (shF ea (16 * (4 * i + j) + n) (16 * (4 * i + j) + n)) = ea := shF_self _ _
          have hP := Eq.mpr (congrArg (fun z9 => va_P D cls [oO mo 6 [.int 0, .ref a1, .int (nI nC), .ref a2, .ref a3, .ref a4, .ref a5, .ref a6, .ref a7, .ref a8, .ref a9, .int (nI nS), .ref a10, .int (nI nM), .ref a11], aI D a2 6 ln, aI D a3 24 ks, aI D a4 384 (shF tm (16 * (4 * i + j) + n) (16 * (4 * i + j) + n)), aI D a5 384 (shF wo (16 * (4 * i + j) + n) (16 * (4 * i + j) + n)), aI D a6 384 z9] H) hcv12) hP
          have hD := Eq.mpr (congrArg (fun z9 => va_D A [oO mo 6 [.int 0, .ref a1, .int (nI nC), .ref a2, .ref a3, .ref a4, .ref a5, .ref a6, .ref a7, .ref a8, .ref a9, .int (nI nS), .ref a10, .int (nI nM), .ref a11], aI D a2 6 ln, aI D a3 24 ks, aI D a4 384 (shF tm (16 * (4 * i + j) + n) (16 * (4 * i + j) + n)), aI D a5 384 (shF wo (16 * (4 * i + j) + n) (16 * (4 * i + j) + n)), aI D a6 384 z9]) hcv12) hD
          have hP : va_P D cls [oO mo 6 [.int 0, .ref a1, .int (nI nC), .ref a2, .ref a3, .ref a4, .ref a5, .ref a6, .ref a7, .ref a8, .ref a9, .int (nI nS), .ref a10, .int (nI nM), .ref a11], aI D a2 6 ln, aI D a3 24 ks, aI D a4 384 (shF tm (16 * (4 * i + j) + n) (16 * (4 * i + j) + n)), aI D a5 384 (shF wo (16 * (4 * i + j) + n) (16 * (4 * i + j) + n)), aI D a6 384 (shF ea (16 * (4 * i + j) + n) (16 * (4 * i + j) + n))] H := hP
          have hD : va_D A [oO mo 6 [.int 0, .ref a1, .int (nI nC), .ref a2, .ref a3, .ref a4, .ref a5, .ref a6, .ref a7, .ref a8, .ref a9, .int (nI nS), .ref a10, .int (nI nM), .ref a11], aI D a2 6 ln, aI D a3 24 ks, aI D a4 384 (shF tm (16 * (4 * i + j) + n) (16 * (4 * i + j) + n)), aI D a5 384 (shF wo (16 * (4 * i + j) + n) (16 * (4 * i + j) + n)), aI D a6 384 (shF ea (16 * (4 * i + j) + n) (16 * (4 * i + j) + n))] := hD
          exact loop188 _ (16 * (4 * i + j) + n) (Nat.lt_succ_self _) (by omega) (by omega) _ _ _ hP hD hS (lv_sub hl [2, 3, 4, 5, 6, 7, 8, 9, 1, 0] rfl)
      · skip
        have n83 := mt (nI_leI (a := n) (b := k) (by omega) (by omega)).mpr c83
        have n83x : k < n := by omega
        refine lv_aload_n hx hb dX6_key_86 rfl (lv_at hl 0 rfl) ?_
        refine va_get (D := D) (ci := 6) (v := .ref a4) (C := RX6) (T := TX6) (N := 15) hx hb hts inlX6 hown hG.K hP 0 rfl rfl 5 (by decide) (hts _ mF_X6_19) (fun _ h9 => h9) rfl dX6_key_87 ?_
        refine lv_iload hx hb dX6_key_90 (lv_at hl 6 rfl) ?_
        have hP9 : va_P D cls [] H := fun k q h => by simp at h
        refine vp_callSi (pS (rest := [.ref a4]) [.int (nI (4 * i + j))] 1 hC (m_row l D (j := 4 * i + j) ) (gS mM_X6_78 mT_X6_row mN_X6 mC_X6_row) (by decide +kernel) rfl rfl ⟨Nat.le_of_ble_eq_true rfl, Nat.le_of_ble_eq_true rfl⟩ hG hP9 rfl hl.1 rfl (Nat.le_of_ble_eq_true rfl) dX6_key_92 ⟨Nat.le_of_ble_eq_true rfl, Nat.le_of_ble_eq_true rfl⟩) (fun r92 h92 => ?_)
        obtain rfl : r92 = (nI (16 * (4 * i + j))) := h92
        refine lv_iload hx hb dX6_key_95 (lv_at hl 7 rfl) ?_
        refine lv_iadd hx hb dX6_key_97 ?_
        refine tpi (y := nI ((16 * (4 * i + j)) + k)) (nI_add (16 * (4 * i + j)) k) ?_
        refine ild (n := 384) (j := (16 * (4 * i + j)) + k) hx hb hG hP 3 rfl (by omega) (by omega) dX6_key_98 ?_
        refine lv_iload_n hx hb dX6_key_99 rfl (lv_at hl 3 rfl) ?_
        refine lv_icmp_ge (tgt := 109) hx hb dX6_key_100 (by decide) (fun c100 => ?_) (fun c100 => ?_)
        · skip
          have hk9 : k = d := Nat.le_antisymm hk (Nat.le_of_not_lt (fun h9 => absurd (hlt k h9) (Int32.not_lt.mpr c100)))
          subst k
          refine lv_iload hx hb dX6_key_109 (lv_at hl 7 rfl) ?_
          refine lv_aload_n hx hb dX6_key_111 rfl (lv_at hl 0 rfl) ?_
          refine va_get (D := D) (ci := 6) (v := .ref a3) (C := RX6) (T := TX6) (N := 15) hx hb hts inlX6 hown hG.K hP 0 rfl rfl 4 (by decide) (hts _ mF_X6_16) (fun _ h9 => h9) rfl dX6_key_112 ?_
          refine lv_iload hx hb dX6_key_115 (lv_at hl 6 rfl) ?_
          refine ild (n := 24) (j := 4 * i + j) hx hb hG hP 2 rfl (by omega) (by omega) dX6_key_117 ?_
          refine tpi (y := nI n) (hks) ?_
          refine lv_icmp_ge (tgt := 142) hx hb dX6_key_118 (by decide) (fun c118 => ?_) (fun c118 => ?_)
          · skip
            have n118 := (nI_leI (a := n) (b := d) (by omega) (by omega)).mp c118
            refine lv_iconst (v := 0) hx hb dX6_key_142 (by decide) ?_
            refine lv_istore (lv' := [(8, .int 0), (0, .ref mo), (1, .int (nI i)), (2, .int (nI j)), (3, .int u0), (4, .int v0), (5, .int e0), (6, .int (nI (4 * i + j))), (7, .int (nI d))]) hx hb dX6_key_143 hl (by decide) rfl (fun ls hl => ?_)
            refine lv_iload hx hb dX6_key_145 (lv_at hl 0 rfl) ?_
            refine lv_if_ne (tgt := 168) hx hb dX6_key_147 (by decide) (fun h9 => (h9 (by decide)).elim) (fun _ => ?_)
            refine lv_aload_n hx hb dX6_key_150 rfl (lv_at hl 1 rfl) ?_
            refine va_get (D := D) (ci := 6) (v := .ref a3) (C := RX6) (T := TX6) (N := 15) hx hb hts inlX6 hown hG.K hP 0 rfl rfl 4 (by decide) (hts _ mF_X6_16) (fun _ h9 => h9) rfl dX6_key_151 ?_
            refine lv_iload hx hb dX6_key_154 (lv_at hl 7 rfl) ?_
            refine ild (n := 24) (j := 4 * i + j) hx hb hG hP 2 rfl (by omega) (by omega) dX6_key_156 ?_
            refine tpi (y := nI n) (hks) ?_
            refine lv_bipush (v := 16) hx hb dX6_key_157 (by decide) ?_
            refine lv_icmp_ne (tgt := 168) hx hb dX6_key_159 (by decide) (fun _ => ?_) (fun h9 => absurd ((nI_eq (a := n) (b := 16) (by omega) (by omega)).mp h9) (by omega))
            refine lv_iload hx hb dX6_key_168 (lv_at hl 0 rfl) ?_
            refine lv_if_ne (tgt := 251) hx hb dX6_key_170 (by decide) (fun h9 => (h9 (by decide)).elim) (fun _ => ?_)
            refine lv_iload hx hb dX6_key_173 (lv_at hl 7 rfl) ?_
            have hP9 : va_P D cls [] H := fun k q h => by simp at h
            refine vp_callSi (pS (rest := []) [.int (nI (4 * i + j))] 1 hC (m_row l D (j := 4 * i + j) ) (gS mM_X6_78 mT_X6_row mN_X6 mC_X6_row) (by decide +kernel) rfl rfl ⟨Nat.le_of_ble_eq_true rfl, Nat.le_of_ble_eq_true rfl⟩ hG hP9 rfl hl.1 rfl (Nat.le_of_ble_eq_true rfl) dX6_key_175 ⟨Nat.le_of_ble_eq_true rfl, Nat.le_of_ble_eq_true rfl⟩) (fun r175 h175 => ?_)
            obtain rfl : r175 = (nI (16 * (4 * i + j))) := h175
            refine lv_aload_n hx hb dX6_key_178 rfl (lv_at hl 1 rfl) ?_
            refine va_get (D := D) (ci := 6) (v := .ref a3) (C := RX6) (T := TX6) (N := 15) hx hb hts inlX6 hown hG.K hP 0 rfl rfl 4 (by decide) (hts _ mF_X6_16) (fun _ h9 => h9) rfl dX6_key_179 ?_
            refine lv_iload hx hb dX6_key_182 (lv_at hl 7 rfl) ?_
            refine ild (n := 24) (j := 4 * i + j) hx hb hG hP 2 rfl (by omega) (by omega) dX6_key_184 ?_
            refine tpi (y := nI n) (hks) ?_
            refine lv_iadd hx hb dX6_key_185 ?_
            refine tpi (y := nI ((16 * (4 * i + j)) + n)) (nI_add (16 * (4 * i + j)) n) ?_
            refine lv_istore (lv' := [(9, .int (nI ((16 * (4 * i + j)) + n))), (8, .int 0), (0, .ref mo), (1, .int (nI i)), (2, .int (nI j)), (3, .int u0), (4, .int v0), (5, .int e0), (6, .int (nI (4 * i + j))), (7, .int (nI d))]) hx hb dX6_key_186 hl (by decide) rfl (fun ls hl => ?_)
            have loop188 : ∀ (d9 : Nat) (k : Nat), k < d9 → (16 * (4 * i + j) + d ≤ k) → (k ≤ 16 * (4 * i + j) + n) → ∀ (H : Heap) (locs : List Loc) (ls : Array Slot), va_P D cls [oO mo 6 [.int 0, .ref a1, .int (nI nC), .ref a2, .ref a3, .ref a4, .ref a5, .ref a6, .ref a7, .ref a8, .ref a9, .int (nI nS), .ref a10, .int (nI nM), .ref a11], aI D a2 6 ln, aI D a3 24 ks, aI D a4 384 (shF tm k (16 * (4 * i + j) + n)), aI D a5 384 (shF wo k (16 * (4 * i + j) + n)), aI D a6 384 (shF ea k (16 * (4 * i + j) + n))] H → va_D A [oO mo 6 [.int 0, .ref a1, .int (nI nC), .ref a2, .ref a3, .ref a4, .ref a5, .ref a6, .ref a7, .ref a8, .ref a9, .int (nI nS), .ref a10, .int (nI nM), .ref a11], aI D a2 6 ln, aI D a3 24 ks, aI D a4 384 (shF tm k (16 * (4 * i + j) + n)), aI D a5 384 (shF wo k (16 * (4 * i + j) + n)), aI D a6 384 (shF ea k (16 * (4 * i + j) + n))] → va_S A s.heap H locs → lv_has ls 10 [(0, .ref mo), (1, .int (nI i)), (2, .int (nI j)), (3, .int u0), (4, .int v0), (5, .int e0), (6, .int (nI (4 * i + j))), (7, .int (nI d)), (8, .int 0), (9, .int (nI k))] → W p l e ({ frames := 3, cells := 0, slots := 0, locals := 65 } : Room) s m ([.ref mo, .int (nI i), .int (nI j), .int u0, .int v0, .int e0] : List Value).toArray below meth c H locs 0 0 (MQ below (va_Qi (fun v _ => v = nI (n + 1)) (AT D A (fun _ : Unit => [oO mo 6 [.int 0, .ref a1, .int (nI nC), .ref a2, .ref a3, .ref a4, .ref a5, .ref a6, .ref a7, .ref a8, .ref a9, .int (nI nS), .ref a10, .int (nI nM), .ref a11], aI D a2 6 ln, aI D a3 24 (upd ks (4 * i + j) (nI (n + 1))), aI D a4 384 (insF tm (16 * (4 * i + j) + d) (16 * (4 * i + j) + n) u0), aI D a5 384 (insF wo (16 * (4 * i + j) + d) (16 * (4 * i + j) + n) v0), aI D a6 384 (insF ea (16 * (4 * i + j) + d) (16 * (4 * i + j) + n) e0)])) A) ([.ref mo, .int (nI i), .int (nI j), .int u0, .int v0, .int e0] : List Value).toArray s 0 0 A) (F0 m 188 ls []) := by
              intro d9
              induction d9 with
              | zero => intro k hd; exact absurd hd (Nat.not_lt_zero _)
              | succ d9 ih188 =>
                intro k hd188 hk1 hk2 H locs ls hP hD hS hl
                refine lv_iload hx hb dX6_key_188 (lv_at hl 9 rfl) ?_
                refine lv_iload hx hb dX6_key_190 (lv_at hl 6 rfl) ?_
                have hP9 : va_P D cls [] H := fun k q h => by simp at h
                refine vp_callSi (pS (rest := [.int (nI k)]) [.int (nI (4 * i + j))] 1 hC (m_row l D (j := 4 * i + j) ) (gS mM_X6_78 mT_X6_row mN_X6 mC_X6_row) (by decide +kernel) rfl rfl ⟨Nat.le_of_ble_eq_true rfl, Nat.le_of_ble_eq_true rfl⟩ hG hP9 rfl hl.1 rfl (Nat.le_of_ble_eq_true rfl) dX6_key_192 ⟨Nat.le_of_ble_eq_true rfl, Nat.le_of_ble_eq_true rfl⟩) (fun r192 h192 => ?_)
                obtain rfl : r192 = (nI (16 * (4 * i + j))) := h192
                refine lv_iload hx hb dX6_key_195 (lv_at hl 7 rfl) ?_
                refine lv_iadd hx hb dX6_key_197 ?_
                refine tpi (y := nI ((16 * (4 * i + j)) + d)) (nI_add (16 * (4 * i + j)) d) ?_
                refine lv_icmp_le (tgt := 240) hx hb dX6_key_198 (by decide) (fun c198 => ?_) (fun c198 => ?_)
                · skip
                  have n198 := (nI_leI (a := k) (b := (16 * (4 * i + j)) + d) (by omega) (by omega)).mp c198
                  have hk9 : k = 16 * (4 * i + j) + d := by omega
                  subst k
                  refine lv_aload_n hx hb dX6_key_240 rfl (lv_at hl 0 rfl) ?_
                  refine va_get (D := D) (ci := 6) (v := .ref a3) (C := RX6) (T := TX6) (N := 15) hx hb hts inlX6 hown hG.K hP 0 rfl rfl 4 (by decide) (hts _ mF_X6_16) (fun _ h9 => h9) rfl dX6_key_241 ?_
                  refine lv_iload hx hb dX6_key_244 (lv_at hl 6 rfl) ?_
                  refine lv_dup2_11 hx hb dX6_key_246 rfl rfl ?_
                  refine ild (n := 24) (j := 4 * i + j) hx hb hG hP 2 rfl (by omega) (by omega) dX6_key_247 ?_
                  refine tpi (y := nI n) (hks) ?_
                  refine lv_iconst (v := 1) hx hb dX6_key_248 (by decide) ?_
                  refine lv_iadd hx hb dX6_key_249 ?_
                  refine tpi (y := nI (n + 1)) (nI_add n 1) ?_
                  refine ist (n := 24) (j := 4 * i + j) hx hb hG hP hD hS 2 rfl (by omega) (by omega) dX6_key_250 (fun H locs hP hD hS => ?_)
                  have hP : va_P D cls [oO mo 6 [.int 0, .ref a1, .int (nI nC), .ref a2, .ref a3, .ref a4, .ref a5, .ref a6, .ref a7, .ref a8, .ref a9, .int (nI nS), .ref a10, .int (nI nM), .ref a11], aI D a2 6 ln, aI D a3 24 (upd ks (4 * i + j) (nI (n + 1))), aI D a4 384 (shF tm (16 * (4 * i + j) + d) (16 * (4 * i + j) + n)), aI D a5 384 (shF wo (16 * (4 * i + j) + d) (16 * (4 * i + j) + n)), aI D a6 384 (shF ea (16 * (4 * i + j) + d) (16 * (4 * i + j) + n))] H := hP
                  have hD : va_D A [oO mo 6 [.int 0, .ref a1, .int (nI nC), .ref a2, .ref a3, .ref a4, .ref a5, .ref a6, .ref a7, .ref a8, .ref a9, .int (nI nS), .ref a10, .int (nI nM), .ref a11], aI D a2 6 ln, aI D a3 24 (upd ks (4 * i + j) (nI (n + 1))), aI D a4 384 (shF tm (16 * (4 * i + j) + d) (16 * (4 * i + j) + n)), aI D a5 384 (shF wo (16 * (4 * i + j) + d) (16 * (4 * i + j) + n)), aI D a6 384 (shF ea (16 * (4 * i + j) + d) (16 * (4 * i + j) + n))] := hD
                  refine lv_aload_n hx hb dX6_key_251 rfl (lv_at hl 0 rfl) ?_
                  refine lv_iload hx hb dX6_key_252 (lv_at hl 6 rfl) ?_
                  have hP9 : va_P D cls [] H := fun k q h => by simp at h
                  refine vp_callSi (pS (rest := [.ref mo]) [.int (nI (4 * i + j))] 1 hC (m_row l D (j := 4 * i + j) ) (gS mM_X6_78 mT_X6_row mN_X6 mC_X6_row) (by decide +kernel) rfl rfl ⟨Nat.le_of_ble_eq_true rfl, Nat.le_of_ble_eq_true rfl⟩ hG hP9 rfl hl.1 rfl (Nat.le_of_ble_eq_true rfl) dX6_key_254 ⟨Nat.le_of_ble_eq_true rfl, Nat.le_of_ble_eq_true rfl⟩) (fun r254 h254 => ?_)
                  obtain rfl : r254 = (nI (16 * (4 * i + j))) := h254
                  refine lv_iload hx hb dX6_key_257 (lv_at hl 7 rfl) ?_
                  refine lv_iadd hx hb dX6_key_259 ?_
                  refine tpi (y := nI ((16 * (4 * i + j)) + d)) (nI_add (16 * (4 * i + j)) d) ?_
                  refine lv_iload_n hx hb dX6_key_260 rfl (lv_at hl 3 rfl) ?_
                  refine lv_iload hx hb dX6_key_261 (lv_at hl 4 rfl) ?_
                  refine lv_iload hx hb dX6_key_263 (lv_at hl 5 rfl) ?_
                  have hP9 := hP.sub (ws' := [oO mo 6 [.int 0, .ref a1, .int (nI nC), .ref a2, .ref a3, .ref a4, .ref a5, .ref a6, .ref a7, .ref a8, .ref a9, .int (nI nS), .ref a10, .int (nI nM), .ref a11], aI D a4 384 (shF tm (16 * (4 * i + j) + d) (16 * (4 * i + j) + n)), aI D a5 384 (shF wo (16 * (4 * i + j) + d) (16 * (4 * i + j) + n)), aI D a6 384 (shF ea (16 * (4 * i + j) + d) (16 * (4 * i + j) + n))]) [0, 3, 4, 5] rfl
                  have hD9 := (hD.sub (ws' := [oO mo 6 [.int 0, .ref a1, .int (nI nC), .ref a2, .ref a3, .ref a4, .ref a5, .ref a6, .ref a7, .ref a8, .ref a9, .int (nI nS), .ref a10, .int (nI nM), .ref a11], aI D a4 384 (shF tm (16 * (4 * i + j) + d) (16 * (4 * i + j) + n)), aI D a5 384 (shF wo (16 * (4 * i + j) + d) (16 * (4 * i + j) + n)), aI D a6 384 (shF ea (16 * (4 * i + j) + d) (16 * (4 * i + j) + n))]) [0, 3, 4, 5] (by decide) rfl).weaken (B := fun _ => True) (fun _ _ _ _ => trivial)
                  refine kv (wr := [aI D a2 6 ln, aI D a3 24 (upd ks (4 * i + j) (nI (n + 1)))]) (rV (rest := []) (qc := (RX6, TX6, 15)) [.int (nI ((16 * (4 * i + j)) + d)), .int u0, .int v0, .int e0] 4 0 0 hC (m_put l D (mo := mo) (k := (16 * (4 * i + j)) + d) (x := u0) (y := v0) (z := e0) (th := 0) (a1 := a1) (nC := nC) (a2 := a2) (a3 := a3) (a4 := a4) (a5 := a5) (a6 := a6) (a7 := a7) (a8 := a8) (a9 := a9) (nS := nS) (a10 := a10) (nM := nM) (a11 := a11) (tm := shF tm (16 * (4 * i + j) + d) (16 * (4 * i + j) + n)) (wo := shF wo (16 * (4 * i + j) + d) (16 * (4 * i + j) + n)) (ea := shF ea (16 * (4 * i + j) + d) (16 * (4 * i + j) + n)) (hz0 := H.size) (by omega)) rfl (hP 0 _ rfl) (gV mM_X6_81 mI_X6_put mS_X6_put mN_X6 mC_X6_put) (by decide +kernel) rfl rfl ⟨Nat.le_of_ble_eq_true rfl, Nat.le_of_ble_eq_true rfl⟩ hG hP9 hD9 rfl hl.1 rfl (Nat.le_of_ble_eq_true rfl) dX6_key_265 ⟨Nat.le_of_ble_eq_true rfl, Nat.le_of_ble_eq_true rfl⟩) hP hD hS hA [0, 3, 4, 5] [1, 2] rfl rfl (by decide) (by decide) (fun u265 H locs h265 hP hD hS hz hfr => ?_)
                  have hP : va_P D cls [aI D a2 6 ln, aI D a3 24 (upd ks (4 * i + j) (nI (n + 1))), oO mo 6 [.int 0, .ref a1, .int (nI nC), .ref a2, .ref a3, .ref a4, .ref a5, .ref a6, .ref a7, .ref a8, .ref a9, .int (nI nS), .ref a10, .int (nI nM), .ref a11], aI D a4 384 (upd (shF tm (16 * (4 * i + j) + d) (16 * (4 * i + j) + n)) ((16 * (4 * i + j)) + d) u0), aI D a5 384 (upd (shF wo (16 * (4 * i + j) + d) (16 * (4 * i + j) + n)) ((16 * (4 * i + j)) + d) v0), aI D a6 384 (upd (shF ea (16 * (4 * i + j) + d) (16 * (4 * i + j) + n)) ((16 * (4 * i + j)) + d) e0)] H := hP
                  have hD : va_D A [aI D a2 6 ln, aI D a3 24 (upd ks (4 * i + j) (nI (n + 1))), oO mo 6 [.int 0, .ref a1, .int (nI nC), .ref a2, .ref a3, .ref a4, .ref a5, .ref a6, .ref a7, .ref a8, .ref a9, .int (nI nS), .ref a10, .int (nI nM), .ref a11], aI D a4 384 (upd (shF tm (16 * (4 * i + j) + d) (16 * (4 * i + j) + n)) ((16 * (4 * i + j)) + d) u0), aI D a5 384 (upd (shF wo (16 * (4 * i + j) + d) (16 * (4 * i + j) + n)) ((16 * (4 * i + j)) + d) v0), aI D a6 384 (upd (shF ea (16 * (4 * i + j) + d) (16 * (4 * i + j) + n)) ((16 * (4 * i + j)) + d) e0)] := hD
                  refine lv_aload_n hx hb dX6_key_268 rfl (lv_at hl 0 rfl) ?_
                  refine va_get (D := D) (ci := 6) (v := .ref a3) (C := RX6) (T := TX6) (N := 15) hx hb hts inlX6 hown hG.K hP 2 rfl rfl 4 (by decide) (hts _ mF_X6_16) (fun _ h9 => h9) rfl dX6_key_269 ?_
                  refine lv_iload hx hb dX6_key_272 (lv_at hl 6 rfl) ?_
                  refine ild (n := 24) (j := 4 * i + j) hx hb hG hP 1 rfl (by omega) (by omega) dX6_key_274 ?_
                  refine tpi (y := nI (n + 1)) (if_pos rfl) ?_
                  refine Wi () hx hb hr hlk ?_ (hP.sub [2, 0, 1, 3, 4, 5] rfl) (hD.sub [2, 0, 1, 3, 4, 5] (by decide) rfl) hS (Nat.le_of_ble_eq_true rfl) (by first | exact Nat.le_of_ble_eq_true rfl | exact Nat.le_of_eq (Nat.zero_add _)) dX6_key_275
                  exact rfl
                · skip
                  have n198 := mt (nI_leI (a := k) (b := (16 * (4 * i + j)) + d) (by omega) (by omega)).mpr c198
                  refine lv_aload_n hx hb dX6_key_201 rfl (lv_at hl 0 rfl) ?_
                  refine lv_iload hx hb dX6_key_202 (lv_at hl 9 rfl) ?_
                  refine lv_aload_n hx hb dX6_key_204 rfl (lv_at hl 0 rfl) ?_
                  refine va_get (D := D) (ci := 6) (v := .ref a4) (C := RX6) (T := TX6) (N := 15) hx hb hts inlX6 hown hG.K hP 0 rfl rfl 5 (by decide) (hts _ mF_X6_19) (fun _ h9 => h9) rfl dX6_key_205 ?_
                  refine lv_iload hx hb dX6_key_208 (lv_at hl 9 rfl) ?_
                  refine lv_iconst (v := 1) hx hb dX6_key_210 (by decide) ?_
                  refine lv_isub hx hb dX6_key_211 ?_
                  refine tpi (y := nI (k - 1)) (pk_sub (a := k) (b := 1) (by omega)) ?_
                  refine ild (n := 384) (j := k - 1) hx hb hG hP 3 rfl (by omega) (by omega) dX6_key_212 ?_
                  refine lv_aload_n hx hb dX6_key_213 rfl (lv_at hl 0 rfl) ?_
                  refine va_get (D := D) (ci := 6) (v := .ref a5) (C := RX6) (T := TX6) (N := 15) hx hb hts inlX6 hown hG.K hP 0 rfl rfl 6 (by decide) (hts _ mF_X6_22) (fun _ h9 => h9) rfl dX6_key_214 ?_
                  refine lv_iload hx hb dX6_key_217 (lv_at hl 9 rfl) ?_
                  refine lv_iconst (v := 1) hx hb dX6_key_219 (by decide) ?_
                  refine lv_isub hx hb dX6_key_220 ?_
                  refine tpi (y := nI (k - 1)) (pk_sub (a := k) (b := 1) (by omega)) ?_
                  refine ild (n := 384) (j := k - 1) hx hb hG hP 4 rfl (by omega) (by omega) dX6_key_221 ?_
                  refine lv_aload_n hx hb dX6_key_222 rfl (lv_at hl 0 rfl) ?_
                  refine va_get (D := D) (ci := 6) (v := .ref a6) (C := RX6) (T := TX6) (N := 15) hx hb hts inlX6 hown hG.K hP 0 rfl rfl 7 (by decide) (hts _ mF_X6_25) (fun _ h9 => h9) rfl dX6_key_223 ?_
                  refine lv_iload hx hb dX6_key_226 (lv_at hl 9 rfl) ?_
                  refine lv_iconst (v := 1) hx hb dX6_key_228 (by decide) ?_
                  refine lv_isub hx hb dX6_key_229 ?_
                  refine tpi (y := nI (k - 1)) (pk_sub (a := k) (b := 1) (by omega)) ?_
                  refine ild (n := 384) (j := k - 1) hx hb hG hP 5 rfl (by omega) (by omega) dX6_key_230 ?_
                  have hP9 := hP.sub (ws' := [oO mo 6 [.int 0, .ref a1, .int (nI nC), .ref a2, .ref a3, .ref a4, .ref a5, .ref a6, .ref a7, .ref a8, .ref a9, .int (nI nS), .ref a10, .int (nI nM), .ref a11], aI D a4 384 (shF tm k (16 * (4 * i + j) + n)), aI D a5 384 (shF wo k (16 * (4 * i + j) + n)), aI D a6 384 (shF ea k (16 * (4 * i + j) + n))]) [0, 3, 4, 5] rfl
                  have hD9 := (hD.sub (ws' := [oO mo 6 [.int 0, .ref a1, .int (nI nC), .ref a2, .ref a3, .ref a4, .ref a5, .ref a6, .ref a7, .ref a8, .ref a9, .int (nI nS), .ref a10, .int (nI nM), .ref a11], aI D a4 384 (shF tm k (16 * (4 * i + j) + n)), aI D a5 384 (shF wo k (16 * (4 * i + j) + n)), aI D a6 384 (shF ea k (16 * (4 * i + j) + n))]) [0, 3, 4, 5] (by decide) rfl).weaken (B := fun _ => True) (fun _ _ _ _ => trivial)
                  refine kv (wr := [aI D a2 6 ln, aI D a3 24 ks]) (rV (rest := []) (qc := (RX6, TX6, 15)) [.int (nI k), .int ((shF tm k (16 * (4 * i + j) + n)) (k - 1)), .int ((shF wo k (16 * (4 * i + j) + n)) (k - 1)), .int ((shF ea k (16 * (4 * i + j) + n)) (k - 1))] 4 0 0 hC (m_put l D (mo := mo) (k := k) (x := (shF tm k (16 * (4 * i + j) + n)) (k - 1)) (y := (shF wo k (16 * (4 * i + j) + n)) (k - 1)) (z := (shF ea k (16 * (4 * i + j) + n)) (k - 1)) (th := 0) (a1 := a1) (nC := nC) (a2 := a2) (a3 := a3) (a4 := a4) (a5 := a5) (a6 := a6) (a7 := a7) (a8 := a8) (a9 := a9) (nS := nS) (a10 := a10) (nM := nM) (a11 := a11) (tm := shF tm k (16 * (4 * i + j) + n)) (wo := shF wo k (16 * (4 * i + j) + n)) (ea := shF ea k (16 * (4 * i + j) + n)) (hz0 := H.size) (by omega)) rfl (hP 0 _ rfl) (gV mM_X6_81 mI_X6_put mS_X6_put mN_X6 mC_X6_put) (by decide +kernel) rfl rfl ⟨Nat.le_of_ble_eq_true rfl, Nat.le_of_ble_eq_true rfl⟩ hG hP9 hD9 rfl hl.1 rfl (Nat.le_of_ble_eq_true rfl) dX6_key_231 ⟨Nat.le_of_ble_eq_true rfl, Nat.le_of_ble_eq_true rfl⟩) hP hD hS hA [0, 3, 4, 5] [1, 2] rfl rfl (by decide) (by decide) (fun u231 H locs h231 hP hD hS hz hfr => ?_)
                  have hP : va_P D cls [aI D a2 6 ln, aI D a3 24 ks, oO mo 6 [.int 0, .ref a1, .int (nI nC), .ref a2, .ref a3, .ref a4, .ref a5, .ref a6, .ref a7, .ref a8, .ref a9, .int (nI nS), .ref a10, .int (nI nM), .ref a11], aI D a4 384 (upd (shF tm k (16 * (4 * i + j) + n)) k ((shF tm k (16 * (4 * i + j) + n)) (k - 1))), aI D a5 384 (upd (shF wo k (16 * (4 * i + j) + n)) k ((shF wo k (16 * (4 * i + j) + n)) (k - 1))), aI D a6 384 (upd (shF ea k (16 * (4 * i + j) + n)) k ((shF ea k (16 * (4 * i + j) + n)) (k - 1)))] H := hP
                  have hD : va_D A [aI D a2 6 ln, aI D a3 24 ks, oO mo 6 [.int 0, .ref a1, .int (nI nC), .ref a2, .ref a3, .ref a4, .ref a5, .ref a6, .ref a7, .ref a8, .ref a9, .int (nI nS), .ref a10, .int (nI nM), .ref a11], aI D a4 384 (upd (shF tm k (16 * (4 * i + j) + n)) k ((shF tm k (16 * (4 * i + j) + n)) (k - 1))), aI D a5 384 (upd (shF wo k (16 * (4 * i + j) + n)) k ((shF wo k (16 * (4 * i + j) + n)) (k - 1))), aI D a6 384 (upd (shF ea k (16 * (4 * i + j) + n)) k ((shF ea k (16 * (4 * i + j) + n)) (k - 1)))] := hD
                  have hcv13 : (shF tm (k - 1) (16 * (4 * i + j) + n)) = (upd (shF tm k (16 * (4 * i + j) + n)) k ((shF tm k (16 * (4 * i + j) + n)) (k - 1))) := (shF_step (f := tm) (k := k) (sz := 16 * (4 * i + j) + n) (by omega) (by omega)).symm
                  have hP := Eq.mpr (congrArg (fun z9 => va_P D cls [aI D a2 6 ln, aI D a3 24 ks, oO mo 6 [.int 0, .ref a1, .int (nI nC), .ref a2, .ref a3, .ref a4, .ref a5, .ref a6, .ref a7, .ref a8, .ref a9, .int (nI nS), .ref a10, .int (nI nM), .ref a11], aI D a4 384 z9, aI D a5 384 (upd (shF wo k (16 * (4 * i + j) + n)) k ((shF wo k (16 * (4 * i + j) + n)) (k - 1))), aI D a6 384 (upd (shF ea k (16 * (4 * i + j) + n)) k ((shF ea k (16 * (4 * i + j) + n)) (k - 1)))] H) hcv13) hP
                  have hD := Eq.mpr (congrArg (fun z9 => va_D A [aI D a2 6 ln, aI D a3 24 ks, oO mo 6 [.int 0, .ref a1, .int (nI nC), .ref a2, .ref a3, .ref a4, .ref a5, .ref a6, .ref a7, .ref a8, .ref a9, .int (nI nS), .ref a10, .int (nI nM), .ref a11], aI D a4 384 z9, aI D a5 384 (upd (shF wo k (16 * (4 * i + j) + n)) k ((shF wo k (16 * (4 * i + j) + n)) (k - 1))), aI D a6 384 (upd (shF ea k (16 * (4 * i + j) + n)) k ((shF ea k (16 * (4 * i + j) + n)) (k - 1)))]) hcv13) hD
                  have hP : va_P D cls [aI D a2 6 ln, aI D a3 24 ks, oO mo 6 [.int 0, .ref a1, .int (nI nC), .ref a2, .ref a3, .ref a4, .ref a5, .ref a6, .ref a7, .ref a8, .ref a9, .int (nI nS), .ref a10, .int (nI nM), .ref a11], aI D a4 384 (shF tm (k - 1) (16 * (4 * i + j) + n)), aI D a5 384 (upd (shF wo k (16 * (4 * i + j) + n)) k ((shF wo k (16 * (4 * i + j) + n)) (k - 1))), aI D a6 384 (upd (shF ea k (16 * (4 * i + j) + n)) k ((shF ea k (16 * (4 * i + j) + n)) (k - 1)))] H := hP
                  have hD : va_D A [aI D a2 6 ln, aI D a3 24 ks, oO mo 6 [.int 0, .ref a1, .int (nI nC), .ref a2, .ref a3, .ref a4, .ref a5, .ref a6, .ref a7, .ref a8, .ref a9, .int (nI nS), .ref a10, .int (nI nM), .ref a11], aI D a4 384 (shF tm (k - 1) (16 * (4 * i + j) + n)), aI D a5 384 (upd (shF wo k (16 * (4 * i + j) + n)) k ((shF wo k (16 * (4 * i + j) + n)) (k - 1))), aI D a6 384 (upd (shF ea k (16 * (4 * i + j) + n)) k ((shF ea k (16 * (4 * i + j) + n)) (k - 1)))] := hD
                  have hcv14 : (shF wo (k - 1) (16 * (4 * i + j) + n)) = (upd (shF wo k (16 * (4 * i + j) + n)) k ((shF wo k (16 * (4 * i + j) + n)) (k - 1))) := (shF_step (f := wo) (k := k) (sz := 16 * (4 * i + j) + n) (by omega) (by omega)).symm
                  have hP := Eq.mpr (congrArg (fun z9 => va_P D cls [aI D a2 6 ln, aI D a3 24 ks, oO mo 6 [.int 0, .ref a1, .int (nI nC), .ref a2, .ref a3, .ref a4, .ref a5, .ref a6, .ref a7, .ref a8, .ref a9, .int (nI nS), .ref a10, .int (nI nM), .ref a11], aI D a4 384 (shF tm (k - 1) (16 * (4 * i + j) + n)), aI D a5 384 z9, aI D a6 384 (upd (shF ea k (16 * (4 * i + j) + n)) k ((shF ea k (16 * (4 * i + j) + n)) (k - 1)))] H) hcv14) hP
                  have hD := Eq.mpr (congrArg (fun z9 => va_D A [aI D a2 6 ln, aI D a3 24 ks, oO mo 6 [.int 0, .ref a1, .int (nI nC), .ref a2, .ref a3, .ref a4, .ref a5, .ref a6, .ref a7, .ref a8, .ref a9, .int (nI nS), .ref a10, .int (nI nM), .ref a11], aI D a4 384 (shF tm (k - 1) (16 * (4 * i + j) + n)), aI D a5 384 z9, aI D a6 384 (upd (shF ea k (16 * (4 * i + j) + n)) k ((shF ea k (16 * (4 * i + j) + n)) (k - 1)))]) hcv14) hD
                  have hP : va_P D cls [aI D a2 6 ln, aI D a3 24 ks, oO mo 6 [.int 0, .ref a1, .int (nI nC), .ref a2, .ref a3, .ref a4, .ref a5, .ref a6, .ref a7, .ref a8, .ref a9, .int (nI nS), .ref a10, .int (nI nM), .ref a11], aI D a4 384 (shF tm (k - 1) (16 * (4 * i + j) + n)), aI D a5 384 (shF wo (k - 1) (16 * (4 * i + j) + n)), aI D a6 384 (upd (shF ea k (16 * (4 * i + j) + n)) k ((shF ea k (16 * (4 * i + j) + n)) (k - 1)))] H := hP
                  have hD : va_D A [aI D a2 6 ln, aI D a3 24 ks, oO mo 6 [.int 0, .ref a1, .int (nI nC), .ref a2, .ref a3, .ref a4, .ref a5, .ref a6, .ref a7, .ref a8, .ref a9, .int (nI nS), .ref a10, .int (nI nM), .ref a11], aI D a4 384 (shF tm (k - 1) (16 * (4 * i + j) + n)), aI D a5 384 (shF wo (k - 1) (16 * (4 * i + j) + n)), aI D a6 384 (upd (shF ea k (16 * (4 * i + j) + n)) k ((shF ea k (16 * (4 * i + j) + n)) (k - 1)))] := hD
                  have hcv15 : (shF ea (k - 1) (16 * (4 * i + j) + n)) = (upd (shF ea k (16 * (4 * i + j) + n)) k ((shF ea k (16 * (4 * i + j) + n)) (k - 1))) := (shF_step (f := ea) (k := k) (sz := 16 * (4 * i + j) + n) (by omega) (by omega)).symm
                  have hP := Eq.mpr (congrArg (fun z9 => va_P D cls [aI D a2 6 ln, aI D a3 24 ks, oO mo 6 [.int 0, .ref a1, .int (nI nC), .ref a2, .ref a3, .ref a4, .ref a5, .ref a6, .ref a7, .ref a8, .ref a9, .int (nI nS), .ref a10, .int (nI nM), .ref a11], aI D a4 384 (shF tm (k - 1) (16 * (4 * i + j) + n)), aI D a5 384 (shF wo (k - 1) (16 * (4 * i + j) + n)), aI D a6 384 z9] H) hcv15) hP
                  have hD := Eq.mpr (congrArg (fun z9 => va_D A [aI D a2 6 ln, aI D a3 24 ks, oO mo 6 [.int 0, .ref a1, .int (nI nC), .ref a2, .ref a3, .ref a4, .ref a5, .ref a6, .ref a7, .ref a8, .ref a9, .int (nI nS), .ref a10, .int (nI nM), .ref a11], aI D a4 384 (shF tm (k - 1) (16 * (4 * i + j) + n)), aI D a5 384 (shF wo (k - 1) (16 * (4 * i + j) + n)), aI D a6 384 z9]) hcv15) hD
                  have hP : va_P D cls [aI D a2 6 ln, aI D a3 24 ks, oO mo 6 [.int 0, .ref a1, .int (nI nC), .ref a2, .ref a3, .ref a4, .ref a5, .ref a6, .ref a7, .ref a8, .ref a9, .int (nI nS), .ref a10, .int (nI nM), .ref a11], aI D a4 384 (shF tm (k - 1) (16 * (4 * i + j) + n)), aI D a5 384 (shF wo (k - 1) (16 * (4 * i + j) + n)), aI D a6 384 (shF ea (k - 1) (16 * (4 * i + j) + n))] H := hP
                  have hD : va_D A [aI D a2 6 ln, aI D a3 24 ks, oO mo 6 [.int 0, .ref a1, .int (nI nC), .ref a2, .ref a3, .ref a4, .ref a5, .ref a6, .ref a7, .ref a8, .ref a9, .int (nI nS), .ref a10, .int (nI nM), .ref a11], aI D a4 384 (shF tm (k - 1) (16 * (4 * i + j) + n)), aI D a5 384 (shF wo (k - 1) (16 * (4 * i + j) + n)), aI D a6 384 (shF ea (k - 1) (16 * (4 * i + j) + n))] := hD
                  refine lv_iinc (v := nI (k - 1)) (lv' := [(9, .int (nI (k - 1))), (0, .ref mo), (1, .int (nI i)), (2, .int (nI j)), (3, .int u0), (4, .int v0), (5, .int e0), (6, .int (nI (4 * i + j))), (7, .int (nI d)), (8, .int 0)]) hx hb dX6_key_234 hl (k := 9) rfl (sb_m1 (by omega)) (by decide) rfl (fun ls hl => ?_)
                  refine lv_goto (tgt := 188) hx hb dX6_key_237 (by decide) ?_
                  exact ih188 (k - 1) (by omega) (by omega) (by omega) _ _ _ (hP.sub [2, 0, 1, 3, 4, 5] rfl) (hD.sub [2, 0, 1, 3, 4, 5] (by decide) rfl) hS (lv_sub hl [1, 2, 3, 4, 5, 6, 7, 8, 9, 0] rfl)
            have hcv16 : (shF tm (16 * (4 * i + j) + n) (16 * (4 * i + j) + n)) = tm := shF_self _ _
            have hP := Eq.mpr (congrArg (fun z9 => va_P D cls [oO mo 6 [.int 0, .ref a1, .int (nI nC), .ref a2, .ref a3, .ref a4, .ref a5, .ref a6, .ref a7, .ref a8, .ref a9, .int (nI nS), .ref a10, .int (nI nM), .ref a11], aI D a2 6 ln, aI D a3 24 ks, aI D a4 384 z9, aI D a5 384 wo, aI D a6 384 ea] H) hcv16) hP
            have hD := Eq.mpr (congrArg (fun z9 => va_D A [oO mo 6 [.int 0, .ref a1, .int (nI nC), .ref a2, .ref a3, .ref a4, .ref a5, .ref a6, .ref a7, .ref a8, .ref a9, .int (nI nS), .ref a10, .int (nI nM), .ref a11], aI D a2 6 ln, aI D a3 24 ks, aI D a4 384 z9, aI D a5 384 wo, aI D a6 384 ea]) hcv16) hD
            have hP : va_P D cls [oO mo 6 [.int 0, .ref a1, .int (nI nC), .ref a2, .ref a3, .ref a4, .ref a5, .ref a6, .ref a7, .ref a8, .ref a9, .int (nI nS), .ref a10, .int (nI nM), .ref a11], aI D a2 6 ln, aI D a3 24 ks, aI D a4 384 (shF tm (16 * (4 * i + j) + n) (16 * (4 * i + j) + n)), aI D a5 384 wo, aI D a6 384 ea] H := hP
            have hD : va_D A [oO mo 6 [.int 0, .ref a1, .int (nI nC), .ref a2, .ref a3, .ref a4, .ref a5, .ref a6, .ref a7, .ref a8, .ref a9, .int (nI nS), .ref a10, .int (nI nM), .ref a11], aI D a2 6 ln, aI D a3 24 ks, aI D a4 384 (shF tm (16 * (4 * i + j) + n) (16 * (4 * i + j) + n)), aI D a5 384 wo, aI D a6 384 ea] := hD
            have hcv17 : (shF wo (16 * (4 * i + j) + n) (16 * (4 * i + j) + n)) = wo := shF_self _ _
            have hP := Eq.mpr (congrArg (fun z9 => va_P D cls [oO mo 6 [.int 0, .ref a1, .int (nI nC), .ref a2, .ref a3, .ref a4, .ref a5, .ref a6, .ref a7, .ref a8, .ref a9, .int (nI nS), .ref a10, .int (nI nM), .ref a11], aI D a2 6 ln, aI D a3 24 ks, aI D a4 384 (shF tm (16 * (4 * i + j) + n) (16 * (4 * i + j) + n)), aI D a5 384 z9, aI D a6 384 ea] H) hcv17) hP
            have hD := Eq.mpr (congrArg (fun z9 => va_D A [oO mo 6 [.int 0, .ref a1, .int (nI nC), .ref a2, .ref a3, .ref a4, .ref a5, .ref a6, .ref a7, .ref a8, .ref a9, .int (nI nS), .ref a10, .int (nI nM), .ref a11], aI D a2 6 ln, aI D a3 24 ks, aI D a4 384 (shF tm (16 * (4 * i + j) + n) (16 * (4 * i + j) + n)), aI D a5 384 z9, aI D a6 384 ea]) hcv17) hD
            have hP : va_P D cls [oO mo 6 [.int 0, .ref a1, .int (nI nC), .ref a2, .ref a3, .ref a4, .ref a5, .ref a6, .ref a7, .ref a8, .ref a9, .int (nI nS), .ref a10, .int (nI nM), .ref a11], aI D a2 6 ln, aI D a3 24 ks, aI D a4 384 (shF tm (16 * (4 * i + j) + n) (16 * (4 * i + j) + n)), aI D a5 384 (shF wo (16 * (4 * i + j) + n) (16 * (4 * i + j) + n)), aI D a6 384 ea] H := hP
            have hD : va_D A [oO mo 6 [.int 0, .ref a1, .int (nI nC), .ref a2, .ref a3, .ref a4, .ref a5, .ref a6, .ref a7, .ref a8, .ref a9, .int (nI nS), .ref a10, .int (nI nM), .ref a11], aI D a2 6 ln, aI D a3 24 ks, aI D a4 384 (shF tm (16 * (4 * i + j) + n) (16 * (4 * i + j) + n)), aI D a5 384 (shF wo (16 * (4 * i + j) + n) (16 * (4 * i + j) + n)), aI D a6 384 ea] := hD
            have hcv18 : (shF ea (16 * (4 * i + j) + n) (16 * (4 * i + j) + n)) = ea := shF_self _ _
            have hP := Eq.mpr (congrArg (fun z9 => va_P D cls [oO mo 6 [.int 0, .ref a1, .int (nI nC), .ref a2, .ref a3, .ref a4, .ref a5, .ref a6, .ref a7, .ref a8, .ref a9, .int (nI nS), .ref a10, .int (nI nM), .ref a11], aI D a2 6 ln, aI D a3 24 ks, aI D a4 384 (shF tm (16 * (4 * i + j) + n) (16 * (4 * i + j) + n)), aI D a5 384 (shF wo (16 * (4 * i + j) + n) (16 * (4 * i + j) + n)), aI D a6 384 z9] H) hcv18) hP
            have hD := Eq.mpr (congrArg (fun z9 => va_D A [oO mo 6 [.int 0, .ref a1, .int (nI nC), .ref a2, .ref a3, .ref a4, .ref a5, .ref a6, .ref a7, .ref a8, .ref a9, .int (nI nS), .ref a10, .int (nI nM), .ref a11], aI D a2 6 ln, aI D a3 24 ks, aI D a4 384 (shF tm (16 * (4 * i + j) + n) (16 * (4 * i + j) + n)), aI D a5 384 (shF wo (16 * (4 * i + j) + n) (16 * (4 * i + j) + n)), aI D a6 384 z9]) hcv18) hD
            have hP : va_P D cls [oO mo 6 [.int 0, .ref a1, .int (nI nC), .ref a2, .ref a3, .ref a4, .ref a5, .ref a6, .ref a7, .ref a8, .ref a9, .int (nI nS), .ref a10, .int (nI nM), .ref a11], aI D a2 6 ln, aI D a3 24 ks, aI D a4 384 (shF tm (16 * (4 * i + j) + n) (16 * (4 * i + j) + n)), aI D a5 384 (shF wo (16 * (4 * i + j) + n) (16 * (4 * i + j) + n)), aI D a6 384 (shF ea (16 * (4 * i + j) + n) (16 * (4 * i + j) + n))] H := hP
            have hD : va_D A [oO mo 6 [.int 0, .ref a1, .int (nI nC), .ref a2, .ref a3, .ref a4, .ref a5, .ref a6, .ref a7, .ref a8, .ref a9, .int (nI nS), .ref a10, .int (nI nM), .ref a11], aI D a2 6 ln, aI D a3 24 ks, aI D a4 384 (shF tm (16 * (4 * i + j) + n) (16 * (4 * i + j) + n)), aI D a5 384 (shF wo (16 * (4 * i + j) + n) (16 * (4 * i + j) + n)), aI D a6 384 (shF ea (16 * (4 * i + j) + n) (16 * (4 * i + j) + n))] := hD
            exact loop188 _ (16 * (4 * i + j) + n) (Nat.lt_succ_self _) (by omega) (by omega) _ _ _ hP hD hS (lv_sub hl [2, 3, 4, 5, 6, 7, 8, 9, 1, 0] rfl)
          · skip
            have n118 := mt (nI_leI (a := n) (b := d) (by omega) (by omega)).mpr c118
            refine lv_aload_n hx hb dX6_key_121 rfl (lv_at hl 0 rfl) ?_
            refine va_get (D := D) (ci := 6) (v := .ref a4) (C := RX6) (T := TX6) (N := 15) hx hb hts inlX6 hown hG.K hP 0 rfl rfl 5 (by decide) (hts _ mF_X6_19) (fun _ h9 => h9) rfl dX6_key_122 ?_
            refine lv_iload hx hb dX6_key_125 (lv_at hl 6 rfl) ?_
            have hP9 : va_P D cls [] H := fun k q h => by simp at h
            refine vp_callSi (pS (rest := [.ref a4]) [.int (nI (4 * i + j))] 1 hC (m_row l D (j := 4 * i + j) ) (gS mM_X6_78 mT_X6_row mN_X6 mC_X6_row) (by decide +kernel) rfl rfl ⟨Nat.le_of_ble_eq_true rfl, Nat.le_of_ble_eq_true rfl⟩ hG hP9 rfl hl.1 rfl (Nat.le_of_ble_eq_true rfl) dX6_key_127 ⟨Nat.le_of_ble_eq_true rfl, Nat.le_of_ble_eq_true rfl⟩) (fun r127 h127 => ?_)
            obtain rfl : r127 = (nI (16 * (4 * i + j))) := h127
            refine lv_iload hx hb dX6_key_130 (lv_at hl 7 rfl) ?_
            refine lv_iadd hx hb dX6_key_132 ?_
            refine tpi (y := nI ((16 * (4 * i + j)) + d)) (nI_add (16 * (4 * i + j)) d) ?_
            refine ild (n := 384) (j := (16 * (4 * i + j)) + d) hx hb hG hP 3 rfl (by omega) (by omega) dX6_key_133 ?_
            refine lv_iload_n hx hb dX6_key_134 rfl (lv_at hl 3 rfl) ?_
            refine lv_icmp_ne (tgt := 142) hx hb dX6_key_135 (by decide) (fun c135 => ?_) (fun c135 => absurd c135 (fun z => hni ⟨by omega, z⟩))
            refine lv_iconst (v := 0) hx hb dX6_key_142 (by decide) ?_
            refine lv_istore (lv' := [(8, .int 0), (0, .ref mo), (1, .int (nI i)), (2, .int (nI j)), (3, .int u0), (4, .int v0), (5, .int e0), (6, .int (nI (4 * i + j))), (7, .int (nI d))]) hx hb dX6_key_143 hl (by decide) rfl (fun ls hl => ?_)
            refine lv_iload hx hb dX6_key_145 (lv_at hl 0 rfl) ?_
            refine lv_if_ne (tgt := 168) hx hb dX6_key_147 (by decide) (fun h9 => (h9 (by decide)).elim) (fun _ => ?_)
            refine lv_aload_n hx hb dX6_key_150 rfl (lv_at hl 1 rfl) ?_
            refine va_get (D := D) (ci := 6) (v := .ref a3) (C := RX6) (T := TX6) (N := 15) hx hb hts inlX6 hown hG.K hP 0 rfl rfl 4 (by decide) (hts _ mF_X6_16) (fun _ h9 => h9) rfl dX6_key_151 ?_
            refine lv_iload hx hb dX6_key_154 (lv_at hl 7 rfl) ?_
            refine ild (n := 24) (j := 4 * i + j) hx hb hG hP 2 rfl (by omega) (by omega) dX6_key_156 ?_
            refine tpi (y := nI n) (hks) ?_
            refine lv_bipush (v := 16) hx hb dX6_key_157 (by decide) ?_
            refine lv_icmp_ne (tgt := 168) hx hb dX6_key_159 (by decide) (fun _ => ?_) (fun h9 => absurd ((nI_eq (a := n) (b := 16) (by omega) (by omega)).mp h9) (by omega))
            refine lv_iload hx hb dX6_key_168 (lv_at hl 0 rfl) ?_
            refine lv_if_ne (tgt := 251) hx hb dX6_key_170 (by decide) (fun h9 => (h9 (by decide)).elim) (fun _ => ?_)
            refine lv_iload hx hb dX6_key_173 (lv_at hl 7 rfl) ?_
            have hP9 : va_P D cls [] H := fun k q h => by simp at h
            refine vp_callSi (pS (rest := []) [.int (nI (4 * i + j))] 1 hC (m_row l D (j := 4 * i + j) ) (gS mM_X6_78 mT_X6_row mN_X6 mC_X6_row) (by decide +kernel) rfl rfl ⟨Nat.le_of_ble_eq_true rfl, Nat.le_of_ble_eq_true rfl⟩ hG hP9 rfl hl.1 rfl (Nat.le_of_ble_eq_true rfl) dX6_key_175 ⟨Nat.le_of_ble_eq_true rfl, Nat.le_of_ble_eq_true rfl⟩) (fun r175 h175 => ?_)
            obtain rfl : r175 = (nI (16 * (4 * i + j))) := h175
            refine lv_aload_n hx hb dX6_key_178 rfl (lv_at hl 1 rfl) ?_
            refine va_get (D := D) (ci := 6) (v := .ref a3) (C := RX6) (T := TX6) (N := 15) hx hb hts inlX6 hown hG.K hP 0 rfl rfl 4 (by decide) (hts _ mF_X6_16) (fun _ h9 => h9) rfl dX6_key_179 ?_
            refine lv_iload hx hb dX6_key_182 (lv_at hl 7 rfl) ?_
            refine ild (n := 24) (j := 4 * i + j) hx hb hG hP 2 rfl (by omega) (by omega) dX6_key_184 ?_
            refine tpi (y := nI n) (hks) ?_
            refine lv_iadd hx hb dX6_key_185 ?_
            refine tpi (y := nI ((16 * (4 * i + j)) + n)) (nI_add (16 * (4 * i + j)) n) ?_
            refine lv_istore (lv' := [(9, .int (nI ((16 * (4 * i + j)) + n))), (8, .int 0), (0, .ref mo), (1, .int (nI i)), (2, .int (nI j)), (3, .int u0), (4, .int v0), (5, .int e0), (6, .int (nI (4 * i + j))), (7, .int (nI d))]) hx hb dX6_key_186 hl (by decide) rfl (fun ls hl => ?_)
            have loop188 : ∀ (d9 : Nat) (k : Nat), k < d9 → (16 * (4 * i + j) + d ≤ k) → (k ≤ 16 * (4 * i + j) + n) → ∀ (H : Heap) (locs : List Loc) (ls : Array Slot), va_P D cls [oO mo 6 [.int 0, .ref a1, .int (nI nC), .ref a2, .ref a3, .ref a4, .ref a5, .ref a6, .ref a7, .ref a8, .ref a9, .int (nI nS), .ref a10, .int (nI nM), .ref a11], aI D a2 6 ln, aI D a3 24 ks, aI D a4 384 (shF tm k (16 * (4 * i + j) + n)), aI D a5 384 (shF wo k (16 * (4 * i + j) + n)), aI D a6 384 (shF ea k (16 * (4 * i + j) + n))] H → va_D A [oO mo 6 [.int 0, .ref a1, .int (nI nC), .ref a2, .ref a3, .ref a4, .ref a5, .ref a6, .ref a7, .ref a8, .ref a9, .int (nI nS), .ref a10, .int (nI nM), .ref a11], aI D a2 6 ln, aI D a3 24 ks, aI D a4 384 (shF tm k (16 * (4 * i + j) + n)), aI D a5 384 (shF wo k (16 * (4 * i + j) + n)), aI D a6 384 (shF ea k (16 * (4 * i + j) + n))] → va_S A s.heap H locs → lv_has ls 10 [(0, .ref mo), (1, .int (nI i)), (2, .int (nI j)), (3, .int u0), (4, .int v0), (5, .int e0), (6, .int (nI (4 * i + j))), (7, .int (nI d)), (8, .int 0), (9, .int (nI k))] → W p l e ({ frames := 3, cells := 0, slots := 0, locals := 65 } : Room) s m ([.ref mo, .int (nI i), .int (nI j), .int u0, .int v0, .int e0] : List Value).toArray below meth c H locs 0 0 (MQ below (va_Qi (fun v _ => v = nI (n + 1)) (AT D A (fun _ : Unit => [oO mo 6 [.int 0, .ref a1, .int (nI nC), .ref a2, .ref a3, .ref a4, .ref a5, .ref a6, .ref a7, .ref a8, .ref a9, .int (nI nS), .ref a10, .int (nI nM), .ref a11], aI D a2 6 ln, aI D a3 24 (upd ks (4 * i + j) (nI (n + 1))), aI D a4 384 (insF tm (16 * (4 * i + j) + d) (16 * (4 * i + j) + n) u0), aI D a5 384 (insF wo (16 * (4 * i + j) + d) (16 * (4 * i + j) + n) v0), aI D a6 384 (insF ea (16 * (4 * i + j) + d) (16 * (4 * i + j) + n) e0)])) A) ([.ref mo, .int (nI i), .int (nI j), .int u0, .int v0, .int e0] : List Value).toArray s 0 0 A) (F0 m 188 ls []) := by
              intro d9
              induction d9 with
              | zero => intro k hd; exact absurd hd (Nat.not_lt_zero _)
              | succ d9 ih188 =>
                intro k hd188 hk1 hk2 H locs ls hP hD hS hl
                refine lv_iload hx hb dX6_key_188 (lv_at hl 9 rfl) ?_
                refine lv_iload hx hb dX6_key_190 (lv_at hl 6 rfl) ?_
                have hP9 : va_P D cls [] H := fun k q h => by simp at h
                refine vp_callSi (pS (rest := [.int (nI k)]) [.int (nI (4 * i + j))] 1 hC (m_row l D (j := 4 * i + j) ) (gS mM_X6_78 mT_X6_row mN_X6 mC_X6_row) (by decide +kernel) rfl rfl ⟨Nat.le_of_ble_eq_true rfl, Nat.le_of_ble_eq_true rfl⟩ hG hP9 rfl hl.1 rfl (Nat.le_of_ble_eq_true rfl) dX6_key_192 ⟨Nat.le_of_ble_eq_true rfl, Nat.le_of_ble_eq_true rfl⟩) (fun r192 h192 => ?_)
                obtain rfl : r192 = (nI (16 * (4 * i + j))) := h192
                refine lv_iload hx hb dX6_key_195 (lv_at hl 7 rfl) ?_
                refine lv_iadd hx hb dX6_key_197 ?_
                refine tpi (y := nI ((16 * (4 * i + j)) + d)) (nI_add (16 * (4 * i + j)) d) ?_
                refine lv_icmp_le (tgt := 240) hx hb dX6_key_198 (by decide) (fun c198 => ?_) (fun c198 => ?_)
                · skip
                  have n198 := (nI_leI (a := k) (b := (16 * (4 * i + j)) + d) (by omega) (by omega)).mp c198
                  have hk9 : k = 16 * (4 * i + j) + d := by omega
                  subst k
                  refine lv_aload_n hx hb dX6_key_240 rfl (lv_at hl 0 rfl) ?_
                  refine va_get (D := D) (ci := 6) (v := .ref a3) (C := RX6) (T := TX6) (N := 15) hx hb hts inlX6 hown hG.K hP 0 rfl rfl 4 (by decide) (hts _ mF_X6_16) (fun _ h9 => h9) rfl dX6_key_241 ?_
                  refine lv_iload hx hb dX6_key_244 (lv_at hl 6 rfl) ?_
                  refine lv_dup2_11 hx hb dX6_key_246 rfl rfl ?_
                  refine ild (n := 24) (j := 4 * i + j) hx hb hG hP 2 rfl (by omega) (by omega) dX6_key_247 ?_
                  refine tpi (y := nI n) (hks) ?_
                  refine lv_iconst (v := 1) hx hb dX6_key_248 (by decide) ?_
                  refine lv_iadd hx hb dX6_key_249 ?_
                  refine tpi (y := nI (n + 1)) (nI_add n 1) ?_
                  refine ist (n := 24) (j := 4 * i + j) hx hb hG hP hD hS 2 rfl (by omega) (by omega) dX6_key_250 (fun H locs hP hD hS => ?_)
                  have hP : va_P D cls [oO mo 6 [.int 0, .ref a1, .int (nI nC), .ref a2, .ref a3, .ref a4, .ref a5, .ref a6, .ref a7, .ref a8, .ref a9, .int (nI nS), .ref a10, .int (nI nM), .ref a11], aI D a2 6 ln, aI D a3 24 (upd ks (4 * i + j) (nI (n + 1))), aI D a4 384 (shF tm (16 * (4 * i + j) + d) (16 * (4 * i + j) + n)), aI D a5 384 (shF wo (16 * (4 * i + j) + d) (16 * (4 * i + j) + n)), aI D a6 384 (shF ea (16 * (4 * i + j) + d) (16 * (4 * i + j) + n))] H := hP
                  have hD : va_D A [oO mo 6 [.int 0, .ref a1, .int (nI nC), .ref a2, .ref a3, .ref a4, .ref a5, .ref a6, .ref a7, .ref a8, .ref a9, .int (nI nS), .ref a10, .int (nI nM), .ref a11], aI D a2 6 ln, aI D a3 24 (upd ks (4 * i + j) (nI (n + 1))), aI D a4 384 (shF tm (16 * (4 * i + j) + d) (16 * (4 * i + j) + n)), aI D a5 384 (shF wo (16 * (4 * i + j) + d) (16 * (4 * i + j) + n)), aI D a6 384 (shF ea (16 * (4 * i + j) + d) (16 * (4 * i + j) + n))] := hD
                  refine lv_aload_n hx hb dX6_key_251 rfl (lv_at hl 0 rfl) ?_
                  refine lv_iload hx hb dX6_key_252 (lv_at hl 6 rfl) ?_
                  have hP9 : va_P D cls [] H := fun k q h => by simp at h
                  refine vp_callSi (pS (rest := [.ref mo]) [.int (nI (4 * i + j))] 1 hC (m_row l D (j := 4 * i + j) ) (gS mM_X6_78 mT_X6_row mN_X6 mC_X6_row) (by decide +kernel) rfl rfl ⟨Nat.le_of_ble_eq_true rfl, Nat.le_of_ble_eq_true rfl⟩ hG hP9 rfl hl.1 rfl (Nat.le_of_ble_eq_true rfl) dX6_key_254 ⟨Nat.le_of_ble_eq_true rfl, Nat.le_of_ble_eq_true rfl⟩) (fun r254 h254 => ?_)
                  obtain rfl : r254 = (nI (16 * (4 * i + j))) := h254
                  refine lv_iload hx hb dX6_key_257 (lv_at hl 7 rfl) ?_
                  refine lv_iadd hx hb dX6_key_259 ?_
                  refine tpi (y := nI ((16 * (4 * i + j)) + d)) (nI_add (16 * (4 * i + j)) d) ?_
                  refine lv_iload_n hx hb dX6_key_260 rfl (lv_at hl 3 rfl) ?_
                  refine lv_iload hx hb dX6_key_261 (lv_at hl 4 rfl) ?_
                  refine lv_iload hx hb dX6_key_263 (lv_at hl 5 rfl) ?_
                  have hP9 := hP.sub (ws' := [oO mo 6 [.int 0, .ref a1, .int (nI nC), .ref a2, .ref a3, .ref a4, .ref a5, .ref a6, .ref a7, .ref a8, .ref a9, .int (nI nS), .ref a10, .int (nI nM), .ref a11], aI D a4 384 (shF tm (16 * (4 * i + j) + d) (16 * (4 * i + j) + n)), aI D a5 384 (shF wo (16 * (4 * i + j) + d) (16 * (4 * i + j) + n)), aI D a6 384 (shF ea (16 * (4 * i + j) + d) (16 * (4 * i + j) + n))]) [0, 3, 4, 5] rfl
                  have hD9 := (hD.sub (ws' := [oO mo 6 [.int 0, .ref a1, .int (nI nC), .ref a2, .ref a3, .ref a4, .ref a5, .ref a6, .ref a7, .ref a8, .ref a9, .int (nI nS), .ref a10, .int (nI nM), .ref a11], aI D a4 384 (shF tm (16 * (4 * i + j) + d) (16 * (4 * i + j) + n)), aI D a5 384 (shF wo (16 * (4 * i + j) + d) (16 * (4 * i + j) + n)), aI D a6 384 (shF ea (16 * (4 * i + j) + d) (16 * (4 * i + j) + n))]) [0, 3, 4, 5] (by decide) rfl).weaken (B := fun _ => True) (fun _ _ _ _ => trivial)
                  refine kv (wr := [aI D a2 6 ln, aI D a3 24 (upd ks (4 * i + j) (nI (n + 1)))]) (rV (rest := []) (qc := (RX6, TX6, 15)) [.int (nI ((16 * (4 * i + j)) + d)), .int u0, .int v0, .int e0] 4 0 0 hC (m_put l D (mo := mo) (k := (16 * (4 * i + j)) + d) (x := u0) (y := v0) (z := e0) (th := 0) (a1 := a1) (nC := nC) (a2 := a2) (a3 := a3) (a4 := a4) (a5 := a5) (a6 := a6) (a7 := a7) (a8 := a8) (a9 := a9) (nS := nS) (a10 := a10) (nM := nM) (a11 := a11) (tm := shF tm (16 * (4 * i + j) + d) (16 * (4 * i + j) + n)) (wo := shF wo (16 * (4 * i + j) + d) (16 * (4 * i + j) + n)) (ea := shF ea (16 * (4 * i + j) + d) (16 * (4 * i + j) + n)) (hz0 := H.size) (by omega)) rfl (hP 0 _ rfl) (gV mM_X6_81 mI_X6_put mS_X6_put mN_X6 mC_X6_put) (by decide +kernel) rfl rfl ⟨Nat.le_of_ble_eq_true rfl, Nat.le_of_ble_eq_true rfl⟩ hG hP9 hD9 rfl hl.1 rfl (Nat.le_of_ble_eq_true rfl) dX6_key_265 ⟨Nat.le_of_ble_eq_true rfl, Nat.le_of_ble_eq_true rfl⟩) hP hD hS hA [0, 3, 4, 5] [1, 2] rfl rfl (by decide) (by decide) (fun u265 H locs h265 hP hD hS hz hfr => ?_)
                  have hP : va_P D cls [aI D a2 6 ln, aI D a3 24 (upd ks (4 * i + j) (nI (n + 1))), oO mo 6 [.int 0, .ref a1, .int (nI nC), .ref a2, .ref a3, .ref a4, .ref a5, .ref a6, .ref a7, .ref a8, .ref a9, .int (nI nS), .ref a10, .int (nI nM), .ref a11], aI D a4 384 (upd (shF tm (16 * (4 * i + j) + d) (16 * (4 * i + j) + n)) ((16 * (4 * i + j)) + d) u0), aI D a5 384 (upd (shF wo (16 * (4 * i + j) + d) (16 * (4 * i + j) + n)) ((16 * (4 * i + j)) + d) v0), aI D a6 384 (upd (shF ea (16 * (4 * i + j) + d) (16 * (4 * i + j) + n)) ((16 * (4 * i + j)) + d) e0)] H := hP
                  have hD : va_D A [aI D a2 6 ln, aI D a3 24 (upd ks (4 * i + j) (nI (n + 1))), oO mo 6 [.int 0, .ref a1, .int (nI nC), .ref a2, .ref a3, .ref a4, .ref a5, .ref a6, .ref a7, .ref a8, .ref a9, .int (nI nS), .ref a10, .int (nI nM), .ref a11], aI D a4 384 (upd (shF tm (16 * (4 * i + j) + d) (16 * (4 * i + j) + n)) ((16 * (4 * i + j)) + d) u0), aI D a5 384 (upd (shF wo (16 * (4 * i + j) + d) (16 * (4 * i + j) + n)) ((16 * (4 * i + j)) + d) v0), aI D a6 384 (upd (shF ea (16 * (4 * i + j) + d) (16 * (4 * i + j) + n)) ((16 * (4 * i + j)) + d) e0)] := hD
                  refine lv_aload_n hx hb dX6_key_268 rfl (lv_at hl 0 rfl) ?_
                  refine va_get (D := D) (ci := 6) (v := .ref a3) (C := RX6) (T := TX6) (N := 15) hx hb hts inlX6 hown hG.K hP 2 rfl rfl 4 (by decide) (hts _ mF_X6_16) (fun _ h9 => h9) rfl dX6_key_269 ?_
                  refine lv_iload hx hb dX6_key_272 (lv_at hl 6 rfl) ?_
                  refine ild (n := 24) (j := 4 * i + j) hx hb hG hP 1 rfl (by omega) (by omega) dX6_key_274 ?_
                  refine tpi (y := nI (n + 1)) (if_pos rfl) ?_
                  refine Wi () hx hb hr hlk ?_ (hP.sub [2, 0, 1, 3, 4, 5] rfl) (hD.sub [2, 0, 1, 3, 4, 5] (by decide) rfl) hS (Nat.le_of_ble_eq_true rfl) (by first | exact Nat.le_of_ble_eq_true rfl | exact Nat.le_of_eq (Nat.zero_add _)) dX6_key_275
                  exact rfl
                · skip
                  have n198 := mt (nI_leI (a := k) (b := (16 * (4 * i + j)) + d) (by omega) (by omega)).mpr c198
                  refine lv_aload_n hx hb dX6_key_201 rfl (lv_at hl 0 rfl) ?_
                  refine lv_iload hx hb dX6_key_202 (lv_at hl 9 rfl) ?_
                  refine lv_aload_n hx hb dX6_key_204 rfl (lv_at hl 0 rfl) ?_
                  refine va_get (D := D) (ci := 6) (v := .ref a4) (C := RX6) (T := TX6) (N := 15) hx hb hts inlX6 hown hG.K hP 0 rfl rfl 5 (by decide) (hts _ mF_X6_19) (fun _ h9 => h9) rfl dX6_key_205 ?_
                  refine lv_iload hx hb dX6_key_208 (lv_at hl 9 rfl) ?_
                  refine lv_iconst (v := 1) hx hb dX6_key_210 (by decide) ?_
                  refine lv_isub hx hb dX6_key_211 ?_
                  refine tpi (y := nI (k - 1)) (pk_sub (a := k) (b := 1) (by omega)) ?_
                  refine ild (n := 384) (j := k - 1) hx hb hG hP 3 rfl (by omega) (by omega) dX6_key_212 ?_
                  refine lv_aload_n hx hb dX6_key_213 rfl (lv_at hl 0 rfl) ?_
                  refine va_get (D := D) (ci := 6) (v := .ref a5) (C := RX6) (T := TX6) (N := 15) hx hb hts inlX6 hown hG.K hP 0 rfl rfl 6 (by decide) (hts _ mF_X6_22) (fun _ h9 => h9) rfl dX6_key_214 ?_
                  refine lv_iload hx hb dX6_key_217 (lv_at hl 9 rfl) ?_
                  refine lv_iconst (v := 1) hx hb dX6_key_219 (by decide) ?_
                  refine lv_isub hx hb dX6_key_220 ?_
                  refine tpi (y := nI (k - 1)) (pk_sub (a := k) (b := 1) (by omega)) ?_
                  refine ild (n := 384) (j := k - 1) hx hb hG hP 4 rfl (by omega) (by omega) dX6_key_221 ?_
                  refine lv_aload_n hx hb dX6_key_222 rfl (lv_at hl 0 rfl) ?_
                  refine va_get (D := D) (ci := 6) (v := .ref a6) (C := RX6) (T := TX6) (N := 15) hx hb hts inlX6 hown hG.K hP 0 rfl rfl 7 (by decide) (hts _ mF_X6_25) (fun _ h9 => h9) rfl dX6_key_223 ?_
                  refine lv_iload hx hb dX6_key_226 (lv_at hl 9 rfl) ?_
                  refine lv_iconst (v := 1) hx hb dX6_key_228 (by decide) ?_
                  refine lv_isub hx hb dX6_key_229 ?_
                  refine tpi (y := nI (k - 1)) (pk_sub (a := k) (b := 1) (by omega)) ?_
                  refine ild (n := 384) (j := k - 1) hx hb hG hP 5 rfl (by omega) (by omega) dX6_key_230 ?_
                  have hP9 := hP.sub (ws' := [oO mo 6 [.int 0, .ref a1, .int (nI nC), .ref a2, .ref a3, .ref a4, .ref a5, .ref a6, .ref a7, .ref a8, .ref a9, .int (nI nS), .ref a10, .int (nI nM), .ref a11], aI D a4 384 (shF tm k (16 * (4 * i + j) + n)), aI D a5 384 (shF wo k (16 * (4 * i + j) + n)), aI D a6 384 (shF ea k (16 * (4 * i + j) + n))]) [0, 3, 4, 5] rfl
                  have hD9 := (hD.sub (ws' := [oO mo 6 [.int 0, .ref a1, .int (nI nC), .ref a2, .ref a3, .ref a4, .ref a5, .ref a6, .ref a7, .ref a8, .ref a9, .int (nI nS), .ref a10, .int (nI nM), .ref a11], aI D a4 384 (shF tm k (16 * (4 * i + j) + n)), aI D a5 384 (shF wo k (16 * (4 * i + j) + n)), aI D a6 384 (shF ea k (16 * (4 * i + j) + n))]) [0, 3, 4, 5] (by decide) rfl).weaken (B := fun _ => True) (fun _ _ _ _ => trivial)
                  refine kv (wr := [aI D a2 6 ln, aI D a3 24 ks]) (rV (rest := []) (qc := (RX6, TX6, 15)) [.int (nI k), .int ((shF tm k (16 * (4 * i + j) + n)) (k - 1)), .int ((shF wo k (16 * (4 * i + j) + n)) (k - 1)), .int ((shF ea k (16 * (4 * i + j) + n)) (k - 1))] 4 0 0 hC (m_put l D (mo := mo) (k := k) (x := (shF tm k (16 * (4 * i + j) + n)) (k - 1)) (y := (shF wo k (16 * (4 * i + j) + n)) (k - 1)) (z := (shF ea k (16 * (4 * i + j) + n)) (k - 1)) (th := 0) (a1 := a1) (nC := nC) (a2 := a2) (a3 := a3) (a4 := a4) (a5 := a5) (a6 := a6) (a7 := a7) (a8 := a8) (a9 := a9) (nS := nS) (a10 := a10) (nM := nM) (a11 := a11) (tm := shF tm k (16 * (4 * i + j) + n)) (wo := shF wo k (16 * (4 * i + j) + n)) (ea := shF ea k (16 * (4 * i + j) + n)) (hz0 := H.size) (by omega)) rfl (hP 0 _ rfl) (gV mM_X6_81 mI_X6_put mS_X6_put mN_X6 mC_X6_put) (by decide +kernel) rfl rfl ⟨Nat.le_of_ble_eq_true rfl, Nat.le_of_ble_eq_true rfl⟩ hG hP9 hD9 rfl hl.1 rfl (Nat.le_of_ble_eq_true rfl) dX6_key_231 ⟨Nat.le_of_ble_eq_true rfl, Nat.le_of_ble_eq_true rfl⟩) hP hD hS hA [0, 3, 4, 5] [1, 2] rfl rfl (by decide) (by decide) (fun u231 H locs h231 hP hD hS hz hfr => ?_)
                  have hP : va_P D cls [aI D a2 6 ln, aI D a3 24 ks, oO mo 6 [.int 0, .ref a1, .int (nI nC), .ref a2, .ref a3, .ref a4, .ref a5, .ref a6, .ref a7, .ref a8, .ref a9, .int (nI nS), .ref a10, .int (nI nM), .ref a11], aI D a4 384 (upd (shF tm k (16 * (4 * i + j) + n)) k ((shF tm k (16 * (4 * i + j) + n)) (k - 1))), aI D a5 384 (upd (shF wo k (16 * (4 * i + j) + n)) k ((shF wo k (16 * (4 * i + j) + n)) (k - 1))), aI D a6 384 (upd (shF ea k (16 * (4 * i + j) + n)) k ((shF ea k (16 * (4 * i + j) + n)) (k - 1)))] H := hP
                  have hD : va_D A [aI D a2 6 ln, aI D a3 24 ks, oO mo 6 [.int 0, .ref a1, .int (nI nC), .ref a2, .ref a3, .ref a4, .ref a5, .ref a6, .ref a7, .ref a8, .ref a9, .int (nI nS), .ref a10, .int (nI nM), .ref a11], aI D a4 384 (upd (shF tm k (16 * (4 * i + j) + n)) k ((shF tm k (16 * (4 * i + j) + n)) (k - 1))), aI D a5 384 (upd (shF wo k (16 * (4 * i + j) + n)) k ((shF wo k (16 * (4 * i + j) + n)) (k - 1))), aI D a6 384 (upd (shF ea k (16 * (4 * i + j) + n)) k ((shF ea k (16 * (4 * i + j) + n)) (k - 1)))] := hD
                  have hcv19 : (shF tm (k - 1) (16 * (4 * i + j) + n)) = (upd (shF tm k (16 * (4 * i + j) + n)) k ((shF tm k (16 * (4 * i + j) + n)) (k - 1))) := (shF_step (f := tm) (k := k) (sz := 16 * (4 * i + j) + n) (by omega) (by omega)).symm
                  have hP := Eq.mpr (congrArg (fun z9 => va_P D cls [aI D a2 6 ln, aI D a3 24 ks, oO mo 6 [.int 0, .ref a1, .int (nI nC), .ref a2, .ref a3, .ref a4, .ref a5, .ref a6, .ref a7, .ref a8, .ref a9, .int (nI nS), .ref a10, .int (nI nM), .ref a11], aI D a4 384 z9, aI D a5 384 (upd (shF wo k (16 * (4 * i + j) + n)) k ((shF wo k (16 * (4 * i + j) + n)) (k - 1))), aI D a6 384 (upd (shF ea k (16 * (4 * i + j) + n)) k ((shF ea k (16 * (4 * i + j) + n)) (k - 1)))] H) hcv19) hP
                  have hD := Eq.mpr (congrArg (fun z9 => va_D A [aI D a2 6 ln, aI D a3 24 ks, oO mo 6 [.int 0, .ref a1, .int (nI nC), .ref a2, .ref a3, .ref a4, .ref a5, .ref a6, .ref a7, .ref a8, .ref a9, .int (nI nS), .ref a10, .int (nI nM), .ref a11], aI D a4 384 z9, aI D a5 384 (upd (shF wo k (16 * (4 * i + j) + n)) k ((shF wo k (16 * (4 * i + j) + n)) (k - 1))), aI D a6 384 (upd (shF ea k (16 * (4 * i + j) + n)) k ((shF ea k (16 * (4 * i + j) + n)) (k - 1)))]) hcv19) hD
                  have hP : va_P D cls [aI D a2 6 ln, aI D a3 24 ks, oO mo 6 [.int 0, .ref a1, .int (nI nC), .ref a2, .ref a3, .ref a4, .ref a5, .ref a6, .ref a7, .ref a8, .ref a9, .int (nI nS), .ref a10, .int (nI nM), .ref a11], aI D a4 384 (shF tm (k - 1) (16 * (4 * i + j) + n)), aI D a5 384 (upd (shF wo k (16 * (4 * i + j) + n)) k ((shF wo k (16 * (4 * i + j) + n)) (k - 1))), aI D a6 384 (upd (shF ea k (16 * (4 * i + j) + n)) k ((shF ea k (16 * (4 * i + j) + n)) (k - 1)))] H := hP
                  have hD : va_D A [aI D a2 6 ln, aI D a3 24 ks, oO mo 6 [.int 0, .ref a1, .int (nI nC), .ref a2, .ref a3, .ref a4, .ref a5, .ref a6, .ref a7, .ref a8, .ref a9, .int (nI nS), .ref a10, .int (nI nM), .ref a11], aI D a4 384 (shF tm (k - 1) (16 * (4 * i + j) + n)), aI D a5 384 (upd (shF wo k (16 * (4 * i + j) + n)) k ((shF wo k (16 * (4 * i + j) + n)) (k - 1))), aI D a6 384 (upd (shF ea k (16 * (4 * i + j) + n)) k ((shF ea k (16 * (4 * i + j) + n)) (k - 1)))] := hD
                  have hcv20 : (shF wo (k - 1) (16 * (4 * i + j) + n)) = (upd (shF wo k (16 * (4 * i + j) + n)) k ((shF wo k (16 * (4 * i + j) + n)) (k - 1))) := (shF_step (f := wo) (k := k) (sz := 16 * (4 * i + j) + n) (by omega) (by omega)).symm
                  have hP := Eq.mpr (congrArg (fun z9 => va_P D cls [aI D a2 6 ln, aI D a3 24 ks, oO mo 6 [.int 0, .ref a1, .int (nI nC), .ref a2, .ref a3, .ref a4, .ref a5, .ref a6, .ref a7, .ref a8, .ref a9, .int (nI nS), .ref a10, .int (nI nM), .ref a11], aI D a4 384 (shF tm (k - 1) (16 * (4 * i + j) + n)), aI D a5 384 z9, aI D a6 384 (upd (shF ea k (16 * (4 * i + j) + n)) k ((shF ea k (16 * (4 * i + j) + n)) (k - 1)))] H) hcv20) hP
                  have hD := Eq.mpr (congrArg (fun z9 => va_D A [aI D a2 6 ln, aI D a3 24 ks, oO mo 6 [.int 0, .ref a1, .int (nI nC), .ref a2, .ref a3, .ref a4, .ref a5, .ref a6, .ref a7, .ref a8, .ref a9, .int (nI nS), .ref a10, .int (nI nM), .ref a11], aI D a4 384 (shF tm (k - 1) (16 * (4 * i + j) + n)), aI D a5 384 z9, aI D a6 384 (upd (shF ea k (16 * (4 * i + j) + n)) k ((shF ea k (16 * (4 * i + j) + n)) (k - 1)))]) hcv20) hD
                  have hP : va_P D cls [aI D a2 6 ln, aI D a3 24 ks, oO mo 6 [.int 0, .ref a1, .int (nI nC), .ref a2, .ref a3, .ref a4, .ref a5, .ref a6, .ref a7, .ref a8, .ref a9, .int (nI nS), .ref a10, .int (nI nM), .ref a11], aI D a4 384 (shF tm (k - 1) (16 * (4 * i + j) + n)), aI D a5 384 (shF wo (k - 1) (16 * (4 * i + j) + n)), aI D a6 384 (upd (shF ea k (16 * (4 * i + j) + n)) k ((shF ea k (16 * (4 * i + j) + n)) (k - 1)))] H := hP
                  have hD : va_D A [aI D a2 6 ln, aI D a3 24 ks, oO mo 6 [.int 0, .ref a1, .int (nI nC), .ref a2, .ref a3, .ref a4, .ref a5, .ref a6, .ref a7, .ref a8, .ref a9, .int (nI nS), .ref a10, .int (nI nM), .ref a11], aI D a4 384 (shF tm (k - 1) (16 * (4 * i + j) + n)), aI D a5 384 (shF wo (k - 1) (16 * (4 * i + j) + n)), aI D a6 384 (upd (shF ea k (16 * (4 * i + j) + n)) k ((shF ea k (16 * (4 * i + j) + n)) (k - 1)))] := hD
                  have hcv21 : (shF ea (k - 1) (16 * (4 * i + j) + n)) = (upd (shF ea k (16 * (4 * i + j) + n)) k ((shF ea k (16 * (4 * i + j) + n)) (k - 1))) := (shF_step (f := ea) (k := k) (sz := 16 * (4 * i + j) + n) (by omega) (by omega)).symm
                  have hP := Eq.mpr (congrArg (fun z9 => va_P D cls [aI D a2 6 ln, aI D a3 24 ks, oO mo 6 [.int 0, .ref a1, .int (nI nC), .ref a2, .ref a3, .ref a4, .ref a5, .ref a6, .ref a7, .ref a8, .ref a9, .int (nI nS), .ref a10, .int (nI nM), .ref a11], aI D a4 384 (shF tm (k - 1) (16 * (4 * i + j) + n)), aI D a5 384 (shF wo (k - 1) (16 * (4 * i + j) + n)), aI D a6 384 z9] H) hcv21) hP
                  have hD := Eq.mpr (congrArg (fun z9 => va_D A [aI D a2 6 ln, aI D a3 24 ks, oO mo 6 [.int 0, .ref a1, .int (nI nC), .ref a2, .ref a3, .ref a4, .ref a5, .ref a6, .ref a7, .ref a8, .ref a9, .int (nI nS), .ref a10, .int (nI nM), .ref a11], aI D a4 384 (shF tm (k - 1) (16 * (4 * i + j) + n)), aI D a5 384 (shF wo (k - 1) (16 * (4 * i + j) + n)), aI D a6 384 z9]) hcv21) hD
                  have hP : va_P D cls [aI D a2 6 ln, aI D a3 24 ks, oO mo 6 [.int 0, .ref a1, .int (nI nC), .ref a2, .ref a3, .ref a4, .ref a5, .ref a6, .ref a7, .ref a8, .ref a9, .int (nI nS), .ref a10, .int (nI nM), .ref a11], aI D a4 384 (shF tm (k - 1) (16 * (4 * i + j) + n)), aI D a5 384 (shF wo (k - 1) (16 * (4 * i + j) + n)), aI D a6 384 (shF ea (k - 1) (16 * (4 * i + j) + n))] H := hP
                  have hD : va_D A [aI D a2 6 ln, aI D a3 24 ks, oO mo 6 [.int 0, .ref a1, .int (nI nC), .ref a2, .ref a3, .ref a4, .ref a5, .ref a6, .ref a7, .ref a8, .ref a9, .int (nI nS), .ref a10, .int (nI nM), .ref a11], aI D a4 384 (shF tm (k - 1) (16 * (4 * i + j) + n)), aI D a5 384 (shF wo (k - 1) (16 * (4 * i + j) + n)), aI D a6 384 (shF ea (k - 1) (16 * (4 * i + j) + n))] := hD
                  refine lv_iinc (v := nI (k - 1)) (lv' := [(9, .int (nI (k - 1))), (0, .ref mo), (1, .int (nI i)), (2, .int (nI j)), (3, .int u0), (4, .int v0), (5, .int e0), (6, .int (nI (4 * i + j))), (7, .int (nI d)), (8, .int 0)]) hx hb dX6_key_234 hl (k := 9) rfl (sb_m1 (by omega)) (by decide) rfl (fun ls hl => ?_)
                  refine lv_goto (tgt := 188) hx hb dX6_key_237 (by decide) ?_
                  exact ih188 (k - 1) (by omega) (by omega) (by omega) _ _ _ (hP.sub [2, 0, 1, 3, 4, 5] rfl) (hD.sub [2, 0, 1, 3, 4, 5] (by decide) rfl) hS (lv_sub hl [1, 2, 3, 4, 5, 6, 7, 8, 9, 0] rfl)
            have hcv22 : (shF tm (16 * (4 * i + j) + n) (16 * (4 * i + j) + n)) = tm := shF_self _ _
            have hP := Eq.mpr (congrArg (fun z9 => va_P D cls [oO mo 6 [.int 0, .ref a1, .int (nI nC), .ref a2, .ref a3, .ref a4, .ref a5, .ref a6, .ref a7, .ref a8, .ref a9, .int (nI nS), .ref a10, .int (nI nM), .ref a11], aI D a2 6 ln, aI D a3 24 ks, aI D a4 384 z9, aI D a5 384 wo, aI D a6 384 ea] H) hcv22) hP
            have hD := Eq.mpr (congrArg (fun z9 => va_D A [oO mo 6 [.int 0, .ref a1, .int (nI nC), .ref a2, .ref a3, .ref a4, .ref a5, .ref a6, .ref a7, .ref a8, .ref a9, .int (nI nS), .ref a10, .int (nI nM), .ref a11], aI D a2 6 ln, aI D a3 24 ks, aI D a4 384 z9, aI D a5 384 wo, aI D a6 384 ea]) hcv22) hD
            have hP : va_P D cls [oO mo 6 [.int 0, .ref a1, .int (nI nC), .ref a2, .ref a3, .ref a4, .ref a5, .ref a6, .ref a7, .ref a8, .ref a9, .int (nI nS), .ref a10, .int (nI nM), .ref a11], aI D a2 6 ln, aI D a3 24 ks, aI D a4 384 (shF tm (16 * (4 * i + j) + n) (16 * (4 * i + j) + n)), aI D a5 384 wo, aI D a6 384 ea] H := hP
            have hD : va_D A [oO mo 6 [.int 0, .ref a1, .int (nI nC), .ref a2, .ref a3, .ref a4, .ref a5, .ref a6, .ref a7, .ref a8, .ref a9, .int (nI nS), .ref a10, .int (nI nM), .ref a11], aI D a2 6 ln, aI D a3 24 ks, aI D a4 384 (shF tm (16 * (4 * i + j) + n) (16 * (4 * i + j) + n)), aI D a5 384 wo, aI D a6 384 ea] := hD
            have hcv23 : (shF wo (16 * (4 * i + j) + n) (16 * (4 * i + j) + n)) = wo := shF_self _ _
            have hP := Eq.mpr (congrArg (fun z9 => va_P D cls [oO mo 6 [.int 0, .ref a1, .int (nI nC), .ref a2, .ref a3, .ref a4, .ref a5, .ref a6, .ref a7, .ref a8, .ref a9, .int (nI nS), .ref a10, .int (nI nM), .ref a11], aI D a2 6 ln, aI D a3 24 ks, aI D a4 384 (shF tm (16 * (4 * i + j) + n) (16 * (4 * i + j) + n)), aI D a5 384 z9, aI D a6 384 ea] H) hcv23) hP
            have hD := Eq.mpr (congrArg (fun z9 => va_D A [oO mo 6 [.int 0, .ref a1, .int (nI nC), .ref a2, .ref a3, .ref a4, .ref a5, .ref a6, .ref a7, .ref a8, .ref a9, .int (nI nS), .ref a10, .int (nI nM), .ref a11], aI D a2 6 ln, aI D a3 24 ks, aI D a4 384 (shF tm (16 * (4 * i + j) + n) (16 * (4 * i + j) + n)), aI D a5 384 z9, aI D a6 384 ea]) hcv23) hD
            have hP : va_P D cls [oO mo 6 [.int 0, .ref a1, .int (nI nC), .ref a2, .ref a3, .ref a4, .ref a5, .ref a6, .ref a7, .ref a8, .ref a9, .int (nI nS), .ref a10, .int (nI nM), .ref a11], aI D a2 6 ln, aI D a3 24 ks, aI D a4 384 (shF tm (16 * (4 * i + j) + n) (16 * (4 * i + j) + n)), aI D a5 384 (shF wo (16 * (4 * i + j) + n) (16 * (4 * i + j) + n)), aI D a6 384 ea] H := hP
            have hD : va_D A [oO mo 6 [.int 0, .ref a1, .int (nI nC), .ref a2, .ref a3, .ref a4, .ref a5, .ref a6, .ref a7, .ref a8, .ref a9, .int (nI nS), .ref a10, .int (nI nM), .ref a11], aI D a2 6 ln, aI D a3 24 ks, aI D a4 384 (shF tm (16 * (4 * i + j) + n) (16 * (4 * i + j) + n)), aI D a5 384 (shF wo (16 * (4 * i + j) + n) (16 * (4 * i + j) + n)), aI D a6 384 ea] := hD
            have hcv24 : (shF ea (16 * (4 * i + j) + n) (16 * (4 * i + j) + n)) = ea := shF_self _ _
            have hP := Eq.mpr (congrArg (fun z9 => va_P D cls [oO mo 6 [.int 0, .ref a1, .int (nI nC), .ref a2, .ref a3, .ref a4, .ref a5, .ref a6, .ref a7, .ref a8, .ref a9, .int (nI nS), .ref a10, .int (nI nM), .ref a11], aI D a2 6 ln, aI D a3 24 ks, aI D a4 384 (shF tm (16 * (4 * i + j) + n) (16 * (4 * i + j) + n)), aI D a5 384 (shF wo (16 * (4 * i + j) + n) (16 * (4 * i + j) + n)), aI D a6 384 z9] H) hcv24) hP
            have hD := Eq.mpr (congrArg (fun z9 => va_D A [oO mo 6 [.int 0, .ref a1, .int (nI nC), .ref a2, .ref a3, .ref a4, .ref a5, .ref a6, .ref a7, .ref a8, .ref a9, .int (nI nS), .ref a10, .int (nI nM), .ref a11], aI D a2 6 ln, aI D a3 24 ks, aI D a4 384 (shF tm (16 * (4 * i + j) + n) (16 * (4 * i + j) + n)), aI D a5 384 (shF wo (16 * (4 * i + j) + n) (16 * (4 * i + j) + n)), aI D a6 384 z9]) hcv24) hD
            have hP : va_P D cls [oO mo 6 [.int 0, .ref a1, .int (nI nC), .ref a2, .ref a3, .ref a4, .ref a5, .ref a6, .ref a7, .ref a8, .ref a9, .int (nI nS), .ref a10, .int (nI nM), .ref a11], aI D a2 6 ln, aI D a3 24 ks, aI D a4 384 (shF tm (16 * (4 * i + j) + n) (16 * (4 * i + j) + n)), aI D a5 384 (shF wo (16 * (4 * i + j) + n) (16 * (4 * i + j) + n)), aI D a6 384 (shF ea (16 * (4 * i + j) + n) (16 * (4 * i + j) + n))] H := hP
            have hD : va_D A [oO mo 6 [.int 0, .ref a1, .int (nI nC), .ref a2, .ref a3, .ref a4, .ref a5, .ref a6, .ref a7, .ref a8, .ref a9, .int (nI nS), .ref a10, .int (nI nM), .ref a11], aI D a2 6 ln, aI D a3 24 ks, aI D a4 384 (shF tm (16 * (4 * i + j) + n) (16 * (4 * i + j) + n)), aI D a5 384 (shF wo (16 * (4 * i + j) + n) (16 * (4 * i + j) + n)), aI D a6 384 (shF ea (16 * (4 * i + j) + n) (16 * (4 * i + j) + n))] := hD
            exact loop188 _ (16 * (4 * i + j) + n) (Nat.lt_succ_self _) (by omega) (by omega) _ _ _ hP hD hS (lv_sub hl [2, 3, 4, 5, 6, 7, 8, 9, 1, 0] rfl)
        · skip
          refine lv_iinc (v := nI (k + 1)) (lv' := [(7, .int (nI (k + 1))), (0, .ref mo), (1, .int (nI i)), (2, .int (nI j)), (3, .int u0), (4, .int v0), (5, .int e0), (6, .int (nI (4 * i + j)))]) hx hb dX6_key_103 hl (k := 7) rfl (nI_1 _) (by decide) rfl (fun ls hl => ?_)
          refine lv_goto (tgt := 74) hx hb dX6_key_106 (by decide) ?_
          exact ih74 (k + 1) (by omega) (Nat.lt_of_le_of_ne hk (fun h9 => by
                      subst h9
                      exact hge n83x (Int32.not_le.mp c100))) _ (lv_sub hl [1, 2, 3, 4, 5, 6, 7, 0] rfl)
  exact loop74 _ 0 (Nat.lt_succ_self _) (by omega) _ (lv_sub hl [2, 3, 4, 5, 6, 7, 1, 0] rfl)
