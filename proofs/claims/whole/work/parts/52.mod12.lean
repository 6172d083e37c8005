set_option maxHeartbeats 400000 in
set_option maxRecDepth 100000 in
theorem m_mirror_1 (l : Launch) (D : va_G) {mo a1 a2 a3 a4 a5 a6 a7 a8 a9 a10 a11 nC nS nM : Nat} {th : Int32} {x : Int32} (hz0 : Nat) (hn : nC ≤ 6) (hxx : x < 0 ∨ nI nC ≤ x) : Met l yX6_mirror (ws_ yX6_mirror cX6_mirror 5 (some .int)) ({ frames := 2, cells := 0, slots := 0, locals := 51 } : Room) (va_Pc [.ref mo, .int x] (SW D [oO mo 6 [.int th, .ref a1, .int (nI nC), .ref a2, .ref a3, .ref a4, .ref a5, .ref a6, .ref a7, .ref a8, .ref a9, .int (nI nS), .ref a10, .int (nI nM), .ref a11]] hz0)) (va_Qi (fun v _ => v = 0) (AT D (va_A [oO mo 6 [.int th, .ref a1, .int (nI nC), .ref a2, .ref a3, .ref a4, .ref a5, .ref a6, .ref a7, .ref a8, .ref a9, .int (nI nS), .ref a10, .int (nI nM), .ref a11]] hz0) (fun _ : Unit => [oO mo 6 [.int 1, .ref a1, .int (nI nC), .ref a2, .ref a3, .ref a4, .ref a5, .ref a6, .ref a7, .ref a8, .ref a9, .int (nI nS), .ref a10, .int (nI nM), .ref a11]])) (va_A [oO mo 6 [.int th, .ref a1, .int (nI nC), .ref a2, .ref a3, .ref a4, .ref a5, .ref a6, .ref a7, .ref a8, .ref a9, .int (nI nS), .ref a10, .int (nI nM), .ref a11]] hz0)) 0 0 (va_A [oO mo 6 [.int th, .ref a1, .int (nI nC), .ref a2, .ref a3, .ref a4, .ref a5, .ref a6, .ref a7, .ref a8, .ref a9, .int (nI nS), .ref a10, .int (nI nM), .ref a11]] hz0) := by
  refine Met.ofW (cc := cX6_mirror) (maxL := 5) (ret := (some .int)) (by decide) rfl ?_
  intro p e s m args below meth c s₁ B hml hv
  obtain ⟨rfl, hsz, hG, hP, hD0⟩ := hv
  have hx := B.exec
  have hb := B.bytes
  have hr := B.returns
  have hts : ∀ w ∈ wsL_law, w.before _ s = true := fun w h => atoms_spec (ws := (ws_ yX6_mirror cX6_mirror 5 (some .int))) B.pre w (List.mem_cons_of_mem _ h)
  have hown : s.vm.findClass RX6 = some m.cls := findClass_of_methodNamed B.named
  have hlk := B.notSynchronized
  have hC : CallFix p m c cX6_mirror 5 s _ wsL_law RX6 := ⟨hx, hb, hml, hown, hts⟩
  subst hsz
  have hD := hD0.self (sz := s.heap.size)
  generalize hAe : va_A [oO mo 6 [.int th, .ref a1, .int (nI nC), .ref a2, .ref a3, .ref a4, .ref a5, .ref a6, .ref a7, .ref a8, .ref a9, .int (nI nS), .ref a10, .int (nI nM), .ref a11]] s.heap.size = A at hD ⊢
  have hA : ∀ q : Nat, s.heap.size ≤ q → A q := fun q h => by rw [← hAe]; exact Or.inr h
  have hS : va_S A s.heap s.heap [] := va_S.rf
  obtain ⟨H, hHe⟩ : ∃ H, H = s.heap := ⟨_, rfl⟩
  rw [← hHe] at hP
  have hS : va_S A s.heap H [] := by rw [hHe]; exact hS
  have hl := lv_entry ([.ref mo, .int x]) (n := 5) (Nat.le_of_ble_eq_true rfl)
  rw [lg_entry_eq]
  generalize (lg_sl ([.ref mo, .int x]) ++ List.replicate (5 - (lg_sl ([.ref mo, .int x])).length) Slot.unset).toArray = ls at hl ⊢
  have hl : lv_has ls 5 [(0, .ref mo), (1, .int x)] := hl
  rw [← hHe]
  refine lv_aload_n hx hb dX6_mirror_0 rfl (lv_at hl 0 rfl) ?_
  refine lv_iconst (v := 0) hx hb dX6_mirror_1 (by decide) ?_
  refine va_put (D := D) (ci := 6) (v := .int 0) (ty := .int) (C := RX6) (T := TX6) (N := 15) hx hb hts inlX6 tyX6 tyX6_ok nmX6 hown hG.K hP hD hS 0 rfl rfl 0 (by decide) (hts _ mF_X6_43) (fun _ h9 => h9) rfl (by decide +kernel) rfl rfl (Nat.le_of_ble_eq_true rfl) dX6_mirror_2 (fun H locs hP hD hS => ?_)
  have hP : va_P D cls [oO mo 6 [.int 0, .ref a1, .int (nI nC), .ref a2, .ref a3, .ref a4, .ref a5, .ref a6, .ref a7, .ref a8, .ref a9, .int (nI nS), .ref a10, .int (nI nM), .ref a11]] H := hP
  have hD : va_D A [oO mo 6 [.int 0, .ref a1, .int (nI nC), .ref a2, .ref a3, .ref a4, .ref a5, .ref a6, .ref a7, .ref a8, .ref a9, .int (nI nS), .ref a10, .int (nI nM), .ref a11]] := hD
  refine lv_aload_n hx hb dX6_mirror_5 rfl (lv_at hl 0 rfl) ?_
  refine lv_iload_n hx hb dX6_mirror_6 rfl (lv_at hl 1 rfl) ?_
  have hP9 := hP
  refine vp_callSi (pV (rest := []) (qc := (RX6, TX6, 15)) [.int x] 1 hC (m_isClip_no l D (mo := mo) (x := x) (th := 0) (a1 := a1) (nC := nC) (a2 := a2) (a3 := a3) (a4 := a4) (a5 := a5) (a6 := a6) (a7 := a7) (a8 := a8) (a9 := a9) (nS := nS) (a10 := a10) (nM := nM) (a11 := a11) (by omega) (hxx)) rfl (hP 0 _ rfl) (gV mM_X6_54 mI_X6_isClip mS_X6_isClip mN_X6 mC_X6_isClip) (by decide +kernel) rfl rfl ⟨Nat.le_of_ble_eq_true rfl, Nat.le_of_ble_eq_true rfl⟩ hG hP9 rfl hl.1 rfl (Nat.le_of_ble_eq_true rfl) dX6_mirror_7 ⟨Nat.le_of_ble_eq_true rfl, Nat.le_of_ble_eq_true rfl⟩) (fun r7 h7 => ?_)
  obtain rfl : r7 = 0 := h7
  refine lv_if_ne (tgt := 19) hx hb dX6_mirror_10 (by decide) (fun h9 => (h9 (by decide)).elim) (fun _ => ?_)
  refine lv_aload_n hx hb dX6_mirror_13 rfl (lv_at hl 0 rfl) ?_
  refine lv_iconst (v := 1) hx hb dX6_mirror_14 (by decide) ?_
  have hP9 := hP.sub (ws' := [oO mo 6 [.int 0, .ref a1, .int (nI nC), .ref a2, .ref a3, .ref a4, .ref a5, .ref a6, .ref a7, .ref a8, .ref a9, .int (nI nS), .ref a10, .int (nI nM), .ref a11]]) [0] rfl
  have hD9 := (hD.sub (ws' := [oO mo 6 [.int 0, .ref a1, .int (nI nC), .ref a2, .ref a3, .ref a4, .ref a5, .ref a6, .ref a7, .ref a8, .ref a9, .int (nI nS), .ref a10, .int (nI nM), .ref a11]]) [0] (by decide) rfl).weaken (B := fun _ => True) (fun _ _ _ _ => trivial)
  refine ki (wr := []) (rV (rest := []) (qc := (RX6, TX6, 15)) [.int 1] 1 0 0 hC (m_no l D (mo := mo) (x := 1) (th := 0) (a1 := a1) (nC := nC) (a2 := a2) (a3 := a3) (a4 := a4) (a5 := a5) (a6 := a6) (a7 := a7) (a8 := a8) (a9 := a9) (nS := nS) (a10 := a10) (nM := nM) (a11 := a11) (hz0 := H.size) ) rfl (hP 0 _ rfl) (gV mM_X6_66 mI_X6_no mS_X6_no mN_X6 mC_X6_no) (by decide +kernel) rfl rfl ⟨Nat.le_of_ble_eq_true rfl, Nat.le_of_ble_eq_true rfl⟩ hG hP9 hD9 rfl hl.1 rfl (Nat.le_of_ble_eq_true rfl) dX6_mirror_15 ⟨Nat.le_of_ble_eq_true rfl, Nat.le_of_ble_eq_true rfl⟩) hP hD hS hA [0] [] rfl rfl (by decide) (by decide) (fun r15 u15 H locs h15 hP hD hS hz hfr => ?_)
  have hP : va_P D cls [oO mo 6 [.int 1, .ref a1, .int (nI nC), .ref a2, .ref a3, .ref a4, .ref a5, .ref a6, .ref a7, .ref a8, .ref a9, .int (nI nS), .ref a10, .int (nI nM), .ref a11]] H := hP
  have hD : va_D A [oO mo 6 [.int 1, .ref a1, .int (nI nC), .ref a2, .ref a3, .ref a4, .ref a5, .ref a6, .ref a7, .ref a8, .ref a9, .int (nI nS), .ref a10, .int (nI nM), .ref a11]] := hD
  obtain rfl : r15 = 0 := h15
  refine Wi () hx hb hr hlk ?_ hP hD hS (Nat.le_of_ble_eq_true rfl) (by first | exact Nat.le_of_ble_eq_true rfl | exact Nat.le_of_eq (Nat.zero_add _)) dX6_mirror_18
  exact rfl
theorem mrF_step {f g : Nat → Int32} {b k : Nat} : upd (rwF f b k g) (b + k) (g k) = rwF f b (k + 1) g := rwF_step
set_option maxHeartbeats 400000 in
set_option maxRecDepth 100000 in
theorem m_mirror (l : Launch) (D : va_G) {mo a1 a2 a3 a4 a5 a6 a7 a8 a9 a10 a11 nC nS nM : Nat} {th : Int32} {ln ks tm wo ea qs qt qn : Nat → Int32} {i d : Nat} {n : Nat → Nat} (hz0 : Nat) (hn : nC ≤ 6) (hi : i < nC) (hks : ∀ t, t < 4 → ks (4 * i + t) = nI (n t)) (h16 : ∀ t, t < 4 → n t ≤ 16) (hqs : qs i = nI d) (h8 : d ≤ 8) : Met l yX6_mirror (ws_ yX6_mirror cX6_mirror 5 (some .int)) ({ frames := 2, cells := 5, slots := 208, locals := 51 } : Room) (va_Pc [.ref mo, .int (nI i)] (SW D [oO mo 6 [.int th, .ref a1, .int (nI nC), .ref a2, .ref a3, .ref a4, .ref a5, .ref a6, .ref a7, .ref a8, .ref a9, .int (nI nS), .ref a10, .int (nI nM), .ref a11], aI D a2 6 ln, aI D a3 24 ks, aI D a4 384 tm, aI D a5 384 wo, aI D a6 384 ea, aI D a7 6 qs, aI D a8 48 qt, aI D a9 48 qn] hz0)) (va_Qi (fun v _ => v = ln i) (AT D (va_A [oO mo 6 [.int th, .ref a1, .int (nI nC), .ref a2, .ref a3, .ref a4, .ref a5, .ref a6, .ref a7, .ref a8, .ref a9, .int (nI nS), .ref a10, .int (nI nM), .ref a11], aI D a2 6 ln, aI D a3 24 ks, aI D a4 384 tm, aI D a5 384 wo, aI D a6 384 ea, aI D a7 6 qs, aI D a8 48 qt, aI D a9 48 qn] hz0) (fun _ : Unit => [oO mo 6 [.int 0, .ref a1, .int (nI nC), .ref a2, .ref a3, .ref a4, .ref a5, .ref a6, .ref a7, .ref a8, .ref a9, .int (nI nS), .ref a10, .int (nI nM), .ref a11], aI D a2 6 ln, aI D a3 24 ks, aI D a4 384 (mirT (mirT (mirT (mirT tm (ln i) (4 * i + 0) (n 0)) (ln i) (4 * i + 1) (n 1)) (ln i) (4 * i + 2) (n 2)) (ln i) (4 * i + 3) (n 3)), aI D a5 384 (mirW (mirW (mirW (mirW wo (4 * i + 0) (n 0)) (4 * i + 1) (n 1)) (4 * i + 2) (n 2)) (4 * i + 3) (n 3)), aI D a6 384 (mirA (mirA (mirA (mirA ea (4 * i + 0) (n 0)) (4 * i + 1) (n 1)) (4 * i + 2) (n 2)) (4 * i + 3) (n 3)), aI D a7 6 qs, aI D a8 48 (rwF qt (8 * i) d (fun z => ln i - qt (8 * i + d - 1 - z))), aI D a9 48 (rwF qn (8 * i) d (fun z => qn (8 * i + d - 1 - z)))])) (va_A [oO mo 6 [.int th, .ref a1, .int (nI nC), .ref a2, .ref a3, .ref a4, .ref a5, .ref a6, .ref a7, .ref a8, .ref a9, .int (nI nS), .ref a10, .int (nI nM), .ref a11], aI D a2 6 ln, aI D a3 24 ks, aI D a4 384 tm, aI D a5 384 wo, aI D a6 384 ea, aI D a7 6 qs, aI D a8 48 qt, aI D a9 48 qn] hz0)) 5 208 (va_A [oO mo 6 [.int th, .ref a1, .int (nI nC), .ref a2, .ref a3, .ref a4, .ref a5, .ref a6, .ref a7, .ref a8, .ref a9, .int (nI nS), .ref a10, .int (nI nM), .ref a11], aI D a2 6 ln, aI D a3 24 ks, aI D a4 384 tm, aI D a5 384 wo, aI D a6 384 ea, aI D a7 6 qs, aI D a8 48 qt, aI D a9 48 qn] hz0) := by
  refine Met.ofW (cc := cX6_mirror) (maxL := 5) (ret := (some .int)) (by decide) rfl ?_
  intro p e s m args below meth c s₁ B hml hv
  obtain ⟨rfl, hsz, hG, hP, hD0⟩ := hv
  have hx := B.exec
  have hb := B.bytes
  have hr := B.returns
  have hts : ∀ w ∈ wsL_law, w.before _ s = true := fun w h => atoms_spec (ws := (ws_ yX6_mirror cX6_mirror 5 (some .int))) B.pre w (List.mem_cons_of_mem _ h)
  have hown : s.vm.findClass RX6 = some m.cls := findClass_of_methodNamed B.named
  have hlk := B.notSynchronized
  have hC : CallFix p m c cX6_mirror 5 s _ wsL_law RX6 := ⟨hx, hb, hml, hown, hts⟩
  subst hsz
  have hD := hD0.self (sz := s.heap.size)
  generalize hAe : va_A [oO mo 6 [.int th, .ref a1, .int (nI nC), .ref a2, .ref a3, .ref a4, .ref a5, .ref a6, .ref a7, .ref a8, .ref a9, .int (nI nS), .ref a10, .int (nI nM), .ref a11], aI D a2 6 ln, aI D a3 24 ks, aI D a4 384 tm, aI D a5 384 wo, aI D a6 384 ea, aI D a7 6 qs, aI D a8 48 qt, aI D a9 48 qn] s.heap.size = A at hD ⊢
  have hA : ∀ q : Nat, s.heap.size ≤ q → A q := fun q h => by rw [← hAe]; exact Or.inr h
  have hS : va_S A s.heap s.heap [] := va_S.rf
  obtain ⟨H, hHe⟩ : ∃ H, H = s.heap := ⟨_, rfl⟩
  rw [← hHe] at hP
  have hS : va_S A s.heap H [] := by rw [hHe]; exact hS
  have hl := lv_entry ([.ref mo, .int (nI i)]) (n := 5) (Nat.le_of_ble_eq_true rfl)
  rw [lg_entry_eq]
  generalize (lg_sl ([.ref mo, .int (nI i)]) ++ List.replicate (5 - (lg_sl ([.ref mo, .int (nI i)])).length) Slot.unset).toArray = ls at hl ⊢
  have hl : lv_has ls 5 [(0, .ref mo), (1, .int (nI i))] := hl
  rw [← hHe]
  refine lv_aload_n hx hb dX6_mirror_0 rfl (lv_at hl 0 rfl) ?_
  refine lv_iconst (v := 0) hx hb dX6_mirror_1 (by decide) ?_
  refine va_put (D := D) (ci := 6) (v := .int 0) (ty := .int) (C := RX6) (T := TX6) (N := 15) hx hb hts inlX6 tyX6 tyX6_ok nmX6 hown hG.K hP hD hS 0 rfl rfl 0 (by decide) (hts _ mF_X6_43) (fun _ h9 => h9) rfl (by decide +kernel) rfl rfl (Nat.le_of_ble_eq_true rfl) dX6_mirror_2 (fun H locs hP hD hS => ?_)
  have hP : va_P D cls [oO mo 6 [.int 0, .ref a1, .int (nI nC), .ref a2, .ref a3, .ref a4, .ref a5, .ref a6, .ref a7, .ref a8, .ref a9, .int (nI nS), .ref a10, .int (nI nM), .ref a11], aI D a2 6 ln, aI D a3 24 ks, aI D a4 384 tm, aI D a5 384 wo, aI D a6 384 ea, aI D a7 6 qs, aI D a8 48 qt, aI D a9 48 qn] H := hP
  have hD : va_D A [oO mo 6 [.int 0, .ref a1, .int (nI nC), .ref a2, .ref a3, .ref a4, .ref a5, .ref a6, .ref a7, .ref a8, .ref a9, .int (nI nS), .ref a10, .int (nI nM), .ref a11], aI D a2 6 ln, aI D a3 24 ks, aI D a4 384 tm, aI D a5 384 wo, aI D a6 384 ea, aI D a7 6 qs, aI D a8 48 qt, aI D a9 48 qn] := hD
  refine lv_aload_n hx hb dX6_mirror_5 rfl (lv_at hl 0 rfl) ?_
  refine lv_iload_n hx hb dX6_mirror_6 rfl (lv_at hl 1 rfl) ?_
  have hP9 := hP.sub (ws' := [oO mo 6 [.int 0, .ref a1, .int (nI nC), .ref a2, .ref a3, .ref a4, .ref a5, .ref a6, .ref a7, .ref a8, .ref a9, .int (nI nS), .ref a10, .int (nI nM), .ref a11]]) [0] rfl
  refine vp_callSi (pV (rest := []) (qc := (RX6, TX6, 15)) [.int (nI i)] 1 hC (m_isClip l D (mo := mo) (i := i) (th := 0) (a1 := a1) (nC := nC) (a2 := a2) (a3 := a3) (a4 := a4) (a5 := a5) (a6 := a6) (a7 := a7) (a8 := a8) (a9 := a9) (nS := nS) (a10 := a10) (nM := nM) (a11 := a11) (by omega) (by omega)) rfl (hP 0 _ rfl) (gV mM_X6_54 mI_X6_isClip mS_X6_isClip mN_X6 mC_X6_isClip) (by decide +kernel) rfl rfl ⟨Nat.le_of_ble_eq_true rfl, Nat.le_of_ble_eq_true rfl⟩ hG hP9 rfl hl.1 rfl (Nat.le_of_ble_eq_true rfl) dX6_mirror_7 ⟨Nat.le_of_ble_eq_true rfl, Nat.le_of_ble_eq_true rfl⟩) (fun r7 h7 => ?_)
  obtain rfl : r7 = 1 := h7
  refine lv_if_ne (tgt := 19) hx hb dX6_mirror_10 (by decide) (fun _ => ?_) (fun h9 => absurd h9 (by decide))
  refine lv_iconst (v := 0) hx hb dX6_mirror_19 (by decide) ?_
  refine lv_istore_n (lv' := [(2, .int 0), (0, .ref mo), (1, .int (nI i))]) hx hb dX6_mirror_20 rfl hl (by decide) rfl (fun ls hl => ?_)
  refine lv_iload_n hx hb dX6_mirror_21 rfl (lv_at hl 0 rfl) ?_
  refine lv_iconst (v := 4) hx hb dX6_mirror_22 (by decide) ?_
  refine lv_icmp_ge (tgt := 47) hx hb dX6_mirror_23 (by decide) (fun h9 => absurd h9 (by decide)) (fun _ => ?_)
  refine lv_aload_n hx hb dX6_mirror_26 rfl (lv_at hl 1 rfl) ?_
  refine lv_iconst (v := 4) hx hb dX6_mirror_27 (by decide) ?_
  refine lv_iload_n hx hb dX6_mirror_28 rfl (lv_at hl 2 rfl) ?_
  refine lv_imul hx hb dX6_mirror_29 ?_
  refine tpi (y := nI (4 * i)) (pk_mul 4 i) ?_
  refine lv_iload_n hx hb dX6_mirror_30 rfl (lv_at hl 0 rfl) ?_
  refine lv_iadd hx hb dX6_mirror_31 ?_
  refine tpi (y := nI ((4 * i) + 0)) (nI_add (4 * i) 0) ?_
  refine lv_aload_n hx hb dX6_mirror_32 rfl (lv_at hl 1 rfl) ?_
  refine va_get (D := D) (ci := 6) (v := .ref a2) (C := RX6) (T := TX6) (N := 15) hx hb hts inlX6 hown hG.K hP 0 rfl rfl 3 (by decide) (hts _ mF_X6_13) (fun _ h9 => h9) rfl dX6_mirror_33 ?_
  refine lv_iload_n hx hb dX6_mirror_36 rfl (lv_at hl 2 rfl) ?_
  refine ild (n := 6) (j := i) hx hb hG hP 1 rfl (by omega) (by omega) dX6_mirror_37 ?_
  have hP9 := hP.sub (ws' := [oO mo 6 [.int 0, .ref a1, .int (nI nC), .ref a2, .ref a3, .ref a4, .ref a5, .ref a6, .ref a7, .ref a8, .ref a9, .int (nI nS), .ref a10, .int (nI nM), .ref a11], aI D a3 24 ks, aI D a4 384 tm, aI D a5 384 wo, aI D a6 384 ea]) [0, 2, 3, 4, 5] rfl
  have hD9 := (hD.sub (ws' := [oO mo 6 [.int 0, .ref a1, .int (nI nC), .ref a2, .ref a3, .ref a4, .ref a5, .ref a6, .ref a7, .ref a8, .ref a9, .int (nI nS), .ref a10, .int (nI nM), .ref a11], aI D a3 24 ks, aI D a4 384 tm, aI D a5 384 wo, aI D a6 384 ea]) [0, 2, 3, 4, 5] (by decide) rfl).weaken (B := fun _ => True) (fun _ _ _ _ => trivial)
  refine kv (wr := [aI D a2 6 ln, aI D a7 6 qs, aI D a8 48 qt, aI D a9 48 qn]) (rV (rest := []) (qc := (RX6, TX6, 15)) [.int (nI ((4 * i) + 0)), .int (ln i)] 2 1 48 hC (m_mirrorTrack l D (n := n 0) (mo := mo) (k0 := (4 * i) + 0) (x := ln i) (th := 0) (a1 := a1) (nC := nC) (a2 := a2) (a3 := a3) (a4 := a4) (a5 := a5) (a6 := a6) (a7 := a7) (a8 := a8) (a9 := a9) (nS := nS) (a10 := a10) (nM := nM) (a11 := a11) (ks := ks) (tm := tm) (wo := wo) (ea := ea) (hz0 := H.size) (by omega) (hks 0 (by decide)) (h16 0 (by decide))) rfl (hP 0 _ rfl) (gV mM_X6_102 mI_X6_mirrorTrack mS_X6_mirrorTrack mN_X6 mC_X6_mirrorTrack) (by decide +kernel) rfl rfl ⟨Nat.le_of_ble_eq_true rfl, Nat.le_of_ble_eq_true rfl⟩ hG hP9 hD9 rfl hl.1 rfl (Nat.le_of_ble_eq_true rfl) dX6_mirror_38 ⟨Nat.le_of_ble_eq_true rfl, Nat.le_of_ble_eq_true rfl⟩) hP hD hS hA [0, 2, 3, 4, 5] [1, 6, 7, 8] rfl rfl (by decide) (by decide) (fun u38 H locs h38 hP hD hS hz hfr => ?_)
  have hP : va_P D cls [aI D a2 6 ln, aI D a7 6 qs, aI D a8 48 qt, aI D a9 48 qn, oO mo 6 [.int 0, .ref a1, .int (nI nC), .ref a2, .ref a3, .ref a4, .ref a5, .ref a6, .ref a7, .ref a8, .ref a9, .int (nI nS), .ref a10, .int (nI nM), .ref a11], aI D a3 24 ks, aI D a4 384 (mirT tm (ln i) ((4 * i) + 0) (n 0)), aI D a5 384 (mirW wo ((4 * i) + 0) (n 0)), aI D a6 384 (mirA ea ((4 * i) + 0) (n 0))] H := hP
  have hD : va_D A [aI D a2 6 ln, aI D a7 6 qs, aI D a8 48 qt, aI D a9 48 qn, oO mo 6 [.int 0, .ref a1, .int (nI nC), .ref a2, .ref a3, .ref a4, .ref a5, .ref a6, .ref a7, .ref a8, .ref a9, .int (nI nS), .ref a10, .int (nI nM), .ref a11], aI D a3 24 ks, aI D a4 384 (mirT tm (ln i) ((4 * i) + 0) (n 0)), aI D a5 384 (mirW wo ((4 * i) + 0) (n 0)), aI D a6 384 (mirA ea ((4 * i) + 0) (n 0))] := hD
  refine lv_iinc (v := 1) (lv' := [(2, .int 1), (0, .ref mo), (1, .int (nI i))]) hx hb dX6_mirror_41 hl (k := 0) rfl (by decide) (by decide) rfl (fun ls hl => ?_)
  refine lv_goto (tgt := 21) hx hb dX6_mirror_44 (by decide) ?_
  refine lv_iload_n hx hb dX6_mirror_21 rfl (lv_at hl 0 rfl) ?_
  refine lv_iconst (v := 4) hx hb dX6_mirror_22 (by decide) ?_
  refine lv_icmp_ge (tgt := 47) hx hb dX6_mirror_23 (by decide) (fun h9 => absurd h9 (by decide)) (fun _ => ?_)
  refine lv_aload_n hx hb dX6_mirror_26 rfl (lv_at hl 1 rfl) ?_
  refine lv_iconst (v := 4) hx hb dX6_mirror_27 (by decide) ?_
  refine lv_iload_n hx hb dX6_mirror_28 rfl (lv_at hl 2 rfl) ?_
  refine lv_imul hx hb dX6_mirror_29 ?_
  refine tpi (y := nI (4 * i)) (pk_mul 4 i) ?_
  refine lv_iload_n hx hb dX6_mirror_30 rfl (lv_at hl 0 rfl) ?_
  refine lv_iadd hx hb dX6_mirror_31 ?_
  refine tpi (y := nI ((4 * i) + 1)) (nI_add (4 * i) 1) ?_
  refine lv_aload_n hx hb dX6_mirror_32 rfl (lv_at hl 1 rfl) ?_
  refine va_get (D := D) (ci := 6) (v := .ref a2) (C := RX6) (T := TX6) (N := 15) hx hb hts inlX6 hown hG.K hP 4 rfl rfl 3 (by decide) (hts _ mF_X6_13) (fun _ h9 => h9) rfl dX6_mirror_33 ?_
  refine lv_iload_n hx hb dX6_mirror_36 rfl (lv_at hl 2 rfl) ?_
  refine ild (n := 6) (j := i) hx hb hG hP 0 rfl (by omega) (by omega) dX6_mirror_37 ?_
  have hP9 := hP.sub (ws' := [oO mo 6 [.int 0, .ref a1, .int (nI nC), .ref a2, .ref a3, .ref a4, .ref a5, .ref a6, .ref a7, .ref a8, .ref a9, .int (nI nS), .ref a10, .int (nI nM), .ref a11], aI D a3 24 ks, aI D a4 384 (mirT tm (ln i) ((4 * i) + 0) (n 0)), aI D a5 384 (mirW wo ((4 * i) + 0) (n 0)), aI D a6 384 (mirA ea ((4 * i) + 0) (n 0))]) [4, 5, 6, 7, 8] rfl
  have hD9 := (hD.sub (ws' := [oO mo 6 [.int 0, .ref a1, .int (nI nC), .ref a2, .ref a3, .ref a4, .ref a5, .ref a6, .ref a7, .ref a8, .ref a9, .int (nI nS), .ref a10, .int (nI nM), .ref a11], aI D a3 24 ks, aI D a4 384 (mirT tm (ln i) ((4 * i) + 0) (n 0)), aI D a5 384 (mirW wo ((4 * i) + 0) (n 0)), aI D a6 384 (mirA ea ((4 * i) + 0) (n 0))]) [4, 5, 6, 7, 8] (by decide) rfl).weaken (B := fun _ => True) (fun _ _ _ _ => trivial)
  refine kv (wr := [aI D a2 6 ln, aI D a7 6 qs, aI D a8 48 qt, aI D a9 48 qn]) (rV (rest := []) (qc := (RX6, TX6, 15)) [.int (nI ((4 * i) + 1)), .int (ln i)] 2 1 48 hC (m_mirrorTrack l D (n := n 1) (mo := mo) (k0 := (4 * i) + 1) (x := ln i) (th := 0) (a1 := a1) (nC := nC) (a2 := a2) (a3 := a3) (a4 := a4) (a5 := a5) (a6 := a6) (a7 := a7) (a8 := a8) (a9 := a9) (nS := nS) (a10 := a10) (nM := nM) (a11 := a11) (ks := ks) (tm := mirT tm (ln i) ((4 * i) + 0) (n 0)) (wo := mirW wo ((4 * i) + 0) (n 0)) (ea := mirA ea ((4 * i) + 0) (n 0)) (hz0 := H.size) (by omega) (hks 1 (by decide)) (h16 1 (by decide))) rfl (hP 4 _ rfl) (gV mM_X6_102 mI_X6_mirrorTrack mS_X6_mirrorTrack mN_X6 mC_X6_mirrorTrack) (by decide +kernel) rfl rfl ⟨Nat.le_of_ble_eq_true rfl, Nat.le_of_ble_eq_true rfl⟩ hG hP9 hD9 rfl hl.1 rfl (Nat.le_of_ble_eq_true rfl) dX6_mirror_38 ⟨Nat.le_of_ble_eq_true rfl, Nat.le_of_ble_eq_true rfl⟩) hP hD hS hA [4, 5, 6, 7, 8] [0, 1, 2, 3] rfl rfl (by decide) (by decide) (fun u38 H locs h38 hP hD hS hz hfr => ?_)
  have hP : va_P D cls [aI D a2 6 ln, aI D a7 6 qs, aI D a8 48 qt, aI D a9 48 qn, oO mo 6 [.int 0, .ref a1, .int (nI nC), .ref a2, .ref a3, .ref a4, .ref a5, .ref a6, .ref a7, .ref a8, .ref a9, .int (nI nS), .ref a10, .int (nI nM), .ref a11], aI D a3 24 ks, aI D a4 384 (mirT (mirT tm (ln i) ((4 * i) + 0) (n 0)) (ln i) ((4 * i) + 1) (n 1)), aI D a5 384 (mirW (mirW wo ((4 * i) + 0) (n 0)) ((4 * i) + 1) (n 1)), aI D a6 384 (mirA (mirA ea ((4 * i) + 0) (n 0)) ((4 * i) + 1) (n 1))] H := hP
  have hD : va_D A [aI D a2 6 ln, aI D a7 6 qs, aI D a8 48 qt, aI D a9 48 qn, oO mo 6 [.int 0, .ref a1, .int (nI nC), .ref a2, .ref a3, .ref a4, .ref a5, .ref a6, .ref a7, .ref a8, .ref a9, .int (nI nS), .ref a10, .int (nI nM), .ref a11], aI D a3 24 ks, aI D a4 384 (mirT (mirT tm (ln i) ((4 * i) + 0) (n 0)) (ln i) ((4 * i) + 1) (n 1)), aI D a5 384 (mirW (mirW wo ((4 * i) + 0) (n 0)) ((4 * i) + 1) (n 1)), aI D a6 384 (mirA (mirA ea ((4 * i) + 0) (n 0)) ((4 * i) + 1) (n 1))] := hD
  refine lv_iinc (v := 2) (lv' := [(2, .int 2), (0, .ref mo), (1, .int (nI i))]) hx hb dX6_mirror_41 hl (k := 0) rfl (by decide) (by decide) rfl (fun ls hl => ?_)
  refine lv_goto (tgt := 21) hx hb dX6_mirror_44 (by decide) ?_
  refine lv_iload_n hx hb dX6_mirror_21 rfl (lv_at hl 0 rfl) ?_
  refine lv_iconst (v := 4) hx hb dX6_mirror_22 (by decide) ?_
  refine lv_icmp_ge (tgt := 47) hx hb dX6_mirror_23 (by decide) (fun h9 => absurd h9 (by decide)) (fun _ => ?_)
  refine lv_aload_n hx hb dX6_mirror_26 rfl (lv_at hl 1 rfl) ?_
  refine lv_iconst (v := 4) hx hb dX6_mirror_27 (by decide) ?_
  refine lv_iload_n hx hb dX6_mirror_28 rfl (lv_at hl 2 rfl) ?_
  refine lv_imul hx hb dX6_mirror_29 ?_
  refine tpi (y := nI (4 * i)) (pk_mul 4 i) ?_
  refine lv_iload_n hx hb dX6_mirror_30 rfl (lv_at hl 0 rfl) ?_
  refine lv_iadd hx hb dX6_mirror_31 ?_
  refine tpi (y := nI ((4 * i) + 2)) (nI_add (4 * i) 2) ?_
  refine lv_aload_n hx hb dX6_mirror_32 rfl (lv_at hl 1 rfl) ?_
  refine va_get (D := D) (ci := 6) (v := .ref a2) (C := RX6) (T := TX6) (N := 15) hx hb hts inlX6 hown hG.K hP 4 rfl rfl 3 (by decide) (hts _ mF_X6_13) (fun _ h9 => h9) rfl dX6_mirror_33 ?_
  refine lv_iload_n hx hb dX6_mirror_36 rfl (lv_at hl 2 rfl) ?_
  refine ild (n := 6) (j := i) hx hb hG hP 0 rfl (by omega) (by omega) dX6_mirror_37 ?_
  have hP9 := hP.sub (ws' := [oO mo 6 [.int 0, .ref a1, .int (nI nC), .ref a2, .ref a3, .ref a4, .ref a5, .ref a6, .ref a7, .ref a8, .ref a9, .int (nI nS), .ref a10, .int (nI nM), .ref a11], aI D a3 24 ks, aI D a4 384 (mirT (mirT tm (ln i) ((4 * i) + 0) (n 0)) (ln i) ((4 * i) + 1) (n 1)), aI D a5 384 (mirW (mirW wo ((4 * i) + 0) (n 0)) ((4 * i) + 1) (n 1)), aI D a6 384 (mirA (mirA ea ((4 * i) + 0) (n 0)) ((4 * i) + 1) (n 1))]) [4, 5, 6, 7, 8] rfl
  have hD9 := (hD.sub (ws' := [oO mo 6 [.int 0, .ref a1, .int (nI nC), .ref a2, .ref a3, .ref a4, .ref a5, .ref a6, .ref a7, .ref a8, .ref a9, .int (nI nS), .ref a10, .int (nI nM), .ref a11], aI D a3 24 ks, aI D a4 384 (mirT (mirT tm (ln i) ((4 * i) + 0) (n 0)) (ln i) ((4 * i) + 1) (n 1)), aI D a5 384 (mirW (mirW wo ((4 * i) + 0) (n 0)) ((4 * i) + 1) (n 1)), aI D a6 384 (mirA (mirA ea ((4 * i) + 0) (n 0)) ((4 * i) + 1) (n 1))]) [4, 5, 6, 7, 8] (by decide) rfl).weaken (B := fun _ => True) (fun _ _ _ _ => trivial)
  refine kv (wr := [aI D a2 6 ln, aI D a7 6 qs, aI D a8 48 qt, aI D a9 48 qn]) (rV (rest := []) (qc := (RX6, TX6, 15)) [.int (nI ((4 * i) + 2)), .int (ln i)] 2 1 48 hC (m_mirrorTrack l D (n := n 2) (mo := mo) (k0 := (4 * i) + 2) (x := ln i) (th := 0) (a1 := a1) (nC := nC) (a2 := a2) (a3 := a3) (a4 := a4) (a5 := a5) (a6 := a6) (a7 := a7) (a8 := a8) (a9 := a9) (nS := nS) (a10 := a10) (nM := nM) (a11 := a11) (ks := ks) (tm := mirT (mirT tm (ln i) ((4 * i) + 0) (n 0)) (ln i) ((4 * i) + 1) (n 1)) (wo := mirW (mirW wo ((4 * i) + 0) (n 0)) ((4 * i) + 1) (n 1)) (ea := mirA (mirA ea ((4 * i) + 0) (n 0)) ((4 * i) + 1) (n 1)) (hz0 := H.size) (by omega) (hks 2 (by decide)) (h16 2 (by decide))) rfl (hP 4 _ rfl) (gV mM_X6_102 mI_X6_mirrorTrack mS_X6_mirrorTrack mN_X6 mC_X6_mirrorTrack) (by decide +kernel) rfl rfl ⟨Nat.le_of_ble_eq_true rfl, Nat.le_of_ble_eq_true rfl⟩ hG hP9 hD9 rfl hl.1 rfl (Nat.le_of_ble_eq_true rfl) dX6_mirror_38 ⟨Nat.le_of_ble_eq_true rfl, Nat.le_of_ble_eq_true rfl⟩) hP hD hS hA [4, 5, 6, 7, 8] [0, 1, 2, 3] rfl rfl (by decide) (by decide) (fun u38 H locs h38 hP hD hS hz hfr => ?_)
  have hP : va_P D cls [aI D a2 6 ln, aI D a7 6 qs, aI D a8 48 qt, aI D a9 48 qn, oO mo 6 [.int 0, .ref a1, .int (nI nC), .ref a2, .ref a3, .ref a4, .ref a5, .ref a6, .ref a7, .ref a8, .ref a9, .int (nI nS), .ref a10, .int (nI nM), .ref a11], aI D a3 24 ks, aI D a4 384 (mirT (mirT (mirT tm (ln i) ((4 * i) + 0) (n 0)) (ln i) ((4 * i) + 1) (n 1)) (ln i) ((4 * i) + 2) (n 2)), aI D a5 384 (mirW (mirW (mirW wo ((4 * i) + 0) (n 0)) ((4 * i) + 1) (n 1)) ((4 * i) + 2) (n 2)), aI D a6 384 (mirA (mirA (mirA ea ((4 * i) + 0) (n 0)) ((4 * i) + 1) (n 1)) ((4 * i) + 2) (n 2))] H := hP
  have hD : va_D A [aI D a2 6 ln, aI D a7 6 qs, aI D a8 48 qt, aI D a9 48 qn, oO mo 6 [.int 0, .ref a1, .int (nI nC), .ref a2, .ref a3, .ref a4, .ref a5, .ref a6, .ref a7, .ref a8, .ref a9, .int (nI nS), .ref a10, .int (nI nM), .ref a11], aI D a3 24 ks, aI D a4 384 (mirT (mirT (mirT tm (ln i) ((4 * i) + 0) (n 0)) (ln i) ((4 * i) + 1) (n 1)) (ln i) ((4 * i) + 2) (n 2)), aI D a5 384 (mirW (mirW (mirW wo ((4 * i) + 0) (n 0)) ((4 * i) + 1) (n 1)) ((4 * i) + 2) (n 2)), aI D a6 384 (mirA (mirA (mirA ea ((4 * i) + 0) (n 0)) ((4 * i) + 1) (n 1)) ((4 * i) + 2) (n 2))] := hD
  refine lv_iinc (v := 3) (lv' := [(2, .int 3), (0, .ref mo), (1, .int (nI i))]) hx hb dX6_mirror_41 hl (k := 0) rfl (by decide) (by decide) rfl (fun ls hl => ?_)
  refine lv_goto (tgt := 21) hx hb dX6_mirror_44 (by decide) ?_
  refine lv_iload_n hx hb dX6_mirror_21 rfl (lv_at hl 0 rfl) ?_
  refine lv_iconst (v := 4) hx hb dX6_mirror_22 (by decide) ?_
  refine lv_icmp_ge (tgt := 47) hx hb dX6_mirror_23 (by decide) (fun h9 => absurd h9 (by decide)) (fun _ => ?_)
  refine lv_aload_n hx hb dX6_mirror_26 rfl (lv_at hl 1 rfl) ?_
  refine lv_iconst (v := 4) hx hb dX6_mirror_27 (by decide) ?_
  refine lv_iload_n hx hb dX6_mirror_28 rfl (lv_at hl 2 rfl) ?_
  refine lv_imul hx hb dX6_mirror_29 ?_
  refine tpi (y := nI (4 * i)) (pk_mul 4 i) ?_
  refine lv_iload_n hx hb dX6_mirror_30 rfl (lv_at hl 0 rfl) ?_
  refine lv_iadd hx hb dX6_mirror_31 ?_
  refine tpi (y := nI ((4 * i) + 3)) (nI_add (4 * i) 3) ?_
  refine lv_aload_n hx hb dX6_mirror_32 rfl (lv_at hl 1 rfl) ?_
  refine va_get (D := D) (ci := 6) (v := .ref a2) (C := RX6) (T := TX6) (N := 15) hx hb hts inlX6 hown hG.K hP 4 rfl rfl 3 (by decide) (hts _ mF_X6_13) (fun _ h9 => h9) rfl dX6_mirror_33 ?_
  refine lv_iload_n hx hb dX6_mirror_36 rfl (lv_at hl 2 rfl) ?_
  refine ild (n := 6) (j := i) hx hb hG hP 0 rfl (by omega) (by omega) dX6_mirror_37 ?_
  have hP9 := hP.sub (ws' := [oO mo 6 [.int 0, .ref a1, .int (nI nC), .ref a2, .ref a3, .ref a4, .ref a5, .ref a6, .ref a7, .ref a8, .ref a9, .int (nI nS), .ref a10, .int (nI nM), .ref a11], aI D a3 24 ks, aI D a4 384 (mirT (mirT (mirT tm (ln i) ((4 * i) + 0) (n 0)) (ln i) ((4 * i) + 1) (n 1)) (ln i) ((4 * i) + 2) (n 2)), aI D a5 384 (mirW (mirW (mirW wo ((4 * i) + 0) (n 0)) ((4 * i) + 1) (n 1)) ((4 * i) + 2) (n 2)), aI D a6 384 (mirA (mirA (mirA ea ((4 * i) + 0) (n 0)) ((4 * i) + 1) (n 1)) ((4 * i) + 2) (n 2))]) [4, 5, 6, 7, 8] rfl
  have hD9 := (hD.sub (ws' := [oO mo 6 [.int 0, .ref a1, .int (nI nC), .ref a2, .ref a3, .ref a4, .ref a5, .ref a6, .ref a7, .ref a8, .ref a9, .int (nI nS), .ref a10, .int (nI nM), .ref a11], aI D a3 24 ks, aI D a4 384 (mirT (mirT (mirT tm (ln i) ((4 * i) + 0) (n 0)) (ln i) ((4 * i) + 1) (n 1)) (ln i) ((4 * i) + 2) (n 2)), aI D a5 384 (mirW (mirW (mirW wo ((4 * i) + 0) (n 0)) ((4 * i) + 1) (n 1)) ((4 * i) + 2) (n 2)), aI D a6 384 (mirA (mirA (mirA ea ((4 * i) + 0) (n 0)) ((4 * i) + 1) (n 1)) ((4 * i) + 2) (n 2))]) [4, 5, 6, 7, 8] (by decide) rfl).weaken (B := fun _ => True) (fun _ _ _ _ => trivial)
  refine kv (wr := [aI D a2 6 ln, aI D a7 6 qs, aI D a8 48 qt, aI D a9 48 qn]) (rV (rest := []) (qc := (RX6, TX6, 15)) [.int (nI ((4 * i) + 3)), .int (ln i)] 2 1 48 hC (m_mirrorTrack l D (n := n 3) (mo := mo) (k0 := (4 * i) + 3) (x := ln i) (th := 0) (a1 := a1) (nC := nC) (a2 := a2) (a3 := a3) (a4 := a4) (a5 := a5) (a6 := a6) (a7 := a7) (a8 := a8) (a9 := a9) (nS := nS) (a10 := a10) (nM := nM) (a11 := a11) (ks := ks) (tm := mirT (mirT (mirT tm (ln i) ((4 * i) + 0) (n 0)) (ln i) ((4 * i) + 1) (n 1)) (ln i) ((4 * i) + 2) (n 2)) (wo := mirW (mirW (mirW wo ((4 * i) + 0) (n 0)) ((4 * i) + 1) (n 1)) ((4 * i) + 2) (n 2)) (ea := mirA (mirA (mirA ea ((4 * i) + 0) (n 0)) ((4 * i) + 1) (n 1)) ((4 * i) + 2) (n 2)) (hz0 := H.size) (by omega) (hks 3 (by decide)) (h16 3 (by decide))) rfl (hP 4 _ rfl) (gV mM_X6_102 mI_X6_mirrorTrack mS_X6_mirrorTrack mN_X6 mC_X6_mirrorTrack) (by decide +kernel) rfl rfl ⟨Nat.le_of_ble_eq_true rfl, Nat.le_of_ble_eq_true rfl⟩ hG hP9 hD9 rfl hl.1 rfl (Nat.le_of_ble_eq_true rfl) dX6_mirror_38 ⟨Nat.le_of_ble_eq_true rfl, Nat.le_of_ble_eq_true rfl⟩) hP hD hS hA [4, 5, 6, 7, 8] [0, 1, 2, 3] rfl rfl (by decide) (by decide) (fun u38 H locs h38 hP hD hS hz hfr => ?_)
  have hP : va_P D cls [aI D a2 6 ln, aI D a7 6 qs, aI D a8 48 qt, aI D a9 48 qn, oO mo 6 [.int 0, .ref a1, .int (nI nC), .ref a2, .ref a3, .ref a4, .ref a5, .ref a6, .ref a7, .ref a8, .ref a9, .int (nI nS), .ref a10, .int (nI nM), .ref a11], aI D a3 24 ks, aI D a4 384 (mirT (mirT (mirT (mirT tm (ln i) ((4 * i) + 0) (n 0)) (ln i) ((4 * i) + 1) (n 1)) (ln i) ((4 * i) + 2) (n 2)) (ln i) ((4 * i) + 3) (n 3)), aI D a5 384 (mirW (mirW (mirW (mirW wo ((4 * i) + 0) (n 0)) ((4 * i) + 1) (n 1)) ((4 * i) + 2) (n 2)) ((4 * i) + 3) (n 3)), aI D a6 384 (mirA (mirA (mirA (mirA ea ((4 * i) + 0) (n 0)) ((4 * i) + 1) (n 1)) ((4 * i) + 2) (n 2)) ((4 * i) + 3) (n 3))] H := hP
  have hD : va_D A [aI D a2 6 ln, aI D a7 6 qs, aI D a8 48 qt, aI D a9 48 qn, oO mo 6 [.int 0, .ref a1, .int (nI nC), .ref a2, .ref a3, .ref a4, .ref a5, .ref a6, .ref a7, .ref a8, .ref a9, .int (nI nS), .ref a10, .int (nI nM), .ref a11], aI D a3 24 ks, aI D a4 384 (mirT (mirT (mirT (mirT tm (ln i) ((4 * i) + 0) (n 0)) (ln i) ((4 * i) + 1) (n 1)) (ln i) ((4 * i) + 2) (n 2)) (ln i) ((4 * i) + 3) (n 3)), aI D a5 384 (mirW (mirW (mirW (mirW wo ((4 * i) + 0) (n 0)) ((4 * i) + 1) (n 1)) ((4 * i) + 2) (n 2)) ((4 * i) + 3) (n 3)), aI D a6 384 (mirA (mirA (mirA (mirA ea ((4 * i) + 0) (n 0)) ((4 * i) + 1) (n 1)) ((4 * i) + 2) (n 2)) ((4 * i) + 3) (n 3))] := hD
  refine lv_iinc (v := 4) (lv' := [(2, .int 4), (0, .ref mo), (1, .int (nI i))]) hx hb dX6_mirror_41 hl (k := 0) rfl (by decide) (by decide) rfl (fun ls hl => ?_)
  refine lv_goto (tgt := 21) hx hb dX6_mirror_44 (by decide) ?_
  refine lv_iload_n hx hb dX6_mirror_21 rfl (lv_at hl 0 rfl) ?_
  refine lv_iconst (v := 4) hx hb dX6_mirror_22 (by decide) ?_
  refine lv_icmp_ge (tgt := 47) hx hb dX6_mirror_23 (by decide) (fun _ => ?_) (fun h9 => (h9 (by decide)).elim)
  refine lv_aload_n hx hb dX6_mirror_47 rfl (lv_at hl 1 rfl) ?_
  refine va_get (D := D) (ci := 6) (v := .ref a7) (C := RX6) (T := TX6) (N := 15) hx hb hts inlX6 hown hG.K hP 4 rfl rfl 8 (by decide) (hts _ mF_X6_28) (fun _ h9 => h9) rfl dX6_mirror_48 ?_
  refine lv_iload_n hx hb dX6_mirror_51 rfl (lv_at hl 2 rfl) ?_
  refine ild (n := 6) (j := i) hx hb hG hP 1 rfl (by omega) (by omega) dX6_mirror_52 ?_
  refine tpi (y := nI d) (hqs) ?_
  refine lv_istore_n (lv' := [(2, .int (nI d)), (0, .ref mo), (1, .int (nI i))]) hx hb dX6_mirror_53 rfl hl (by decide) rfl (fun ls hl => ?_)
  refine lv_bipush (v := 16) hx hb dX6_mirror_54 (by decide) ?_
  refine narI (N := 16) hx hb hG hts hP hD hS hA (by decide) (by decide) (by omega) (Nat.le_of_ble_eq_true rfl) (by first | exact Nat.le_of_ble_eq_true rfl | exact Nat.le_of_eq (Nat.zero_add _)) dX6_mirror_56 (fun ow H hP hD hS => ?_)
  have hP : va_P D cls [aI D a2 6 ln, aI D a7 6 qs, aI D a8 48 qt, aI D a9 48 qn, oO mo 6 [.int 0, .ref a1, .int (nI nC), .ref a2, .ref a3, .ref a4, .ref a5, .ref a6, .ref a7, .ref a8, .ref a9, .int (nI nS), .ref a10, .int (nI nM), .ref a11], aI D a3 24 ks, aI D a4 384 (mirT (mirT (mirT (mirT tm (ln i) ((4 * i) + 0) (n 0)) (ln i) ((4 * i) + 1) (n 1)) (ln i) ((4 * i) + 2) (n 2)) (ln i) ((4 * i) + 3) (n 3)), aI D a5 384 (mirW (mirW (mirW (mirW wo ((4 * i) + 0) (n 0)) ((4 * i) + 1) (n 1)) ((4 * i) + 2) (n 2)) ((4 * i) + 3) (n 3)), aI D a6 384 (mirA (mirA (mirA (mirA ea ((4 * i) + 0) (n 0)) ((4 * i) + 1) (n 1)) ((4 * i) + 2) (n 2)) ((4 * i) + 3) (n 3)), aI D ow 16 (fun _ => 0)] H := hP
  have hD : va_D A [aI D a2 6 ln, aI D a7 6 qs, aI D a8 48 qt, aI D a9 48 qn, oO mo 6 [.int 0, .ref a1, .int (nI nC), .ref a2, .ref a3, .ref a4, .ref a5, .ref a6, .ref a7, .ref a8, .ref a9, .int (nI nS), .ref a10, .int (nI nM), .ref a11], aI D a3 24 ks, aI D a4 384 (mirT (mirT (mirT (mirT tm (ln i) ((4 * i) + 0) (n 0)) (ln i) ((4 * i) + 1) (n 1)) (ln i) ((4 * i) + 2) (n 2)) (ln i) ((4 * i) + 3) (n 3)), aI D a5 384 (mirW (mirW (mirW (mirW wo ((4 * i) + 0) (n 0)) ((4 * i) + 1) (n 1)) ((4 * i) + 2) (n 2)) ((4 * i) + 3) (n 3)), aI D a6 384 (mirA (mirA (mirA (mirA ea ((4 * i) + 0) (n 0)) ((4 * i) + 1) (n 1)) ((4 * i) + 2) (n 2)) ((4 * i) + 3) (n 3)), aI D ow 16 (fun _ => 0)] := hD
  refine lv_astore_n (lv' := [(3, .ref ow), (2, .int (nI d)), (0, .ref mo), (1, .int (nI i))]) hx hb dX6_mirror_58 rfl hl (by decide) rfl (fun ls hl => ?_)
  refine lv_iconst (v := 0) hx hb dX6_mirror_59 (by decide) ?_
  refine lv_istore (lv' := [(4, .int 0), (3, .ref ow), (2, .int (nI d)), (0, .ref mo), (1, .int (nI i))]) hx hb dX6_mirror_60 hl (by decide) rfl (fun ls hl => ?_)
  have loop62 : ∀ (d9 : Nat) (k : Nat), (d - k) < d9 → (k ≤ d) → ∀ (H : Heap) (locs : List Loc) (ls : Array Slot), va_P D cls [aI D a2 6 ln, aI D a7 6 qs, aI D a8 48 qt, aI D a9 48 qn, oO mo 6 [.int 0, .ref a1, .int (nI nC), .ref a2, .ref a3, .ref a4, .ref a5, .ref a6, .ref a7, .ref a8, .ref a9, .int (nI nS), .ref a10, .int (nI nM), .ref a11], aI D a3 24 ks, aI D a4 384 (mirT (mirT (mirT (mirT tm (ln i) ((4 * i) + 0) (n 0)) (ln i) ((4 * i) + 1) (n 1)) (ln i) ((4 * i) + 2) (n 2)) (ln i) ((4 * i) + 3) (n 3)), aI D a5 384 (mirW (mirW (mirW (mirW wo ((4 * i) + 0) (n 0)) ((4 * i) + 1) (n 1)) ((4 * i) + 2) (n 2)) ((4 * i) + 3) (n 3)), aI D a6 384 (mirA (mirA (mirA (mirA ea ((4 * i) + 0) (n 0)) ((4 * i) + 1) (n 1)) ((4 * i) + 2) (n 2)) ((4 * i) + 3) (n 3)), aI D ow 16 (owG (fun z => ln i - qt (8 * i + d - 1 - z)) (fun z => qn (8 * i + d - 1 - z)) k)] H → va_D A [aI D a2 6 ln, aI D a7 6 qs, aI D a8 48 qt, aI D a9 48 qn, oO mo 6 [.int 0, .ref a1, .int (nI nC), .ref a2, .ref a3, .ref a4, .ref a5, .ref a6, .ref a7, .ref a8, .ref a9, .int (nI nS), .ref a10, .int (nI nM), .ref a11], aI D a3 24 ks, aI D a4 384 (mirT (mirT (mirT (mirT tm (ln i) ((4 * i) + 0) (n 0)) (ln i) ((4 * i) + 1) (n 1)) (ln i) ((4 * i) + 2) (n 2)) (ln i) ((4 * i) + 3) (n 3)), aI D a5 384 (mirW (mirW (mirW (mirW wo ((4 * i) + 0) (n 0)) ((4 * i) + 1) (n 1)) ((4 * i) + 2) (n 2)) ((4 * i) + 3) (n 3)), aI D a6 384 (mirA (mirA (mirA (mirA ea ((4 * i) + 0) (n 0)) ((4 * i) + 1) (n 1)) ((4 * i) + 2) (n 2)) ((4 * i) + 3) (n 3)), aI D ow 16 (owG (fun z => ln i - qt (8 * i + d - 1 - z)) (fun z => qn (8 * i + d - 1 - z)) k)] → va_S A s.heap H locs → lv_has ls 5 [(0, .ref mo), (1, .int (nI i)), (2, .int (nI d)), (3, .ref ow), (4, .int (nI k))] → W p l e ({ frames := 2, cells := 5, slots := 208, locals := 51 } : Room) s m ([.ref mo, .int (nI i)] : List Value).toArray below meth c H locs 5 208 (MQ below (va_Qi (fun v _ => v = ln i) (AT D A (fun _ : Unit => [oO mo 6 [.int 0, .ref a1, .int (nI nC), .ref a2, .ref a3, .ref a4, .ref a5, .ref a6, .ref a7, .ref a8, .ref a9, .int (nI nS), .ref a10, .int (nI nM), .ref a11], aI D a2 6 ln, aI D a3 24 ks, aI D a4 384 (mirT (mirT (mirT (mirT tm (ln i) (4 * i + 0) (n 0)) (ln i) (4 * i + 1) (n 1)) (ln i) (4 * i + 2) (n 2)) (ln i) (4 * i + 3) (n 3)), aI D a5 384 (mirW (mirW (mirW (mirW wo (4 * i + 0) (n 0)) (4 * i + 1) (n 1)) (4 * i + 2) (n 2)) (4 * i + 3) (n 3)), aI D a6 384 (mirA (mirA (mirA (mirA ea (4 * i + 0) (n 0)) (4 * i + 1) (n 1)) (4 * i + 2) (n 2)) (4 * i + 3) (n 3)), aI D a7 6 qs, aI D a8 48 (rwF qt (8 * i) d (fun z => ln i - qt (8 * i + d - 1 - z))), aI D a9 48 (rwF qn (8 * i) d (fun z => qn (8 * i + d - 1 - z)))])) A) ([.ref mo, .int (nI i)] : List Value).toArray s 5 208 A) (F0 m 62 ls []) := by
    intro d9
    induction d9 with
    | zero => intro k hd; exact absurd hd (Nat.not_lt_zero _)
    | succ d9 ih62 =>
      intro k hd62 hk H locs ls hP hD hS hl
      refine lv_iload hx hb dX6_mirror_62 (lv_at hl 4 rfl) ?_
      refine lv_iload_n hx hb dX6_mirror_64 rfl (lv_at hl 2 rfl) ?_
      refine lv_icmp_ge (tgt := 127) hx hb dX6_mirror_65 (by decide) (fun c65 => ?_) (fun c65 => ?_)
      · skip
        have n65 := (nI_leI (a := d) (b := k) (by omega) (by omega)).mp c65
        have hk9 : k = d := by omega
        subst k
        refine lv_iconst (v := 0) hx hb dX6_mirror_127 (by decide) ?_
        refine lv_istore (lv' := [(4, .int 0), (0, .ref mo), (1, .int (nI i)), (2, .int (nI d)), (3, .ref ow)]) hx hb dX6_mirror_128 hl (by decide) rfl (fun ls hl => ?_)
        have loop130 : ∀ (d9 : Nat) (k : Nat), (d - k) < d9 → (k ≤ d) → ∀ (H : Heap) (locs : List Loc) (ls : Array Slot), va_P D cls [aI D a2 6 ln, aI D a7 6 qs, aI D a8 48 (rwF qt (8 * i) k (fun z => ln i - qt (8 * i + d - 1 - z))), aI D a9 48 (rwF qn (8 * i) k (fun z => qn (8 * i + d - 1 - z))), oO mo 6 [.int 0, .ref a1, .int (nI nC), .ref a2, .ref a3, .ref a4, .ref a5, .ref a6, .ref a7, .ref a8, .ref a9, .int (nI nS), .ref a10, .int (nI nM), .ref a11], aI D a3 24 ks, aI D a4 384 (mirT (mirT (mirT (mirT tm (ln i) ((4 * i) + 0) (n 0)) (ln i) ((4 * i) + 1) (n 1)) (ln i) ((4 * i) + 2) (n 2)) (ln i) ((4 * i) + 3) (n 3)), aI D a5 384 (mirW (mirW (mirW (mirW wo ((4 * i) + 0) (n 0)) ((4 * i) + 1) (n 1)) ((4 * i) + 2) (n 2)) ((4 * i) + 3) (n 3)), aI D a6 384 (mirA (mirA (mirA (mirA ea ((4 * i) + 0) (n 0)) ((4 * i) + 1) (n 1)) ((4 * i) + 2) (n 2)) ((4 * i) + 3) (n 3)), aI D ow 16 (owG (fun z => ln i - qt (8 * i + d - 1 - z)) (fun z => qn (8 * i + d - 1 - z)) d)] H → va_D A [aI D a2 6 ln, aI D a7 6 qs, aI D a8 48 (rwF qt (8 * i) k (fun z => ln i - qt (8 * i + d - 1 - z))), aI D a9 48 (rwF qn (8 * i) k (fun z => qn (8 * i + d - 1 - z))), oO mo 6 [.int 0, .ref a1, .int (nI nC), .ref a2, .ref a3, .ref a4, .ref a5, .ref a6, .ref a7, .ref a8, .ref a9, .int (nI nS), .ref a10, .int (nI nM), .ref a11], aI D a3 24 ks, aI D a4 384 (mirT (mirT (mirT (mirT tm (ln i) ((4 * i) + 0) (n 0)) (ln i) ((4 * i) + 1) (n 1)) (ln i) ((4 * i) + 2) (n 2)) (ln i) ((4 * i) + 3) (n 3)), aI D a5 384 (mirW (mirW (mirW (mirW wo ((4 * i) + 0) (n 0)) ((4 * i) + 1) (n 1)) ((4 * i) + 2) (n 2)) ((4 * i) + 3) (n 3)), aI D a6 384 (mirA (mirA (mirA (mirA ea ((4 * i) + 0) (n 0)) ((4 * i) + 1) (n 1)) ((4 * i) + 2) (n 2)) ((4 * i) + 3) (n 3)), aI D ow 16 (owG (fun z => ln i - qt (8 * i + d - 1 - z)) (fun z => qn (8 * i + d - 1 - z)) d)] → va_S A s.heap H locs → lv_has ls 5 [(0, .ref mo), (1, .int (nI i)), (2, .int (nI d)), (3, .ref ow), (4, .int (nI k))] → W p l e ({ frames := 2, cells := 5, slots := 208, locals := 51 } : Room) s m ([.ref mo, .int (nI i)] : List Value).toArray below meth c H locs 5 208 (MQ below (va_Qi (fun v _ => v = ln i) (AT D A (fun _ : Unit => [oO mo 6 [.int 0, .ref a1, .int (nI nC), .ref a2, .ref a3, .ref a4, .ref a5, .ref a6, .ref a7, .ref a8, .ref a9, .int (nI nS), .ref a10, .int (nI nM), .ref a11], aI D a2 6 ln, aI D a3 24 ks, aI D a4 384 (mirT (mirT (mirT (mirT tm (ln i) (4 * i + 0) (n 0)) (ln i) (4 * i + 1) (n 1)) (ln i) (4 * i + 2) (n 2)) (ln i) (4 * i + 3) (n 3)), aI D a5 384 (mirW (mirW (mirW (mirW wo (4 * i + 0) (n 0)) (4 * i + 1) (n 1)) (4 * i + 2) (n 2)) (4 * i + 3) (n 3)), aI D a6 384 (mirA (mirA (mirA (mirA ea (4 * i + 0) (n 0)) (4 * i + 1) (n 1)) (4 * i + 2) (n 2)) (4 * i + 3) (n 3)), aI D a7 6 qs, aI D a8 48 (rwF qt (8 * i) d (fun z => ln i - qt (8 * i + d - 1 - z))), aI D a9 48 (rwF qn (8 * i) d (fun z => qn (8 * i + d - 1 - z)))])) A) ([.ref mo, .int (nI i)] : List Value).toArray s 5 208 A) (F0 m 130 ls []) := by
          intro d9
          induction d9 with
          | zero => intro k hd; exact absurd hd (Nat.not_lt_zero _)
          | succ d9 ih130 =>
            intro k hd130 hk H locs ls hP hD hS hl
            refine lv_iload hx hb dX6_mirror_130 (lv_at hl 4 rfl) ?_
            refine lv_iload_n hx hb dX6_mirror_132 rfl (lv_at hl 2 rfl) ?_
            refine lv_icmp_ge (tgt := 180) hx hb dX6_mirror_133 (by decide) (fun c133 => ?_) (fun c133 => ?_)
            · skip
              have n133 := (nI_leI (a := d) (b := k) (by omega) (by omega)).mp c133
              have hk9 : k = d := by omega
              subst k
              refine lv_aload_n hx hb dX6_mirror_180 rfl (lv_at hl 0 rfl) ?_
              refine va_get (D := D) (ci := 6) (v := .ref a2) (C := RX6) (T := TX6) (N := 15) hx hb hts inlX6 hown hG.K hP 4 rfl rfl 3 (by decide) (hts _ mF_X6_13) (fun _ h9 => h9) rfl dX6_mirror_181 ?_
              refine lv_iload_n hx hb dX6_mirror_184 rfl (lv_at hl 1 rfl) ?_
              refine ild (n := 6) (j := i) hx hb hG hP 0 rfl (by omega) (by omega) dX6_mirror_185 ?_
              refine Wi () hx hb hr hlk ?_ (hP.sub [4, 0, 5, 6, 7, 8, 1, 2, 3] rfl) (hD.sub [4, 0, 5, 6, 7, 8, 1, 2, 3] (by decide) rfl) hS (Nat.le_of_ble_eq_true rfl) (by first | exact Nat.le_of_ble_eq_true rfl | exact Nat.le_of_eq (Nat.zero_add _)) dX6_mirror_186
              exact rfl
            · skip
              have n133 := mt (nI_leI (a := d) (b := k) (by omega) (by omega)).mpr c133
              refine lv_aload_n hx hb dX6_mirror_136 rfl (lv_at hl 0 rfl) ?_
              refine va_get (D := D) (ci := 6) (v := .ref a8) (C := RX6) (T := TX6) (N := 15) hx hb hts inlX6 hown hG.K hP 4 rfl rfl 9 (by decide) (hts _ mF_X6_31) (fun _ h9 => h9) rfl dX6_mirror_137 ?_
              refine lv_bipush (v := 8) hx hb dX6_mirror_140 (by decide) ?_
              refine lv_iload_n hx hb dX6_mirror_142 rfl (lv_at hl 1 rfl) ?_
              refine lv_imul hx hb dX6_mirror_143 ?_
              refine tpi (y := nI (8 * i)) (pk_mul 8 i) ?_
              refine lv_iload hx hb dX6_mirror_144 (lv_at hl 4 rfl) ?_
              refine lv_iadd hx hb dX6_mirror_146 ?_
              refine tpi (y := nI ((8 * i) + k)) (nI_add (8 * i) k) ?_
              refine lv_aload_n hx hb dX6_mirror_147 rfl (lv_at hl 3 rfl) ?_
              refine lv_iconst (v := 2) hx hb dX6_mirror_148 (by decide) ?_
              refine lv_iload hx hb dX6_mirror_149 (lv_at hl 4 rfl) ?_
              refine lv_imul hx hb dX6_mirror_151 ?_
              refine tpi (y := nI (2 * k)) (pk_mul 2 k) ?_
              refine ild (n := 16) (j := 2 * k) hx hb hG hP 9 rfl (by omega) (by omega) dX6_mirror_152 ?_
              refine tpi (y := ln i - qt (8 * i + d - 1 - k)) (owG_a (by omega)) ?_
              refine ist (n := 48) (j := (8 * i) + k) hx hb hG hP hD hS 2 rfl (by omega) (by omega) dX6_mirror_153 (fun H locs hP hD hS => ?_)
              have hfn : upd (rwF qt (8 * i) k (fun z => ln i - qt (8 * i + d - 1 - z))) ((8 * i) + k) (ln i - qt (8 * i + d - 1 - k)) = (rwF qt (8 * i) (k + 1) (fun z => ln i - qt (8 * i + d - 1 - z))) := rwF_step (f := qt) (g := (fun z => ln i - qt (8 * i + d - 1 - z)))
              have hP : va_P D cls [aI D a2 6 ln, aI D a7 6 qs, aI D a8 48 (rwF qt (8 * i) (k + 1) (fun z => ln i - qt (8 * i + d - 1 - z))), aI D a9 48 (rwF qn (8 * i) k (fun z => qn (8 * i + d - 1 - z))), oO mo 6 [.int 0, .ref a1, .int (nI nC), .ref a2, .ref a3, .ref a4, .ref a5, .ref a6, .ref a7, .ref a8, .ref a9, .int (nI nS), .ref a10, .int (nI nM), .ref a11], aI D a3 24 ks, aI D a4 384 (mirT (mirT (mirT (mirT tm (ln i) ((4 * i) + 0) (n 0)) (ln i) ((4 * i) + 1) (n 1)) (ln i) ((4 * i) + 2) (n 2)) (ln i) ((4 * i) + 3) (n 3)), aI D a5 384 (mirW (mirW (mirW (mirW wo ((4 * i) + 0) (n 0)) ((4 * i) + 1) (n 1)) ((4 * i) + 2) (n 2)) ((4 * i) + 3) (n 3)), aI D a6 384 (mirA (mirA (mirA (mirA ea ((4 * i) + 0) (n 0)) ((4 * i) + 1) (n 1)) ((4 * i) + 2) (n 2)) ((4 * i) + 3) (n 3)), aI D ow 16 (owG (fun z => ln i - qt (8 * i + d - 1 - z)) (fun z => qn (8 * i + d - 1 - z)) d)] H := by rw [← hfn]; exact hP
              have hD : va_D A [aI D a2 6 ln, aI D a7 6 qs, aI D a8 48 (rwF qt (8 * i) (k + 1) (fun z => ln i - qt (8 * i + d - 1 - z))), aI D a9 48 (rwF qn (8 * i) k (fun z => qn (8 * i + d - 1 - z))), oO mo 6 [.int 0, .ref a1, .int (nI nC), .ref a2, .ref a3, .ref a4, .ref a5, .ref a6, .ref a7, .ref a8, .ref a9, .int (nI nS), .ref a10, .int (nI nM), .ref a11], aI D a3 24 ks, aI D a4 384 (mirT (mirT (mirT (mirT tm (ln i) ((4 * i) + 0) (n 0)) (ln i) ((4 * i) + 1) (n 1)) (ln i) ((4 * i) + 2) (n 2)) (ln i) ((4 * i) + 3) (n 3)), aI D a5 384 (mirW (mirW (mirW (mirW wo ((4 * i) + 0) (n 0)) ((4 * i) + 1) (n 1)) ((4 * i) + 2) (n 2)) ((4 * i) + 3) (n 3)), aI D a6 384 (mirA (mirA (mirA (mirA ea ((4 * i) + 0) (n 0)) ((4 * i) + 1) (n 1)) ((4 * i) + 2) (n 2)) ((4 * i) + 3) (n 3)), aI D ow 16 (owG (fun z => ln i - qt (8 * i + d - 1 - z)) (fun z => qn (8 * i + d - 1 - z)) d)] := by rw [← hfn]; exact hD
              refine lv_aload_n hx hb dX6_mirror_154 rfl (lv_at hl 0 rfl) ?_
              refine va_get (D := D) (ci := 6) (v := .ref a9) (C := RX6) (T := TX6) (N := 15) hx hb hts inlX6 hown hG.K hP 4 rfl rfl 10 (by decide) (hts _ mF_X6_34) (fun _ h9 => h9) rfl dX6_mirror_155 ?_
              refine lv_bipush (v := 8) hx hb dX6_mirror_158 (by decide) ?_
              refine lv_iload_n hx hb dX6_mirror_160 rfl (lv_at hl 1 rfl) ?_
              refine lv_imul hx hb dX6_mirror_161 ?_
              refine tpi (y := nI (8 * i)) (pk_mul 8 i) ?_
              refine lv_iload hx hb dX6_mirror_162 (lv_at hl 4 rfl) ?_
              refine lv_iadd hx hb dX6_mirror_164 ?_
              refine tpi (y := nI ((8 * i) + k)) (nI_add (8 * i) k) ?_
              refine lv_aload_n hx hb dX6_mirror_165 rfl (lv_at hl 3 rfl) ?_
              refine lv_iconst (v := 2) hx hb dX6_mirror_166 (by decide) ?_
              refine lv_iload hx hb dX6_mirror_167 (lv_at hl 4 rfl) ?_
              refine lv_imul hx hb dX6_mirror_169 ?_
              refine tpi (y := nI (2 * k)) (pk_mul 2 k) ?_
              refine lv_iconst (v := 1) hx hb dX6_mirror_170 (by decide) ?_
              refine lv_iadd hx hb dX6_mirror_171 ?_
              refine tpi (y := nI ((2 * k) + 1)) (nI_add (2 * k) 1) ?_
              refine ild (n := 16) (j := (2 * k) + 1) hx hb hG hP 9 rfl (by omega) (by omega) dX6_mirror_172 ?_
              refine tpi (y := qn (8 * i + d - 1 - k)) (owG_b (by omega)) ?_
              refine ist (n := 48) (j := (8 * i) + k) hx hb hG hP hD hS 3 rfl (by omega) (by omega) dX6_mirror_173 (fun H locs hP hD hS => ?_)
              have hfn : upd (rwF qn (8 * i) k (fun z => qn (8 * i + d - 1 - z))) ((8 * i) + k) (qn (8 * i + d - 1 - k)) = (rwF qn (8 * i) (k + 1) (fun z => qn (8 * i + d - 1 - z))) := rwF_step (f := qn) (g := (fun z => qn (8 * i + d - 1 - z)))
              have hP : va_P D cls [aI D a2 6 ln, aI D a7 6 qs, aI D a8 48 (rwF qt (8 * i) (k + 1) (fun z => ln i - qt (8 * i + d - 1 - z))), aI D a9 48 (rwF qn (8 * i) (k + 1) (fun z => qn (8 * i + d - 1 - z))), oO mo 6 [.int 0, .ref a1, .int (nI nC), .ref a2, .ref a3, .ref a4, .ref a5, .ref a6, .ref a7, .ref a8, .ref a9, .int (nI nS), .ref a10, .int (nI nM), .ref a11], aI D a3 24 ks, aI D a4 384 (mirT (mirT (mirT (mirT tm (ln i) ((4 * i) + 0) (n 0)) (ln i) ((4 * i) + 1) (n 1)) (ln i) ((4 * i) + 2) (n 2)) (ln i) ((4 * i) + 3) (n 3)), aI D a5 384 (mirW (mirW (mirW (mirW wo ((4 * i) + 0) (n 0)) ((4 * i) + 1) (n 1)) ((4 * i) + 2) (n 2)) ((4 * i) + 3) (n 3)), aI D a6 384 (mirA (mirA (mirA (mirA ea ((4 * i) + 0) (n 0)) ((4 * i) + 1) (n 1)) ((4 * i) + 2) (n 2)) ((4 * i) + 3) (n 3)), aI D ow 16 (owG (fun z => ln i - qt (8 * i + d - 1 - z)) (fun z => qn (8 * i + d - 1 - z)) d)] H := by rw [← hfn]; exact hP
              have hD : va_D A [aI D a2 6 ln, aI D a7 6 qs, aI D a8 48 (rwF qt (8 * i) (k + 1) (fun z => ln i - qt (8 * i + d - 1 - z))), aI D a9 48 (rwF qn (8 * i) (k + 1) (fun z => qn (8 * i + d - 1 - z))), oO mo 6 [.int 0, .ref a1, .int (nI nC), .ref a2, .ref a3, .ref a4, .ref a5, .ref a6, .ref a7, .ref a8, .ref a9, .int (nI nS), .ref a10, .int (nI nM), .ref a11], aI D a3 24 ks, aI D a4 384 (mirT (mirT (mirT (mirT tm (ln i) ((4 * i) + 0) (n 0)) (ln i) ((4 * i) + 1) (n 1)) (ln i) ((4 * i) + 2) (n 2)) (ln i) ((4 * i) + 3) (n 3)), aI D a5 384 (mirW (mirW (mirW (mirW wo ((4 * i) + 0) (n 0)) ((4 * i) + 1) (n 1)) ((4 * i) + 2) (n 2)) ((4 * i) + 3) (n 3)), aI D a6 384 (mirA (mirA (mirA (mirA ea ((4 * i) + 0) (n 0)) ((4 * i) + 1) (n 1)) ((4 * i) + 2) (n 2)) ((4 * i) + 3) (n 3)), aI D ow 16 (owG (fun z => ln i - qt (8 * i + d - 1 - z)) (fun z => qn (8 * i + d - 1 - z)) d)] := by rw [← hfn]; exact hD
              refine lv_iinc (v := nI (k + 1)) (lv' := [(4, .int (nI (k + 1))), (0, .ref mo), (1, .int (nI i)), (2, .int (nI d)), (3, .ref ow)]) hx hb dX6_mirror_174 hl (k := 4) rfl (nI_1 _) (by decide) rfl (fun ls hl => ?_)
              refine lv_goto (tgt := 130) hx hb dX6_mirror_177 (by decide) ?_
              exact ih130 (k + 1) (by omega) (by omega) _ _ _ hP hD hS (lv_sub hl [1, 2, 3, 4, 0] rfl)
        have hcv1 : (rwF qt (8 * i) 0 (fun z => ln i - qt (8 * i + d - 1 - z))) = qt := rwF_0
        have hP := Eq.mpr (congrArg (fun z9 => va_P D cls [aI D a2 6 ln, aI D a7 6 qs, aI D a8 48 z9, aI D a9 48 qn, oO mo 6 [.int 0, .ref a1, .int (nI nC), .ref a2, .ref a3, .ref a4, .ref a5, .ref a6, .ref a7, .ref a8, .ref a9, .int (nI nS), .ref a10, .int (nI nM), .ref a11], aI D a3 24 ks, aI D a4 384 (mirT (mirT (mirT (mirT tm (ln i) ((4 * i) + 0) (n 0)) (ln i) ((4 * i) + 1) (n 1)) (ln i) ((4 * i) + 2) (n 2)) (ln i) ((4 * i) + 3) (n 3)), aI D a5 384 (mirW (mirW (mirW (mirW wo ((4 * i) + 0) (n 0)) ((4 * i) + 1) (n 1)) ((4 * i) + 2) (n 2)) ((4 * i) + 3) (n 3)), aI D a6 384 (mirA (mirA (mirA (mirA ea ((4 * i) + 0) (n 0)) ((4 * i) + 1) (n 1)) ((4 * i) + 2) (n 2)) ((4 * i) + 3) (n 3)), aI D ow 16 (owG (fun z => ln i - qt (8 * i + d - 1 - z)) (fun z => qn (8 * i + d - 1 - z)) d)] H) hcv1) hP
        have hD := Eq.mpr (congrArg (fun z9 => va_D A [aI D a2 6 ln, aI D a7 6 qs, aI D a8 48 z9, aI D a9 48 qn, oO mo 6 [.int 0, .ref a1, .int (nI nC), .ref a2, .ref a3, .ref a4, .ref a5, .ref a6, .ref a7, .ref a8, .ref a9, .int (nI nS), .ref a10, .int (nI nM), .ref a11], aI D a3 24 ks, aI D a4 384 (mirT (mirT (mirT (mirT tm (ln i) ((4 * i) + 0) (n 0)) (ln i) ((4 * i) + 1) (n 1)) (ln i) ((4 * i) + 2) (n 2)) (ln i) ((4 * i) + 3) (n 3)), aI D a5 384 (mirW (mirW (mirW (mirW wo ((4 * i) + 0) (n 0)) ((4 * i) + 1) (n 1)) ((4 * i) + 2) (n 2)) ((4 * i) + 3) (n 3)), aI D a6 384 (mirA (mirA (mirA (mirA ea ((4 * i) + 0) (n 0)) ((4 * i) + 1) (n 1)) ((4 * i) + 2) (n 2)) ((4 * i) + 3) (n 3)), aI D ow 16 (owG (fun z => ln i - qt (8 * i + d - 1 - z)) (fun z => qn (8 * i + d - 1 - z)) d)]) hcv1) hD
        have hP : va_P D cls [aI D a2 6 ln, aI D a7 6 qs, aI D a8 48 (rwF qt (8 * i) 0 (fun z => ln i - qt (8 * i + d - 1 - z))), aI D a9 48 qn, oO mo 6 [.int 0, .ref a1, .int (nI nC), .ref a2, .ref a3, .ref a4, .ref a5, .ref a6, .ref a7, .ref a8, .ref a9, .int (nI nS), .ref a10, .int (nI nM), .ref a11], aI D a3 24 ks, aI D a4 384 (mirT (mirT (mirT (mirT tm (ln i) ((4 * i) + 0) (n 0)) (ln i) ((4 * i) + 1) (n 1)) (ln i) ((4 * i) + 2) (n 2)) (ln i) ((4 * i) + 3) (n 3)), aI D a5 384 (mirW (mirW (mirW (mirW wo ((4 * i) + 0) (n 0)) ((4 * i) + 1) (n 1)) ((4 * i) + 2) (n 2)) ((4 * i) + 3) (n 3)), aI D a6 384 (mirA (mirA (mirA (mirA ea ((4 * i) + 0) (n 0)) ((4 * i) + 1) (n 1)) ((4 * i) + 2) (n 2)) ((4 * i) + 3) (n 3)), aI D ow 16 (owG (fun z => ln i - qt (8 * i + d - 1 - z)) (fun z => qn (8 * i + d - 1 - z)) d)] H := hP
        have hD : va_D A [aI D a2 6 ln, aI D a7 6 qs, aI D a8 48 (rwF qt (8 * i) 0 (fun z => ln i - qt (8 * i + d - 1 - z))), aI D a9 48 qn, oO mo 6 [.int 0, .ref a1, .int (nI nC), .ref a2, .ref a3, .ref a4, .ref a5, .ref a6, .ref a7, .ref a8, .ref a9, .int (nI nS), .ref a10, .int (nI nM), .ref a11], aI D a3 24 ks, aI D a4 384 (mirT (mirT (mirT (mirT tm (ln i) ((4 * i) + 0) (n 0)) (ln i) ((4 * i) + 1) (n 1)) (ln i) ((4 * i) + 2) (n 2)) (ln i) ((4 * i) + 3) (n 3)), aI D a5 384 (mirW (mirW (mirW (mirW wo ((4 * i) + 0) (n 0)) ((4 * i) + 1) (n 1)) ((4 * i) + 2) (n 2)) ((4 * i) + 3) (n 3)), aI D a6 384 (mirA (mirA (mirA (mirA ea ((4 * i) + 0) (n 0)) ((4 * i) + 1) (n 1)) ((4 * i) + 2) (n 2)) ((4 * i) + 3) (n 3)), aI D ow 16 (owG (fun z => ln i - qt (8 * i + d - 1 - z)) (fun z => qn (8 * i + d - 1 - z)) d)] := hD
        have hcv2 : (rwF qn (8 * i) 0 (fun z => qn (8 * i + d - 1 - z))) = qn := rwF_0
        have hP := Eq.mpr (congrArg (fun z9 => va_P D cls [aI D a2 6 ln, aI D a7 6 qs, aI D a8 48 (rwF qt (8 * i) 0 (fun z => ln i - qt (8 * i + d - 1 - z))), aI D a9 48 z9, oO mo 6 [.int 0, .ref a1, .int (nI nC), .ref a2, .ref a3, .ref a4, .ref a5, .ref a6, .ref a7, .ref a8, .ref a9, .int (nI nS), .ref a10, .int (nI nM), .ref a11], aI D a3 24 ks, aI D a4 384 (mirT (mirT (mirT (mirT tm (ln i) ((4 * i) + 0) (n 0)) (ln i) ((4 * i) + 1) (n 1)) (ln i) ((4 * i) + 2) (n 2)) (ln i) ((4 * i) + 3) (n 3)), aI D a5 384 (mirW (mirW (mirW (mirW wo ((4 * i) + 0) (n 0)) ((4 * i) + 1) (n 1)) ((4 * i) + 2) (n 2)) ((4 * i) + 3) (n 3)), aI D a6 384 (mirA (mirA (mirA (mirA ea ((4 * i) + 0) (n 0)) ((4 * i) + 1) (n 1)) ((4 * i) + 2) (n 2)) ((4 * i) + 3) (n 3)), aI D ow 16 (owG (fun z => ln i - qt (8 * i + d - 1 - z)) (fun z => qn (8 * i + d - 1 - z)) d)] H) hcv2) hP
        have hD := Eq.mpr (congrArg (fun z9 => va_D A [aI D a2 6 ln, aI D a7 6 qs, aI D a8 48 (rwF qt (8 * i) 0 (fun z => ln i - qt (8 * i + d - 1 - z))), aI D a9 48 z9, oO mo 6 [.int 0, .ref a1, .int (nI nC), .ref a2, .ref a3, .ref a4, .ref a5, .ref a6, .ref a7, .ref a8, .ref a9, .int (nI nS), .ref a10, .int (nI nM), .ref a11], aI D a3 24 ks, aI D a4 384 (mirT (mirT (mirT (mirT tm (ln i) ((4 * i) + 0) (n 0)) (ln i) ((4 * i) + 1) (n 1)) (ln i) ((4 * i) + 2) (n 2)) (ln i) ((4 * i) + 3) (n 3)), aI D a5 384 (mirW (mirW (mirW (mirW wo ((4 * i) + 0) (n 0)) ((4 * i) + 1) (n 1)) ((4 * i) + 2) (n 2)) ((4 * i) + 3) (n 3)), aI D a6 384 (mirA (mirA (mirA (mirA ea ((4 * i) + 0) (n 0)) ((4 * i) + 1) (n 1)) ((4 * i) + 2) (n 2)) ((4 * i) + 3) (n 3)), aI D ow 16 (owG (fun z => ln i - qt (8 * i + d - 1 - z)) (fun z => qn (8 * i + d - 1 - z)) d)]) hcv2) hD
        have hP : va_P D cls [aI D a2 6 ln, aI D a7 6 qs, aI D a8 48 (rwF qt (8 * i) 0 (fun z => ln i - qt (8 * i + d - 1 - z))), aI D a9 48 (rwF qn (8 * i) 0 (fun z => qn (8 * i + d - 1 - z))), oO mo 6 [.int 0, .ref a1, .int (nI nC), .ref a2, .ref a3, .ref a4, .ref a5, .ref a6, .ref a7, .ref a8, .ref a9, .int (nI nS), .ref a10, .int (nI nM), .ref a11], aI D a3 24 ks, aI D a4 384 (mirT (mirT (mirT (mirT tm (ln i) ((4 * i) + 0) (n 0)) (ln i) ((4 * i) + 1) (n 1)) (ln i) ((4 * i) + 2) (n 2)) (ln i) ((4 * i) + 3) (n 3)), aI D a5 384 (mirW (mirW (mirW (mirW wo ((4 * i) + 0) (n 0)) ((4 * i) + 1) (n 1)) ((4 * i) + 2) (n 2)) ((4 * i) + 3) (n 3)), aI D a6 384 (mirA (mirA (mirA (mirA ea ((4 * i) + 0) (n 0)) ((4 * i) + 1) (n 1)) ((4 * i) + 2) (n 2)) ((4 * i) + 3) (n 3)), aI D ow 16 (owG (fun z => ln i - qt (8 * i + d - 1 - z)) (fun z => qn (8 * i + d - 1 - z)) d)] H := hP
        have hD : va_D A [aI D a2 6 ln, aI D a7 6 qs, aI D a8 48 (rwF qt (8 * i) 0 (fun z => ln i - qt (8 * i + d - 1 - z))), aI D a9 48 (rwF qn (8 * i) 0 (fun z => qn (8 * i + d - 1 - z))), oO mo 6 [.int 0, .ref a1, .int (nI nC), .ref a2, .ref a3, .ref a4, .ref a5, .ref a6, .ref a7, .ref a8, .ref a9, .int (nI nS), .ref a10, .int (nI nM), .ref a11], aI D a3 24 ks, aI D a4 384 (mirT (mirT (mirT (mirT tm (ln i) ((4 * i) + 0) (n 0)) (ln i) ((4 * i) + 1) (n 1)) (ln i) ((4 * i) + 2) (n 2)) (ln i) ((4 * i) + 3) (n 3)), aI D a5 384 (mirW (mirW (mirW (mirW wo ((4 * i) + 0) (n 0)) ((4 * i) + 1) (n 1)) ((4 * i) + 2) (n 2)) ((4 * i) + 3) (n 3)), aI D a6 384 (mirA (mirA (mirA (mirA ea ((4 * i) + 0) (n 0)) ((4 * i) + 1) (n 1)) ((4 * i) + 2) (n 2)) ((4 * i) + 3) (n 3)), aI D ow 16 (owG (fun z => ln i - qt (8 * i + d - 1 - z)) (fun z => qn (8 * i + d - 1 - z)) d)] := hD
        exact loop130 _ 0 (Nat.lt_succ_self _) (by omega) _ _ _ hP hD hS (lv_sub hl [1, 2, 3, 4, 0] rfl)
      · skip
        have n65 := mt (nI_leI (a := d) (b := k) (by omega) (by omega)).mpr c65
        refine lv_aload_n hx hb dX6_mirror_68 rfl (lv_at hl 3 rfl) ?_
        refine lv_iconst (v := 2) hx hb dX6_mirror_69 (by decide) ?_
        refine lv_iload hx hb dX6_mirror_70 (lv_at hl 4 rfl) ?_
        refine lv_imul hx hb dX6_mirror_72 ?_
        refine tpi (y := nI (2 * k)) (pk_mul 2 k) ?_
        refine lv_aload_n hx hb dX6_mirror_73 rfl (lv_at hl 0 rfl) ?_
        refine va_get (D := D) (ci := 6) (v := .ref a2) (C := RX6) (T := TX6) (N := 15) hx hb hts inlX6 hown hG.K hP 4 rfl rfl 3 (by decide) (hts _ mF_X6_13) (fun _ h9 => h9) rfl dX6_mirror_74 ?_
        refine lv_iload_n hx hb dX6_mirror_77 rfl (lv_at hl 1 rfl) ?_
        refine ild (n := 6) (j := i) hx hb hG hP 0 rfl (by omega) (by omega) dX6_mirror_78 ?_
        refine lv_aload_n hx hb dX6_mirror_79 rfl (lv_at hl 0 rfl) ?_
        refine va_get (D := D) (ci := 6) (v := .ref a8) (C := RX6) (T := TX6) (N := 15) hx hb hts inlX6 hown hG.K hP 4 rfl rfl 9 (by decide) (hts _ mF_X6_31) (fun _ h9 => h9) rfl dX6_mirror_80 ?_
        refine lv_bipush (v := 8) hx hb dX6_mirror_83 (by decide) ?_
        refine lv_iload_n hx hb dX6_mirror_85 rfl (lv_at hl 1 rfl) ?_
        refine lv_imul hx hb dX6_mirror_86 ?_
        refine tpi (y := nI (8 * i)) (pk_mul 8 i) ?_
        refine lv_iload_n hx hb dX6_mirror_87 rfl (lv_at hl 2 rfl) ?_
        refine lv_iadd hx hb dX6_mirror_88 ?_
        refine tpi (y := nI ((8 * i) + d)) (nI_add (8 * i) d) ?_
        refine lv_iconst (v := 1) hx hb dX6_mirror_89 (by decide) ?_
        refine lv_isub hx hb dX6_mirror_90 ?_
        refine tpi (y := nI (((8 * i) + d) - 1)) (pk_sub (a := ((8 * i) + d)) (b := 1) (by omega)) ?_
        refine lv_iload hx hb dX6_mirror_91 (lv_at hl 4 rfl) ?_
        refine lv_isub hx hb dX6_mirror_93 ?_
        refine tpi (y := nI ((((8 * i) + d) - 1) - k)) (pk_sub (a := (((8 * i) + d) - 1)) (b := k) (by omega)) ?_
        refine ild (n := 48) (j := (((8 * i) + d) - 1) - k) hx hb hG hP 2 rfl (by omega) (by omega) dX6_mirror_94 ?_
        refine lv_isub hx hb dX6_mirror_95 ?_
        refine ist (n := 16) (j := 2 * k) hx hb hG hP hD hS 9 rfl (by omega) (by omega) dX6_mirror_96 (fun H locs hP hD hS => ?_)
        have hP : va_P D cls [aI D a2 6 ln, aI D a7 6 qs, aI D a8 48 qt, aI D a9 48 qn, oO mo 6 [.int 0, .ref a1, .int (nI nC), .ref a2, .ref a3, .ref a4, .ref a5, .ref a6, .ref a7, .ref a8, .ref a9, .int (nI nS), .ref a10, .int (nI nM), .ref a11], aI D a3 24 ks, aI D a4 384 (mirT (mirT (mirT (mirT tm (ln i) ((4 * i) + 0) (n 0)) (ln i) ((4 * i) + 1) (n 1)) (ln i) ((4 * i) + 2) (n 2)) (ln i) ((4 * i) + 3) (n 3)), aI D a5 384 (mirW (mirW (mirW (mirW wo ((4 * i) + 0) (n 0)) ((4 * i) + 1) (n 1)) ((4 * i) + 2) (n 2)) ((4 * i) + 3) (n 3)), aI D a6 384 (mirA (mirA (mirA (mirA ea ((4 * i) + 0) (n 0)) ((4 * i) + 1) (n 1)) ((4 * i) + 2) (n 2)) ((4 * i) + 3) (n 3)), aI D ow 16 (upd (owG (fun z => ln i - qt (8 * i + d - 1 - z)) (fun z => qn (8 * i + d - 1 - z)) k) (2 * k) ((ln i) - (qt ((((8 * i) + d) - 1) - k))))] H := hP
        have hD : va_D A [aI D a2 6 ln, aI D a7 6 qs, aI D a8 48 qt, aI D a9 48 qn, oO mo 6 [.int 0, .ref a1, .int (nI nC), .ref a2, .ref a3, .ref a4, .ref a5, .ref a6, .ref a7, .ref a8, .ref a9, .int (nI nS), .ref a10, .int (nI nM), .ref a11], aI D a3 24 ks, aI D a4 384 (mirT (mirT (mirT (mirT tm (ln i) ((4 * i) + 0) (n 0)) (ln i) ((4 * i) + 1) (n 1)) (ln i) ((4 * i) + 2) (n 2)) (ln i) ((4 * i) + 3) (n 3)), aI D a5 384 (mirW (mirW (mirW (mirW wo ((4 * i) + 0) (n 0)) ((4 * i) + 1) (n 1)) ((4 * i) + 2) (n 2)) ((4 * i) + 3) (n 3)), aI D a6 384 (mirA (mirA (mirA (mirA ea ((4 * i) + 0) (n 0)) ((4 * i) + 1) (n 1)) ((4 * i) + 2) (n 2)) ((4 * i) + 3) (n 3)), aI D ow 16 (upd (owG (fun z => ln i - qt (8 * i + d - 1 - z)) (fun z => qn (8 * i + d - 1 - z)) k) (2 * k) ((ln i) - (qt ((((8 * i) + d) - 1) - k))))] := hD
        refine lv_aload_n hx hb dX6_mirror_97 rfl (lv_at hl 3 rfl) ?_
        refine lv_iconst (v := 2) hx hb dX6_mirror_98 (by decide) ?_
        refine lv_iload hx hb dX6_mirror_99 (lv_at hl 4 rfl) ?_
        refine lv_imul hx hb dX6_mirror_101 ?_
        refine tpi (y := nI (2 * k)) (pk_mul 2 k) ?_
        refine lv_iconst (v := 1) hx hb dX6_mirror_102 (by decide) ?_
        refine lv_iadd hx hb dX6_mirror_103 ?_
        refine tpi (y := nI ((2 * k) + 1)) (nI_add (2 * k) 1) ?_
        refine lv_aload_n hx hb dX6_mirror_104 rfl (lv_at hl 0 rfl) ?_
        refine va_get (D := D) (ci := 6) (v := .ref a9) (C := RX6) (T := TX6) (N := 15) hx hb hts inlX6 hown hG.K hP 4 rfl rfl 10 (by decide) (hts _ mF_X6_34) (fun _ h9 => h9) rfl dX6_mirror_105 ?_
        refine lv_bipush (v := 8) hx hb dX6_mirror_108 (by decide) ?_
        refine lv_iload_n hx hb dX6_mirror_110 rfl (lv_at hl 1 rfl) ?_
        refine lv_imul hx hb dX6_mirror_111 ?_
        refine tpi (y := nI (8 * i)) (pk_mul 8 i) ?_
        refine lv_iload_n hx hb dX6_mirror_112 rfl (lv_at hl 2 rfl) ?_
        refine lv_iadd hx hb dX6_mirror_113 ?_
        refine tpi (y := nI ((8 * i) + d)) (nI_add (8 * i) d) ?_
        refine lv_iconst (v := 1) hx hb dX6_mirror_114 (by decide) ?_
        refine lv_isub hx hb dX6_mirror_115 ?_
        refine tpi (y := nI (((8 * i) + d) - 1)) (pk_sub (a := ((8 * i) + d)) (b := 1) (by omega)) ?_
        refine lv_iload hx hb dX6_mirror_116 (lv_at hl 4 rfl) ?_
        refine lv_isub hx hb dX6_mirror_118 ?_
        refine tpi (y := nI ((((8 * i) + d) - 1) - k)) (pk_sub (a := (((8 * i) + d) - 1)) (b := k) (by omega)) ?_
        refine ild (n := 48) (j := (((8 * i) + d) - 1) - k) hx hb hG hP 3 rfl (by omega) (by omega) dX6_mirror_119 ?_
        refine ist (n := 16) (j := (2 * k) + 1) hx hb hG hP hD hS 9 rfl (by omega) (by omega) dX6_mirror_120 (fun H locs hP hD hS => ?_)
        have hfn : upd (upd (owG (fun z => ln i - qt (8 * i + d - 1 - z)) (fun z => qn (8 * i + d - 1 - z)) k) (2 * k) ((ln i) - (qt ((((8 * i) + d) - 1) - k)))) ((2 * k) + 1) (qn ((((8 * i) + d) - 1) - k)) = (owG (fun z => ln i - qt (8 * i + d - 1 - z)) (fun z => qn (8 * i + d - 1 - z)) (k + 1)) := owG_step
        have hP : va_P D cls [aI D a2 6 ln, aI D a7 6 qs, aI D a8 48 qt, aI D a9 48 qn, oO mo 6 [.int 0, .ref a1, .int (nI nC), .ref a2, .ref a3, .ref a4, .ref a5, .ref a6, .ref a7, .ref a8, .ref a9, .int (nI nS), .ref a10, .int (nI nM), .ref a11], aI D a3 24 ks, aI D a4 384 (mirT (mirT (mirT (mirT tm (ln i) ((4 * i) + 0) (n 0)) (ln i) ((4 * i) + 1) (n 1)) (ln i) ((4 * i) + 2) (n 2)) (ln i) ((4 * i) + 3) (n 3)), aI D a5 384 (mirW (mirW (mirW (mirW wo ((4 * i) + 0) (n 0)) ((4 * i) + 1) (n 1)) ((4 * i) + 2) (n 2)) ((4 * i) + 3) (n 3)), aI D a6 384 (mirA (mirA (mirA (mirA ea ((4 * i) + 0) (n 0)) ((4 * i) + 1) (n 1)) ((4 * i) + 2) (n 2)) ((4 * i) + 3) (n 3)), aI D ow 16 (owG (fun z => ln i - qt (8 * i + d - 1 - z)) (fun z => qn (8 * i + d - 1 - z)) (k + 1))] H := by rw [← hfn]; exact hP
        have hD : va_D A [aI D a2 6 ln, aI D a7 6 qs, aI D a8 48 qt, aI D a9 48 qn, oO mo 6 [.int 0, .ref a1, .int (nI nC), .ref a2, .ref a3, .ref a4, .ref a5, .ref a6, .ref a7, .ref a8, .ref a9, .int (nI nS), .ref a10, .int (nI nM), .ref a11], aI D a3 24 ks, aI D a4 384 (mirT (mirT (mirT (mirT tm (ln i) ((4 * i) + 0) (n 0)) (ln i) ((4 * i) + 1) (n 1)) (ln i) ((4 * i) + 2) (n 2)) (ln i) ((4 * i) + 3) (n 3)), aI D a5 384 (mirW (mirW (mirW (mirW wo ((4 * i) + 0) (n 0)) ((4 * i) + 1) (n 1)) ((4 * i) + 2) (n 2)) ((4 * i) + 3) (n 3)), aI D a6 384 (mirA (mirA (mirA (mirA ea ((4 * i) + 0) (n 0)) ((4 * i) + 1) (n 1)) ((4 * i) + 2) (n 2)) ((4 * i) + 3) (n 3)), aI D ow 16 (owG (fun z => ln i - qt (8 * i + d - 1 - z)) (fun z => qn (8 * i + d - 1 - z)) (k + 1))] := by rw [← hfn]; exact hD
        refine lv_iinc (v := nI (k + 1)) (lv' := [(4, .int (nI (k + 1))), (0, .ref mo), (1, .int (nI i)), (2, .int (nI d)), (3, .ref ow)]) hx hb dX6_mirror_121 hl (k := 4) rfl (nI_1 _) (by decide) rfl (fun ls hl => ?_)
        refine lv_goto (tgt := 62) hx hb dX6_mirror_124 (by decide) ?_
        exact ih62 (k + 1) (by omega) (by omega) _ _ _ hP hD hS (lv_sub hl [1, 2, 3, 4, 0] rfl)
  have hcv3 : (owG (fun z => ln i - qt (8 * i + d - 1 - z)) (fun z => qn (8 * i + d - 1 - z)) 0) = (fun _ => 0) := owG_0
  have hP := Eq.mpr (congrArg (fun z9 => va_P D cls [aI D a2 6 ln, aI D a7 6 qs, aI D a8 48 qt, aI D a9 48 qn, oO mo 6 [.int 0, .ref a1, .int (nI nC), .ref a2, .ref a3, .ref a4, .ref a5, .ref a6, .ref a7, .ref a8, .ref a9, .int (nI nS), .ref a10, .int (nI nM), .ref a11], aI D a3 24 ks, aI D a4 384 (mirT (mirT (mirT (mirT tm (ln i) ((4 * i) + 0) (n 0)) (ln i) ((4 * i) + 1) (n 1)) (ln i) ((4 * i) + 2) (n 2)) (ln i) ((4 * i) + 3) (n 3)), aI D a5 384 (mirW (mirW (mirW (mirW wo ((4 * i) + 0) (n 0)) ((4 * i) + 1) (n 1)) ((4 * i) + 2) (n 2)) ((4 * i) + 3) (n 3)), aI D a6 384 (mirA (mirA (mirA (mirA ea ((4 * i) + 0) (n 0)) ((4 * i) + 1) (n 1)) ((4 * i) + 2) (n 2)) ((4 * i) + 3) (n 3)), aI D ow 16 z9] H) hcv3) hP
  have hD := Eq.mpr (congrArg (fun z9 => va_D A [aI D a2 6 ln, aI D a7 6 qs, aI D a8 48 qt, aI D a9 48 qn, oO mo 6 [.int 0, .ref a1, .int (nI nC), .ref a2, .ref a3, .ref a4, .ref a5, .ref a6, .ref a7, .ref a8, .ref a9, .int (nI nS), .ref a10, .int (nI nM), .ref a11], aI D a3 24 ks, aI D a4 384 (mirT (mirT (mirT (mirT tm (ln i) ((4 * i) + 0) (n 0)) (ln i) ((4 * i) + 1) (n 1)) (ln i) ((4 * i) + 2) (n 2)) (ln i) ((4 * i) + 3) (n 3)), aI D a5 384 (mirW (mirW (mirW (mirW wo ((4 * i) + 0) (n 0)) ((4 * i) + 1) (n 1)) ((4 * i) + 2) (n 2)) ((4 * i) + 3) (n 3)), aI D a6 384 (mirA (mirA (mirA (mirA ea ((4 * i) + 0) (n 0)) ((4 * i) + 1) (n 1)) ((4 * i) + 2) (n 2)) ((4 * i) + 3) (n 3)), aI D ow 16 z9]) hcv3) hD
  have hP : va_P D cls [aI D a2 6 ln, aI D a7 6 qs, aI D a8 48 qt, aI D a9 48 qn, oO mo 6 [.int 0, .ref a1, .int (nI nC), .ref a2, .ref a3, .ref a4, .ref a5, .ref a6, .ref a7, .ref a8, .ref a9, .int (nI nS), .ref a10, .int (nI nM), .ref a11], aI D a3 24 ks, aI D a4 384 (mirT (mirT (mirT (mirT tm (ln i) ((4 * i) + 0) (n 0)) (ln i) ((4 * i) + 1) (n 1)) (ln i) ((4 * i) + 2) (n 2)) (ln i) ((4 * i) + 3) (n 3)), aI D a5 384 (mirW (mirW (mirW (mirW wo ((4 * i) + 0) (n 0)) ((4 * i) + 1) (n 1)) ((4 * i) + 2) (n 2)) ((4 * i) + 3) (n 3)), aI D a6 384 (mirA (mirA (mirA (mirA ea ((4 * i) + 0) (n 0)) ((4 * i) + 1) (n 1)) ((4 * i) + 2) (n 2)) ((4 * i) + 3) (n 3)), aI D ow 16 (owG (fun z => ln i - qt (8 * i + d - 1 - z)) (fun z => qn (8 * i + d - 1 - z)) 0)] H := hP
  have hD : va_D A [aI D a2 6 ln, aI D a7 6 qs, aI D a8 48 qt, aI D a9 48 qn, oO mo 6 [.int 0, .ref a1, .int (nI nC), .ref a2, .ref a3, .ref a4, .ref a5, .ref a6, .ref a7, .ref a8, .ref a9, .int (nI nS), .ref a10, .int (nI nM), .ref a11], aI D a3 24 ks, aI D a4 384 (mirT (mirT (mirT (mirT tm (ln i) ((4 * i) + 0) (n 0)) (ln i) ((4 * i) + 1) (n 1)) (ln i) ((4 * i) + 2) (n 2)) (ln i) ((4 * i) + 3) (n 3)), aI D a5 384 (mirW (mirW (mirW (mirW wo ((4 * i) + 0) (n 0)) ((4 * i) + 1) (n 1)) ((4 * i) + 2) (n 2)) ((4 * i) + 3) (n 3)), aI D a6 384 (mirA (mirA (mirA (mirA ea ((4 * i) + 0) (n 0)) ((4 * i) + 1) (n 1)) ((4 * i) + 2) (n 2)) ((4 * i) + 3) (n 3)), aI D ow 16 (owG (fun z => ln i - qt (8 * i + d - 1 - z)) (fun z => qn (8 * i + d - 1 - z)) 0)] := hD
  exact loop62 _ 0 (Nat.lt_succ_self _) (by omega) _ _ _ hP hD hS (lv_sub hl [3, 4, 2, 1, 0] rfl)
