theorem nin_of {x : Int32} {n : Nat} (hn : n < 2 ^ 30) (h : x < 0 ∨ nI n ≤ x) : ¬ (0 ≤ x ∧ x ≤ nI n - 1) := by
  have e : (nI n - 1).toInt = (n : Int) - 1 := by
    rw [fb_subI (by rw [nI_toInt (by omega)]; have : (1 : Int32).toInt = 1 := by decide
                    omega) (by rw [nI_toInt (by omega)]; have : (1 : Int32).toInt = 1 := by decide
                               omega), nI_toInt (by omega)]
    rfl
  rw [fa_lt, fa_le, nI_toInt (by omega), show (0 : Int32).toInt = 0 by decide] at h
  rw [fa_le, fa_le, e, show (0 : Int32).toInt = 0 by decide]
  omega
theorem mrnd (a b : Int64) : (fdL (2 * a + b) (2 * b)).toInt32 = rnd a b := rfl
set_option maxHeartbeats 400000 in
set_option maxRecDepth 100000 in
theorem m_isIn (l : Launch) (D : va_G) {x a b : Int32}  : Met l yX6_isIn (ws_ yX6_isIn cX6_isIn 3 (some .boolean)) ({ frames := 0, cells := 0, slots := 0, locals := 0 } : Room) (va_Pc [.int x, .int a, .int b] (PW D [])) (vp_Si (fun v => (v = 1 ∧ (a ≤ x ∧ x ≤ b)) ∨ (v = 0 ∧ ¬ (a ≤ x ∧ x ≤ b)))) 0 0 (fun _ => False) := by
  refine Met.ofW (cc := cX6_isIn) (maxL := 3) (ret := (some .boolean)) (by decide) rfl ?_
  intro p e s m args below meth c s₁ B hml hv
  obtain ⟨rfl, hG, hP⟩ := hv
  have hx := B.exec
  have hb := B.bytes
  have hr := B.returns
  have hts : ∀ w ∈ wsL_law, w.before _ s = true := fun w h => atoms_spec (ws := (ws_ yX6_isIn cX6_isIn 3 (some .boolean))) B.pre w (List.mem_cons_of_mem _ h)
  have hown : s.vm.findClass RX6 = some m.cls := findClass_of_methodNamed B.named
  have hlk := B.notSynchronized
  have hC : CallFix p m c cX6_isIn 3 s _ wsL_law RX6 := ⟨hx, hb, hml, hown, hts⟩
  have hl := lv_entry ([.int x, .int a, .int b]) (n := 3) (Nat.le_of_ble_eq_true rfl)
  rw [lg_entry_eq]
  generalize (lg_sl ([.int x, .int a, .int b]) ++ List.replicate (3 - (lg_sl ([.int x, .int a, .int b])).length) Slot.unset).toArray = ls at hl ⊢
  have hl : lv_has ls 3 [(0, .int x), (1, .int a), (2, .int b)] := hl
  refine lv_iload_n hx hb dX6_isIn_0 rfl (lv_at hl 0 rfl) ?_
  refine lv_iload_n hx hb dX6_isIn_1 rfl (lv_at hl 1 rfl) ?_
  refine lv_icmp_lt (tgt := 14) hx hb dX6_isIn_2 (by decide) (fun c2 => ?_) (fun c2 => ?_)
  · skip
    refine lv_iconst (v := 0) hx hb dX6_isIn_14 (by decide) ?_
    refine Rz hx hb hr hlk (by first | rfl | decide) ?_ dX6_isIn_15
    first
    | exact Or.inl ⟨rfl, Int32.not_lt.mp c2, Int32.not_lt.mp c7⟩
    | exact Or.inr ⟨rfl, fun h => absurd c2 (Int32.not_lt.mpr h.1)⟩
    | exact Or.inr ⟨rfl, fun h => absurd c7 (Int32.not_lt.mpr h.2)⟩
  · skip
    refine lv_iload_n hx hb dX6_isIn_5 rfl (lv_at hl 0 rfl) ?_
    refine lv_iload_n hx hb dX6_isIn_6 rfl (lv_at hl 2 rfl) ?_
    refine lv_icmp_gt (tgt := 14) hx hb dX6_isIn_7 (by decide) (fun c7 => ?_) (fun c7 => ?_)
    · skip
      refine lv_iconst (v := 0) hx hb dX6_isIn_14 (by decide) ?_
      refine Rz hx hb hr hlk (by first | rfl | decide) ?_ dX6_isIn_15
      first
      | exact Or.inl ⟨rfl, Int32.not_lt.mp c2, Int32.not_lt.mp c7⟩
      | exact Or.inr ⟨rfl, fun h => absurd c2 (Int32.not_lt.mpr h.1)⟩
      | exact Or.inr ⟨rfl, fun h => absurd c7 (Int32.not_lt.mpr h.2)⟩
    · skip
      refine lv_iconst (v := 1) hx hb dX6_isIn_10 (by decide) ?_
      refine lv_goto (tgt := 15) hx hb dX6_isIn_11 (by decide) ?_
      refine Rz hx hb hr hlk (by first | rfl | decide) ?_ dX6_isIn_15
      first
      | exact Or.inl ⟨rfl, Int32.not_lt.mp c2, Int32.not_lt.mp c7⟩
      | exact Or.inr ⟨rfl, fun h => absurd c2 (Int32.not_lt.mpr h.1)⟩
      | exact Or.inr ⟨rfl, fun h => absurd c7 (Int32.not_lt.mpr h.2)⟩
set_option maxHeartbeats 400000 in
set_option maxRecDepth 100000 in
theorem m_no (l : Launch) (D : va_G) {mo a1 a2 a3 a4 a5 a6 a7 a8 a9 a10 a11 nC nS nM : Nat} {th : Int32} {x : Int32} (hz0 : Nat)  : Met l yX6_no (ws_ yX6_no cX6_no 2 (some .int)) ({ frames := 0, cells := 0, slots := 0, locals := 0 } : Room) (va_Pc [.ref mo, .int x] (SW D [oO mo 6 [.int th, .ref a1, .int (nI nC), .ref a2, .ref a3, .ref a4, .ref a5, .ref a6, .ref a7, .ref a8, .ref a9, .int (nI nS), .ref a10, .int (nI nM), .ref a11]] hz0)) (va_Qi (fun v _ => v = 0) (AT D (va_A [oO mo 6 [.int th, .ref a1, .int (nI nC), .ref a2, .ref a3, .ref a4, .ref a5, .ref a6, .ref a7, .ref a8, .ref a9, .int (nI nS), .ref a10, .int (nI nM), .ref a11]] hz0) (fun _ : Unit => [oO mo 6 [.int x, .ref a1, .int (nI nC), .ref a2, .ref a3, .ref a4, .ref a5, .ref a6, .ref a7, .ref a8, .ref a9, .int (nI nS), .ref a10, .int (nI nM), .ref a11]])) (va_A [oO mo 6 [.int th, .ref a1, .int (nI nC), .ref a2, .ref a3, .ref a4, .ref a5, .ref a6, .ref a7, .ref a8, .ref a9, .int (nI nS), .ref a10, .int (nI nM), .ref a11]] hz0)) 0 0 (va_A [oO mo 6 [.int th, .ref a1, .int (nI nC), .ref a2, .ref a3, .ref a4, .ref a5, .ref a6, .ref a7, .ref a8, .ref a9, .int (nI nS), .ref a10, .int (nI nM), .ref a11]] hz0) := by
  refine Met.ofW (cc := cX6_no) (maxL := 2) (ret := (some .int)) (by decide) rfl ?_
  intro p e s m args below meth c s₁ B hml hv
  obtain ⟨rfl, hsz, hG, hP, hD0⟩ := hv
  have hx := B.exec
  have hb := B.bytes
  have hr := B.returns
  have hts : ∀ w ∈ wsL_law, w.before _ s = true := fun w h => atoms_spec (ws := (ws_ yX6_no cX6_no 2 (some .int))) B.pre w (List.mem_cons_of_mem _ h)
  have hown : s.vm.findClass RX6 = some m.cls := findClass_of_methodNamed B.named
  have hlk := B.notSynchronized
  have hC : CallFix p m c cX6_no 2 s _ wsL_law RX6 := ⟨hx, hb, hml, hown, hts⟩
  subst hsz
  have hD := hD0.self (sz := s.heap.size)
  generalize hAe : va_A [oO mo 6 [.int th, .ref a1, .int (nI nC), .ref a2, .ref a3, .ref a4, .ref a5, .ref a6, .ref a7, .ref a8, .ref a9, .int (nI nS), .ref a10, .int (nI nM), .ref a11]] s.heap.size = A at hD ⊢
  have hA : ∀ q : Nat, s.heap.size ≤ q → A q := fun q h => by rw [← hAe]; exact Or.inr h
  have hS : va_S A s.heap s.heap [] := va_S.rf
  obtain ⟨H, hHe⟩ : ∃ H, H = s.heap := ⟨_, rfl⟩
  rw [← hHe] at hP
  have hS : va_S A s.heap H [] := by rw [hHe]; exact hS
  have hl := lv_entry ([.ref mo, .int x]) (n := 2) (Nat.le_of_ble_eq_true rfl)
  rw [lg_entry_eq]
  generalize (lg_sl ([.ref mo, .int x]) ++ List.replicate (2 - (lg_sl ([.ref mo, .int x])).length) Slot.unset).toArray = ls at hl ⊢
  have hl : lv_has ls 2 [(0, .ref mo), (1, .int x)] := hl
  rw [← hHe]
  refine lv_aload_n hx hb dX6_no_0 rfl (lv_at hl 0 rfl) ?_
  refine lv_iload_n hx hb dX6_no_1 rfl (lv_at hl 1 rfl) ?_
  refine va_put (D := D) (ci := 6) (v := .int x) (ty := .int) (C := RX6) (T := TX6) (N := 15) hx hb hts inlX6 tyX6 tyX6_ok nmX6 hown hG.K hP hD hS 0 rfl rfl 0 (by decide) (hts _ mF_X6_43) (fun _ h9 => h9) rfl (by decide +kernel) rfl rfl (Nat.le_of_ble_eq_true rfl) dX6_no_2 (fun H locs hP hD hS => ?_)
  have hP : va_P D cls [oO mo 6 [.int x, .ref a1, .int (nI nC), .ref a2, .ref a3, .ref a4, .ref a5, .ref a6, .ref a7, .ref a8, .ref a9, .int (nI nS), .ref a10, .int (nI nM), .ref a11]] H := hP
  have hD : va_D A [oO mo 6 [.int x, .ref a1, .int (nI nC), .ref a2, .ref a3, .ref a4, .ref a5, .ref a6, .ref a7, .ref a8, .ref a9, .int (nI nS), .ref a10, .int (nI nM), .ref a11]] := hD
  refine lv_iconst (v := 0) hx hb dX6_no_5 (by decide) ?_
  refine Wi () hx hb hr hlk ?_ hP hD hS (Nat.le_of_ble_eq_true rfl) (by first | exact Nat.le_of_ble_eq_true rfl | exact Nat.le_of_eq (Nat.zero_add _)) dX6_no_6
  exact rfl
set_option maxHeartbeats 400000 in
set_option maxRecDepth 100000 in
theorem m_thrown (l : Launch) (D : va_G) {mo a1 a2 a3 a4 a5 a6 a7 a8 a9 a10 a11 nC nS nM : Nat} {th : Int32}  : Met l yX6_thrown (ws_ yX6_thrown cX6_thrown 1 (some .int)) ({ frames := 0, cells := 0, slots := 0, locals := 0 } : Room) (va_Pc [.ref mo] (PW D [oO mo 6 [.int th, .ref a1, .int (nI nC), .ref a2, .ref a3, .ref a4, .ref a5, .ref a6, .ref a7, .ref a8, .ref a9, .int (nI nS), .ref a10, .int (nI nM), .ref a11]])) (vp_Si (fun v => v = th)) 0 0 (fun _ => False) := by
  refine Met.ofW (cc := cX6_thrown) (maxL := 1) (ret := (some .int)) (by decide) rfl ?_
  intro p e s m args below meth c s₁ B hml hv
  obtain ⟨rfl, hG, hP⟩ := hv
  have hx := B.exec
  have hb := B.bytes
  have hr := B.returns
  have hts : ∀ w ∈ wsL_law, w.before _ s = true := fun w h => atoms_spec (ws := (ws_ yX6_thrown cX6_thrown 1 (some .int))) B.pre w (List.mem_cons_of_mem _ h)
  have hown : s.vm.findClass RX6 = some m.cls := findClass_of_methodNamed B.named
  have hlk := B.notSynchronized
  have hC : CallFix p m c cX6_thrown 1 s _ wsL_law RX6 := ⟨hx, hb, hml, hown, hts⟩
  have hl := lv_entry ([.ref mo]) (n := 1) (Nat.le_of_ble_eq_true rfl)
  rw [lg_entry_eq]
  generalize (lg_sl ([.ref mo]) ++ List.replicate (1 - (lg_sl ([.ref mo])).length) Slot.unset).toArray = ls at hl ⊢
  have hl : lv_has ls 1 [(0, .ref mo)] := hl
  refine lv_aload_n hx hb dX6_thrown_0 rfl (lv_at hl 0 rfl) ?_
  refine va_get (D := D) (ci := 6) (v := .int th) (C := RX6) (T := TX6) (N := 15) hx hb hts inlX6 hown hG.K hP 0 rfl rfl 0 (by decide) (hts _ mF_X6_43) (fun _ h9 => h9) rfl dX6_thrown_1 ?_
  refine Ri hx hb hr hlk ?_ dX6_thrown_4
  exact rfl
set_option maxHeartbeats 400000 in
set_option maxRecDepth 100000 in
theorem m_isClip (l : Launch) (D : va_G) {mo a1 a2 a3 a4 a5 a6 a7 a8 a9 a10 a11 nC nS nM : Nat} {th : Int32} {i : Nat} (hn : nC ≤ 10) (hi : i < nC) : Met l yX6_isClip (ws_ yX6_isClip cX6_isClip 2 (some .boolean)) ({ frames := 1, cells := 0, slots := 0, locals := 22 } : Room) (va_Pc [.ref mo, .int (nI i)] (PW D [oO mo 6 [.int th, .ref a1, .int (nI nC), .ref a2, .ref a3, .ref a4, .ref a5, .ref a6, .ref a7, .ref a8, .ref a9, .int (nI nS), .ref a10, .int (nI nM), .ref a11]])) (vp_Si (fun v => v = 1)) 0 0 (fun _ => False) := by
  refine Met.ofW (cc := cX6_isClip) (maxL := 2) (ret := (some .boolean)) (by decide) rfl ?_
  intro p e s m args below meth c s₁ B hml hv
  obtain ⟨rfl, hG, hP⟩ := hv
  have hx := B.exec
  have hb := B.bytes
  have hr := B.returns
  have hts : ∀ w ∈ wsL_law, w.before _ s = true := fun w h => atoms_spec (ws := (ws_ yX6_isClip cX6_isClip 2 (some .boolean))) B.pre w (List.mem_cons_of_mem _ h)
  have hown : s.vm.findClass RX6 = some m.cls := findClass_of_methodNamed B.named
  have hlk := B.notSynchronized
  have hC : CallFix p m c cX6_isClip 2 s _ wsL_law RX6 := ⟨hx, hb, hml, hown, hts⟩
  have hl := lv_entry ([.ref mo, .int (nI i)]) (n := 2) (Nat.le_of_ble_eq_true rfl)
  rw [lg_entry_eq]
  generalize (lg_sl ([.ref mo, .int (nI i)]) ++ List.replicate (2 - (lg_sl ([.ref mo, .int (nI i)])).length) Slot.unset).toArray = ls at hl ⊢
  have hl : lv_has ls 2 [(0, .ref mo), (1, .int (nI i))] := hl
  refine lv_iload_n hx hb dX6_isClip_0 rfl (lv_at hl 1 rfl) ?_
  refine lv_iconst (v := 0) hx hb dX6_isClip_1 (by decide) ?_
  refine lv_aload_n hx hb dX6_isClip_2 rfl (lv_at hl 0 rfl) ?_
  refine va_get (D := D) (ci := 6) (v := .int (nI nC)) (C := RX6) (T := TX6) (N := 15) hx hb hts inlX6 hown hG.K hP 0 rfl rfl 2 (by decide) (hts _ mF_X6_47) (fun _ h9 => h9) rfl dX6_isClip_3 ?_
  refine lv_iconst (v := 1) hx hb dX6_isClip_6 (by decide) ?_
  refine lv_isub hx hb dX6_isClip_7 ?_
  refine tpi (y := nI (nC - 1)) (pk_sub (a := nC) (b := 1) (by omega)) ?_
  have hP9 : va_P D cls [] s.heap := fun k q h => by simp at h
  refine vp_callSi (pS (rest := []) [.int (nI i), .int 0, .int (nI (nC - 1))] 3 hC (m_isIn l D (x := nI i) (a := 0) (b := nI (nC - 1)) ) (gS mM_X6_50 mT_X6_isIn mN_X6 mC_X6_isIn) (by decide +kernel) rfl rfl ⟨Nat.le_of_ble_eq_true rfl, Nat.le_of_ble_eq_true rfl⟩ hG hP9 rfl hl.1 rfl (Nat.le_of_ble_eq_true rfl) dX6_isClip_8 ⟨Nat.le_of_ble_eq_true rfl, Nat.le_of_ble_eq_true rfl⟩) (fun r8 h8 => ?_)
  rcases h8 with ⟨rfl, hb8⟩ | ⟨rfl, hb8⟩
  rotate_left
  · exact absurd (⟨nI_pos' (by omega), nI_le (by omega) (by omega)⟩) hb8
  refine Rz hx hb hr hlk (by first | rfl | decide) ?_ dX6_isClip_11
  exact rfl
set_option maxHeartbeats 400000 in
set_option maxRecDepth 100000 in
theorem m_isClip_no (l : Launch) (D : va_G) {mo a1 a2 a3 a4 a5 a6 a7 a8 a9 a10 a11 nC nS nM : Nat} {th : Int32} {x : Int32} (hn : nC ≤ 10) (hxx : x < 0 ∨ nI nC ≤ x) : Met l yX6_isClip (ws_ yX6_isClip cX6_isClip 2 (some .boolean)) ({ frames := 1, cells := 0, slots := 0, locals := 22 } : Room) (va_Pc [.ref mo, .int x] (PW D [oO mo 6 [.int th, .ref a1, .int (nI nC), .ref a2, .ref a3, .ref a4, .ref a5, .ref a6, .ref a7, .ref a8, .ref a9, .int (nI nS), .ref a10, .int (nI nM), .ref a11]])) (vp_Si (fun v => v = 0)) 0 0 (fun _ => False) := by
  refine Met.ofW (cc := cX6_isClip) (maxL := 2) (ret := (some .boolean)) (by decide) rfl ?_
  intro p e s m args below meth c s₁ B hml hv
  obtain ⟨rfl, hG, hP⟩ := hv
  have hx := B.exec
  have hb := B.bytes
  have hr := B.returns
  have hts : ∀ w ∈ wsL_law, w.before _ s = true := fun w h => atoms_spec (ws := (ws_ yX6_isClip cX6_isClip 2 (some .boolean))) B.pre w (List.mem_cons_of_mem _ h)
  have hown : s.vm.findClass RX6 = some m.cls := findClass_of_methodNamed B.named
  have hlk := B.notSynchronized
  have hC : CallFix p m c cX6_isClip 2 s _ wsL_law RX6 := ⟨hx, hb, hml, hown, hts⟩
  have hl := lv_entry ([.ref mo, .int x]) (n := 2) (Nat.le_of_ble_eq_true rfl)
  rw [lg_entry_eq]
  generalize (lg_sl ([.ref mo, .int x]) ++ List.replicate (2 - (lg_sl ([.ref mo, .int x])).length) Slot.unset).toArray = ls at hl ⊢
  have hl : lv_has ls 2 [(0, .ref mo), (1, .int x)] := hl
  refine lv_iload_n hx hb dX6_isClip_0 rfl (lv_at hl 1 rfl) ?_
  refine lv_iconst (v := 0) hx hb dX6_isClip_1 (by decide) ?_
  refine lv_aload_n hx hb dX6_isClip_2 rfl (lv_at hl 0 rfl) ?_
  refine va_get (D := D) (ci := 6) (v := .int (nI nC)) (C := RX6) (T := TX6) (N := 15) hx hb hts inlX6 hown hG.K hP 0 rfl rfl 2 (by decide) (hts _ mF_X6_47) (fun _ h9 => h9) rfl dX6_isClip_3 ?_
  refine lv_iconst (v := 1) hx hb dX6_isClip_6 (by decide) ?_
  refine lv_isub hx hb dX6_isClip_7 ?_
  have hP9 : va_P D cls [] s.heap := fun k q h => by simp at h
  refine vp_callSi (pS (rest := []) [.int x, .int 0, .int ((nI nC) - 1)] 3 hC (m_isIn l D (x := x) (a := 0) (b := (nI nC) - 1) ) (gS mM_X6_50 mT_X6_isIn mN_X6 mC_X6_isIn) (by decide +kernel) rfl rfl ⟨Nat.le_of_ble_eq_true rfl, Nat.le_of_ble_eq_true rfl⟩ hG hP9 rfl hl.1 rfl (Nat.le_of_ble_eq_true rfl) dX6_isClip_8 ⟨Nat.le_of_ble_eq_true rfl, Nat.le_of_ble_eq_true rfl⟩) (fun r8 h8 => ?_)
  rcases h8 with ⟨rfl, hb8⟩ | ⟨rfl, hb8⟩
  · exact absurd hb8 (nin_of (by omega) hxx)
  refine Rz hx hb hr hlk (by first | rfl | decide) ?_ dX6_isClip_11
  exact rfl
set_option maxHeartbeats 400000 in
set_option maxRecDepth 100000 in
theorem m_isStrip (l : Launch) (D : va_G) {mo a1 a2 a3 a4 a5 a6 a7 a8 a9 a10 a11 nC nS nM : Nat} {th : Int32} {i : Nat} (hn : nS ≤ 10) (hi : i < nS) : Met l yX6_isStrip (ws_ yX6_isStrip cX6_isStrip 2 (some .boolean)) ({ frames := 1, cells := 0, slots := 0, locals := 22 } : Room) (va_Pc [.ref mo, .int (nI i)] (PW D [oO mo 6 [.int th, .ref a1, .int (nI nC), .ref a2, .ref a3, .ref a4, .ref a5, .ref a6, .ref a7, .ref a8, .ref a9, .int (nI nS), .ref a10, .int (nI nM), .ref a11]])) (vp_Si (fun v => v = 1)) 0 0 (fun _ => False) := by
  refine Met.ofW (cc := cX6_isStrip) (maxL := 2) (ret := (some .boolean)) (by decide) rfl ?_
  intro p e s m args below meth c s₁ B hml hv
  obtain ⟨rfl, hG, hP⟩ := hv
  have hx := B.exec
  have hb := B.bytes
  have hr := B.returns
  have hts : ∀ w ∈ wsL_law, w.before _ s = true := fun w h => atoms_spec (ws := (ws_ yX6_isStrip cX6_isStrip 2 (some .boolean))) B.pre w (List.mem_cons_of_mem _ h)
  have hown : s.vm.findClass RX6 = some m.cls := findClass_of_methodNamed B.named
  have hlk := B.notSynchronized
  have hC : CallFix p m c cX6_isStrip 2 s _ wsL_law RX6 := ⟨hx, hb, hml, hown, hts⟩
  have hl := lv_entry ([.ref mo, .int (nI i)]) (n := 2) (Nat.le_of_ble_eq_true rfl)
  rw [lg_entry_eq]
  generalize (lg_sl ([.ref mo, .int (nI i)]) ++ List.replicate (2 - (lg_sl ([.ref mo, .int (nI i)])).length) Slot.unset).toArray = ls at hl ⊢
  have hl : lv_has ls 2 [(0, .ref mo), (1, .int (nI i))] := hl
  refine lv_iload_n hx hb dX6_isStrip_0 rfl (lv_at hl 1 rfl) ?_
  refine lv_iconst (v := 0) hx hb dX6_isStrip_1 (by decide) ?_
  refine lv_aload_n hx hb dX6_isStrip_2 rfl (lv_at hl 0 rfl) ?_
  refine va_get (D := D) (ci := 6) (v := .int (nI nS)) (C := RX6) (T := TX6) (N := 15) hx hb hts inlX6 hown hG.K hP 0 rfl rfl 11 (by decide) (hts _ mF_X6_108) (fun _ h9 => h9) rfl dX6_isStrip_3 ?_
  refine lv_iconst (v := 1) hx hb dX6_isStrip_6 (by decide) ?_
  refine lv_isub hx hb dX6_isStrip_7 ?_
  refine tpi (y := nI (nS - 1)) (pk_sub (a := nS) (b := 1) (by omega)) ?_
  have hP9 : va_P D cls [] s.heap := fun k q h => by simp at h
  refine vp_callSi (pS (rest := []) [.int (nI i), .int 0, .int (nI (nS - 1))] 3 hC (m_isIn l D (x := nI i) (a := 0) (b := nI (nS - 1)) ) (gS mM_X6_50 mT_X6_isIn mN_X6 mC_X6_isIn) (by decide +kernel) rfl rfl ⟨Nat.le_of_ble_eq_true rfl, Nat.le_of_ble_eq_true rfl⟩ hG hP9 rfl hl.1 rfl (Nat.le_of_ble_eq_true rfl) dX6_isStrip_8 ⟨Nat.le_of_ble_eq_true rfl, Nat.le_of_ble_eq_true rfl⟩) (fun r8 h8 => ?_)
  rcases h8 with ⟨rfl, hb8⟩ | ⟨rfl, hb8⟩
  rotate_left
  · exact absurd (⟨nI_pos' (by omega), nI_le (by omega) (by omega)⟩) hb8
  refine Rz hx hb hr hlk (by first | rfl | decide) ?_ dX6_isStrip_11
  exact rfl
set_option maxHeartbeats 400000 in
set_option maxRecDepth 100000 in
theorem m_isStrip_no (l : Launch) (D : va_G) {mo a1 a2 a3 a4 a5 a6 a7 a8 a9 a10 a11 nC nS nM : Nat} {th : Int32} {x : Int32} (hn : nS ≤ 10) (hxx : x < 0 ∨ nI nS ≤ x) : Met l yX6_isStrip (ws_ yX6_isStrip cX6_isStrip 2 (some .boolean)) ({ frames := 1, cells := 0, slots := 0, locals := 22 } : Room) (va_Pc [.ref mo, .int x] (PW D [oO mo 6 [.int th, .ref a1, .int (nI nC), .ref a2, .ref a3, .ref a4, .ref a5, .ref a6, .ref a7, .ref a8, .ref a9, .int (nI nS), .ref a10, .int (nI nM), .ref a11]])) (vp_Si (fun v => v = 0)) 0 0 (fun _ => False) := by
  refine Met.ofW (cc := cX6_isStrip) (maxL := 2) (ret := (some .boolean)) (by decide) rfl ?_
  intro p e s m args below meth c s₁ B hml hv
  obtain ⟨rfl, hG, hP⟩ := hv
  have hx := B.exec
  have hb := B.bytes
  have hr := B.returns
  have hts : ∀ w ∈ wsL_law, w.before _ s = true := fun w h => atoms_spec (ws := (ws_ yX6_isStrip cX6_isStrip 2 (some .boolean))) B.pre w (List.mem_cons_of_mem _ h)
  have hown : s.vm.findClass RX6 = some m.cls := findClass_of_methodNamed B.named
  have hlk := B.notSynchronized
  have hC : CallFix p m c cX6_isStrip 2 s _ wsL_law RX6 := ⟨hx, hb, hml, hown, hts⟩
  have hl := lv_entry ([.ref mo, .int x]) (n := 2) (Nat.le_of_ble_eq_true rfl)
  rw [lg_entry_eq]
  generalize (lg_sl ([.ref mo, .int x]) ++ List.replicate (2 - (lg_sl ([.ref mo, .int x])).length) Slot.unset).toArray = ls at hl ⊢
  have hl : lv_has ls 2 [(0, .ref mo), (1, .int x)] := hl
  refine lv_iload_n hx hb dX6_isStrip_0 rfl (lv_at hl 1 rfl) ?_
  refine lv_iconst (v := 0) hx hb dX6_isStrip_1 (by decide) ?_
  refine lv_aload_n hx hb dX6_isStrip_2 rfl (lv_at hl 0 rfl) ?_
  refine va_get (D := D) (ci := 6) (v := .int (nI nS)) (C := RX6) (T := TX6) (N := 15) hx hb hts inlX6 hown hG.K hP 0 rfl rfl 11 (by decide) (hts _ mF_X6_108) (fun _ h9 => h9) rfl dX6_isStrip_3 ?_
  refine lv_iconst (v := 1) hx hb dX6_isStrip_6 (by decide) ?_
  refine lv_isub hx hb dX6_isStrip_7 ?_
  have hP9 : va_P D cls [] s.heap := fun k q h => by simp at h
  refine vp_callSi (pS (rest := []) [.int x, .int 0, .int ((nI nS) - 1)] 3 hC (m_isIn l D (x := x) (a := 0) (b := (nI nS) - 1) ) (gS mM_X6_50 mT_X6_isIn mN_X6 mC_X6_isIn) (by decide +kernel) rfl rfl ⟨Nat.le_of_ble_eq_true rfl, Nat.le_of_ble_eq_true rfl⟩ hG hP9 rfl hl.1 rfl (Nat.le_of_ble_eq_true rfl) dX6_isStrip_8 ⟨Nat.le_of_ble_eq_true rfl, Nat.le_of_ble_eq_true rfl⟩) (fun r8 h8 => ?_)
  rcases h8 with ⟨rfl, hb8⟩ | ⟨rfl, hb8⟩
  · exact absurd hb8 (nin_of (by omega) hxx)
  refine Rz hx hb hr hlk (by first | rfl | decide) ?_ dX6_isStrip_11
  exact rfl
set_option maxHeartbeats 400000 in
set_option maxRecDepth 100000 in
theorem m_isTrack (l : Launch) (D : va_G) {mo a1 a2 a3 a4 a5 a6 a7 a8 a9 a10 a11 nC nS nM : Nat} {th : Int32} {i j : Nat} (hn : nC ≤ 10) (hi : i < nC) (hj : j < 4) : Met l yX6_isTrack (ws_ yX6_isTrack cX6_isTrack 3 (some .boolean)) ({ frames := 2, cells := 0, slots := 0, locals := 43 } : Room) (va_Pc [.ref mo, .int (nI i), .int (nI j)] (PW D [oO mo 6 [.int th, .ref a1, .int (nI nC), .ref a2, .ref a3, .ref a4, .ref a5, .ref a6, .ref a7, .ref a8, .ref a9, .int (nI nS), .ref a10, .int (nI nM), .ref a11]])) (vp_Si (fun v => v = 1)) 0 0 (fun _ => False) := by
  refine Met.ofW (cc := cX6_isTrack) (maxL := 3) (ret := (some .boolean)) (by decide) rfl ?_
  intro p e s m args below meth c s₁ B hml hv
  obtain ⟨rfl, hG, hP⟩ := hv
  have hx := B.exec
  have hb := B.bytes
  have hr := B.returns
  have hts : ∀ w ∈ wsL_law, w.before _ s = true := fun w h => atoms_spec (ws := (ws_ yX6_isTrack cX6_isTrack 3 (some .boolean))) B.pre w (List.mem_cons_of_mem _ h)
  have hown : s.vm.findClass RX6 = some m.cls := findClass_of_methodNamed B.named
  have hlk := B.notSynchronized
  have hC : CallFix p m c cX6_isTrack 3 s _ wsL_law RX6 := ⟨hx, hb, hml, hown, hts⟩
  have hl := lv_entry ([.ref mo, .int (nI i), .int (nI j)]) (n := 3) (Nat.le_of_ble_eq_true rfl)
  rw [lg_entry_eq]
  generalize (lg_sl ([.ref mo, .int (nI i), .int (nI j)]) ++ List.replicate (3 - (lg_sl ([.ref mo, .int (nI i), .int (nI j)])).length) Slot.unset).toArray = ls at hl ⊢
  have hl : lv_has ls 3 [(0, .ref mo), (1, .int (nI i)), (2, .int (nI j))] := hl
  refine lv_aload_n hx hb dX6_isTrack_0 rfl (lv_at hl 0 rfl) ?_
  refine lv_iload_n hx hb dX6_isTrack_1 rfl (lv_at hl 1 rfl) ?_
  have hP9 := hP
  refine vp_callSi (pV (rest := []) (qc := (RX6, TX6, 15)) [.int (nI i)] 1 hC (m_isClip l D (mo := mo) (i := i) (th := th) (a1 := a1) (nC := nC) (a2 := a2) (a3 := a3) (a4 := a4) (a5 := a5) (a6 := a6) (a7 := a7) (a8 := a8) (a9 := a9) (nS := nS) (a10 := a10) (nM := nM) (a11 := a11) (by omega) (by omega)) rfl (hP 0 _ rfl) (gV mM_X6_54 mI_X6_isClip mS_X6_isClip mN_X6 mC_X6_isClip) (by decide +kernel) rfl rfl ⟨Nat.le_of_ble_eq_true rfl, Nat.le_of_ble_eq_true rfl⟩ hG hP9 rfl hl.1 rfl (Nat.le_of_ble_eq_true rfl) dX6_isTrack_2 ⟨Nat.le_of_ble_eq_true rfl, Nat.le_of_ble_eq_true rfl⟩) (fun r2 h2 => ?_)
  obtain rfl : r2 = 1 := h2
  refine lv_if_eq (tgt := 21) hx hb dX6_isTrack_5 (by decide) (fun h9 => absurd h9 (by decide)) (fun _ => ?_)
  refine lv_iload_n hx hb dX6_isTrack_8 rfl (lv_at hl 2 rfl) ?_
  refine lv_iconst (v := 0) hx hb dX6_isTrack_9 (by decide) ?_
  refine lv_iconst (v := 3) hx hb dX6_isTrack_10 (by decide) ?_
  have hP9 : va_P D cls [] s.heap := fun k q h => by simp at h
  refine vp_callSi (pS (rest := []) [.int (nI j), .int 0, .int 3] 3 hC (m_isIn l D (x := nI j) (a := 0) (b := 3) ) (gS mM_X6_50 mT_X6_isIn mN_X6 mC_X6_isIn) (by decide +kernel) rfl rfl ⟨Nat.le_of_ble_eq_true rfl, Nat.le_of_ble_eq_true rfl⟩ hG hP9 rfl hl.1 rfl (Nat.le_of_ble_eq_true rfl) dX6_isTrack_11 ⟨Nat.le_of_ble_eq_true rfl, Nat.le_of_ble_eq_true rfl⟩) (fun r11 h11 => ?_)
  rcases h11 with ⟨rfl, hb11⟩ | ⟨rfl, hb11⟩
  rotate_left
  · exact absurd (in3 hj) hb11
  refine lv_if_eq (tgt := 21) hx hb dX6_isTrack_14 (by decide) (fun h9 => absurd h9 (by decide)) (fun _ => ?_)
  refine lv_iconst (v := 1) hx hb dX6_isTrack_17 (by decide) ?_
  refine lv_goto (tgt := 22) hx hb dX6_isTrack_18 (by decide) ?_
  refine Rz hx hb hr hlk (by first | rfl | decide) ?_ dX6_isTrack_22
  exact rfl
set_option maxHeartbeats 400000 in
set_option maxRecDepth 100000 in
theorem m_isTrack_no1 (l : Launch) (D : va_G) {mo a1 a2 a3 a4 a5 a6 a7 a8 a9 a10 a11 nC nS nM : Nat} {th : Int32} {x y : Int32} (hn : nC ≤ 10) (hxx : x < 0 ∨ nI nC ≤ x) : Met l yX6_isTrack (ws_ yX6_isTrack cX6_isTrack 3 (some .boolean)) ({ frames := 2, cells := 0, slots := 0, locals := 43 } : Room) (va_Pc [.ref mo, .int x, .int y] (PW D [oO mo 6 [.int th, .ref a1, .int (nI nC), .ref a2, .ref a3, .ref a4, .ref a5, .ref a6, .ref a7, .ref a8, .ref a9, .int (nI nS), .ref a10, .int (nI nM), .ref a11]])) (vp_Si (fun v => v = 0)) 0 0 (fun _ => False) := by
  refine Met.ofW (cc := cX6_isTrack) (maxL := 3) (ret := (some .boolean)) (by decide) rfl ?_
  intro p e s m args below meth c s₁ B hml hv
  obtain ⟨rfl, hG, hP⟩ := hv
  have hx := B.exec
  have hb := B.bytes
  have hr := B.returns
  have hts : ∀ w ∈ wsL_law, w.before _ s = true := fun w h => atoms_spec (ws := (ws_ yX6_isTrack cX6_isTrack 3 (some .boolean))) B.pre w (List.mem_cons_of_mem _ h)
  have hown : s.vm.findClass RX6 = some m.cls := findClass_of_methodNamed B.named
  have hlk := B.notSynchronized
  have hC : CallFix p m c cX6_isTrack 3 s _ wsL_law RX6 := ⟨hx, hb, hml, hown, hts⟩
  have hl := lv_entry ([.ref mo, .int x, .int y]) (n := 3) (Nat.le_of_ble_eq_true rfl)
  rw [lg_entry_eq]
  generalize (lg_sl ([.ref mo, .int x, .int y]) ++ List.replicate (3 - (lg_sl ([.ref mo, .int x, .int y])).length) Slot.unset).toArray = ls at hl ⊢
  have hl : lv_has ls 3 [(0, .ref mo), (1, .int x), (2, .int y)] := hl
  refine lv_aload_n hx hb dX6_isTrack_0 rfl (lv_at hl 0 rfl) ?_
  refine lv_iload_n hx hb dX6_isTrack_1 rfl (lv_at hl 1 rfl) ?_
  have hP9 := hP
  refine vp_callSi (pV (rest := []) (qc := (RX6, TX6, 15)) [.int x] 1 hC (m_isClip_no l D (mo := mo) (x := x) (th := th) (a1 := a1) (nC := nC) (a2 := a2) (a3 := a3) (a4 := a4) (a5 := a5) (a6 := a6) (a7 := a7) (a8 := a8) (a9 := a9) (nS := nS) (a10 := a10) (nM := nM) (a11 := a11) (by omega) (hxx)) rfl (hP 0 _ rfl) (gV mM_X6_54 mI_X6_isClip mS_X6_isClip mN_X6 mC_X6_isClip) (by decide +kernel) rfl rfl ⟨Nat.le_of_ble_eq_true rfl, Nat.le_of_ble_eq_true rfl⟩ hG hP9 rfl hl.1 rfl (Nat.le_of_ble_eq_true rfl) dX6_isTrack_2 ⟨Nat.le_of_ble_eq_true rfl, Nat.le_of_ble_eq_true rfl⟩) (fun r2 h2 => ?_)
  obtain rfl : r2 = 0 := h2
  refine lv_if_eq (tgt := 21) hx hb dX6_isTrack_5 (by decide) (fun _ => ?_) (fun h9 => (h9 (by decide)).elim)
  refine lv_iconst (v := 0) hx hb dX6_isTrack_21 (by decide) ?_
  refine Rz hx hb hr hlk (by first | rfl | decide) ?_ dX6_isTrack_22
  exact rfl
set_option maxHeartbeats 400000 in
set_option maxRecDepth 100000 in
theorem m_isTrack_no2 (l : Launch) (D : va_G) {mo a1 a2 a3 a4 a5 a6 a7 a8 a9 a10 a11 nC nS nM : Nat} {th : Int32} {i : Nat} {y : Int32} (hn : nC ≤ 10) (hi : i < nC) (hyy : ¬ (0 ≤ y ∧ y ≤ 3)) : Met l yX6_isTrack (ws_ yX6_isTrack cX6_isTrack 3 (some .boolean)) ({ frames := 2, cells := 0, slots := 0, locals := 43 } : Room) (va_Pc [.ref mo, .int (nI i), .int y] (PW D [oO mo 6 [.int th, .ref a1, .int (nI nC), .ref a2, .ref a3, .ref a4, .ref a5, .ref a6, .ref a7, .ref a8, .ref a9, .int (nI nS), .ref a10, .int (nI nM), .ref a11]])) (vp_Si (fun v => v = 0)) 0 0 (fun _ => False) := by
  refine Met.ofW (cc := cX6_isTrack) (maxL := 3) (ret := (some .boolean)) (by decide) rfl ?_
  intro p e s m args below meth c s₁ B hml hv
  obtain ⟨rfl, hG, hP⟩ := hv
  have hx := B.exec
  have hb := B.bytes
  have hr := B.returns
  have hts : ∀ w ∈ wsL_law, w.before _ s = true := fun w h => atoms_spec (ws := (ws_ yX6_isTrack cX6_isTrack 3 (some .boolean))) B.pre w (List.mem_cons_of_mem _ h)
  have hown : s.vm.findClass RX6 = some m.cls := findClass_of_methodNamed B.named
  have hlk := B.notSynchronized
  have hC : CallFix p m c cX6_isTrack 3 s _ wsL_law RX6 := ⟨hx, hb, hml, hown, hts⟩
  have hl := lv_entry ([.ref mo, .int (nI i), .int y]) (n := 3) (Nat.le_of_ble_eq_true rfl)
  rw [lg_entry_eq]
  generalize (lg_sl ([.ref mo, .int (nI i), .int y]) ++ List.replicate (3 - (lg_sl ([.ref mo, .int (nI i), .int y])).length) Slot.unset).toArray = ls at hl ⊢
  have hl : lv_has ls 3 [(0, .ref mo), (1, .int (nI i)), (2, .int y)] := hl
  refine lv_aload_n hx hb dX6_isTrack_0 rfl (lv_at hl 0 rfl) ?_
  refine lv_iload_n hx hb dX6_isTrack_1 rfl (lv_at hl 1 rfl) ?_
  have hP9 := hP
  refine vp_callSi (pV (rest := []) (qc := (RX6, TX6, 15)) [.int (nI i)] 1 hC (m_isClip l D (mo := mo) (i := i) (th := th) (a1 := a1) (nC := nC) (a2 := a2) (a3 := a3) (a4 := a4) (a5 := a5) (a6 := a6) (a7 := a7) (a8 := a8) (a9 := a9) (nS := nS) (a10 := a10) (nM := nM) (a11 := a11) (by omega) (by omega)) rfl (hP 0 _ rfl) (gV mM_X6_54 mI_X6_isClip mS_X6_isClip mN_X6 mC_X6_isClip) (by decide +kernel) rfl rfl ⟨Nat.le_of_ble_eq_true rfl, Nat.le_of_ble_eq_true rfl⟩ hG hP9 rfl hl.1 rfl (Nat.le_of_ble_eq_true rfl) dX6_isTrack_2 ⟨Nat.le_of_ble_eq_true rfl, Nat.le_of_ble_eq_true rfl⟩) (fun r2 h2 => ?_)
  obtain rfl : r2 = 1 := h2
  refine lv_if_eq (tgt := 21) hx hb dX6_isTrack_5 (by decide) (fun h9 => absurd h9 (by decide)) (fun _ => ?_)
  refine lv_iload_n hx hb dX6_isTrack_8 rfl (lv_at hl 2 rfl) ?_
  refine lv_iconst (v := 0) hx hb dX6_isTrack_9 (by decide) ?_
  refine lv_iconst (v := 3) hx hb dX6_isTrack_10 (by decide) ?_
  have hP9 : va_P D cls [] s.heap := fun k q h => by simp at h
  refine vp_callSi (pS (rest := []) [.int y, .int 0, .int 3] 3 hC (m_isIn l D (x := y) (a := 0) (b := 3) ) (gS mM_X6_50 mT_X6_isIn mN_X6 mC_X6_isIn) (by decide +kernel) rfl rfl ⟨Nat.le_of_ble_eq_true rfl, Nat.le_of_ble_eq_true rfl⟩ hG hP9 rfl hl.1 rfl (Nat.le_of_ble_eq_true rfl) dX6_isTrack_11 ⟨Nat.le_of_ble_eq_true rfl, Nat.le_of_ble_eq_true rfl⟩) (fun r11 h11 => ?_)
  rcases h11 with ⟨rfl, hb11⟩ | ⟨rfl, hb11⟩
  · exact absurd hb11 (hyy)
  refine lv_if_eq (tgt := 21) hx hb dX6_isTrack_14 (by decide) (fun _ => ?_) (fun h9 => (h9 (by decide)).elim)
  refine lv_iconst (v := 0) hx hb dX6_isTrack_21 (by decide) ?_
  refine Rz hx hb hr hlk (by first | rfl | decide) ?_ dX6_isTrack_22
  exact rfl
set_option maxHeartbeats 400000 in
set_option maxRecDepth 100000 in
theorem m_rounded (l : Launch) (D : va_G) {x y : Int64} (hy : ¬ 2 * y = 0) : Met l yX6_rounded (ws_ yX6_rounded cX6_rounded 4 (some .int)) ({ frames := 1, cells := 0, slots := 0, locals := 25 } : Room) (va_Pc [.long x, .long y] (PW D [])) (vp_Si (fun v => v = rnd x y)) 0 0 (fun _ => False) := by
  refine Met.ofW (cc := cX6_rounded) (maxL := 4) (ret := (some .int)) (by decide) rfl ?_
  intro p e s m args below meth c s₁ B hml hv
  obtain ⟨rfl, hG, hP⟩ := hv
  have hx := B.exec
  have hb := B.bytes
  have hr := B.returns
  have hts : ∀ w ∈ wsL_law, w.before _ s = true := fun w h => atoms_spec (ws := (ws_ yX6_rounded cX6_rounded 4 (some .int))) B.pre w (List.mem_cons_of_mem _ h)
  have hown : s.vm.findClass RX6 = some m.cls := findClass_of_methodNamed B.named
  have hlk := B.notSynchronized
  have hC : CallFix p m c cX6_rounded 4 s _ wsL_law RX6 := ⟨hx, hb, hml, hown, hts⟩
  have hl := lv_entry ([.long x, .long y]) (n := 4) (Nat.le_of_ble_eq_true rfl)
  rw [lg_entry_eq]
  generalize (lg_sl ([.long x, .long y]) ++ List.replicate (4 - (lg_sl ([.long x, .long y])).length) Slot.unset).toArray = ls at hl ⊢
  have hl : lv_has ls 4 [(0, .long x), (2, .long y)] := hl
  refine lv_ldc2 hx hb hown (hts _ mH_X6_58) dX6_rounded_0 ?_
  refine lv_lload_n hx hb dX6_rounded_3 rfl (lv_at hl 0 rfl) ?_
  refine lv_lmul hx hb dX6_rounded_4 ?_
  refine lv_lload_n hx hb dX6_rounded_5 rfl (lv_at hl 1 rfl) ?_
  refine lv_ladd hx hb dX6_rounded_6 ?_
  refine lv_ldc2 hx hb hown (hts _ mH_X6_58) dX6_rounded_7 ?_
  refine lv_lload_n hx hb dX6_rounded_10 rfl (lv_at hl 1 rfl) ?_
  refine lv_lmul hx hb dX6_rounded_11 ?_
  have hP9 : va_P D cls [] s.heap := fun k q h => by simp at h
  refine vp_callSl (pS (rest := []) [.long ((2 * x) + y), .long (2 * y)] 2 hC (c_floorDiv l D (x := (2 * x) + y) (y := 2 * y) (hy)) (gS mM_X6_60 mT_J9_floorDiv_f86c9 mN_J9 mC_J9_floorDiv_f86c9) (by decide +kernel) rfl rfl ⟨Nat.le_of_ble_eq_true rfl, Nat.le_of_ble_eq_true rfl⟩ hG hP9 rfl hl.1 rfl (Nat.le_of_ble_eq_true rfl) dX6_rounded_12 ⟨Nat.le_of_ble_eq_true rfl, Nat.le_of_ble_eq_true rfl⟩) (fun r12 h12 => ?_)
  obtain rfl : r12 = (fdL ((2 * x) + y) (2 * y)) := h12
  refine lv_l2i hx hb dX6_rounded_15 rfl ?_
  refine Ri hx hb hr hlk ?_ dX6_rounded_16
  exact rfl
set_option maxHeartbeats 400000 in
set_option maxRecDepth 100000 in
theorem m_row (l : Launch) (D : va_G) {j : Nat}  : Met l yX6_row (ws_ yX6_row cX6_row 1 (some .int)) ({ frames := 0, cells := 0, slots := 0, locals := 0 } : Room) (va_Pc [.int (nI j)] (PW D [])) (vp_Si (fun v => v = nI (16 * j))) 0 0 (fun _ => False) := by
  refine Met.ofW (cc := cX6_row) (maxL := 1) (ret := (some .int)) (by decide) rfl ?_
  intro p e s m args below meth c s₁ B hml hv
  obtain ⟨rfl, hG, hP⟩ := hv
  have hx := B.exec
  have hb := B.bytes
  have hr := B.returns
  have hts : ∀ w ∈ wsL_law, w.before _ s = true := fun w h => atoms_spec (ws := (ws_ yX6_row cX6_row 1 (some .int))) B.pre w (List.mem_cons_of_mem _ h)
  have hown : s.vm.findClass RX6 = some m.cls := findClass_of_methodNamed B.named
  have hlk := B.notSynchronized
  have hC : CallFix p m c cX6_row 1 s _ wsL_law RX6 := ⟨hx, hb, hml, hown, hts⟩
  have hl := lv_entry ([.int (nI j)]) (n := 1) (Nat.le_of_ble_eq_true rfl)
  rw [lg_entry_eq]
  generalize (lg_sl ([.int (nI j)]) ++ List.replicate (1 - (lg_sl ([.int (nI j)])).length) Slot.unset).toArray = ls at hl ⊢
  have hl : lv_has ls 1 [(0, .int (nI j))] := hl
  refine lv_bipush (v := 16) hx hb dX6_row_0 (by decide) ?_
  refine lv_iload_n hx hb dX6_row_2 rfl (lv_at hl 0 rfl) ?_
  refine lv_imul hx hb dX6_row_3 ?_
  refine tpi (y := nI (16 * j)) (pk_mul 16 j) ?_
  refine Ri hx hb hr hlk ?_ dX6_row_4
  exact rfl
set_option maxHeartbeats 400000 in
set_option maxRecDepth 100000 in
theorem m_put (l : Launch) (D : va_G) {mo a1 a2 a3 a4 a5 a6 a7 a8 a9 a10 a11 nC nS nM : Nat} {th : Int32} {tm wo ea : Nat → Int32} {k : Nat} {x y z : Int32} (hz0 : Nat) (hk : k < 384) : Met l yX6_put (ws_ yX6_put cX6_put 5 none) ({ frames := 0, cells := 0, slots := 0, locals := 0 } : Room) (va_Pc [.ref mo, .int (nI k), .int x, .int y, .int z] (SW D [oO mo 6 [.int th, .ref a1, .int (nI nC), .ref a2, .ref a3, .ref a4, .ref a5, .ref a6, .ref a7, .ref a8, .ref a9, .int (nI nS), .ref a10, .int (nI nM), .ref a11], aI D a4 384 tm, aI D a5 384 wo, aI D a6 384 ea] hz0)) (va_Qv (fun _ => True) (AT D (va_A [oO mo 6 [.int th, .ref a1, .int (nI nC), .ref a2, .ref a3, .ref a4, .ref a5, .ref a6, .ref a7, .ref a8, .ref a9, .int (nI nS), .ref a10, .int (nI nM), .ref a11], aI D a4 384 tm, aI D a5 384 wo, aI D a6 384 ea] hz0) (fun _ : Unit => [oO mo 6 [.int th, .ref a1, .int (nI nC), .ref a2, .ref a3, .ref a4, .ref a5, .ref a6, .ref a7, .ref a8, .ref a9, .int (nI nS), .ref a10, .int (nI nM), .ref a11], aI D a4 384 (upd tm k x), aI D a5 384 (upd wo k y), aI D a6 384 (upd ea k z)])) (va_A [oO mo 6 [.int th, .ref a1, .int (nI nC), .ref a2, .ref a3, .ref a4, .ref a5, .ref a6, .ref a7, .ref a8, .ref a9, .int (nI nS), .ref a10, .int (nI nM), .ref a11], aI D a4 384 tm, aI D a5 384 wo, aI D a6 384 ea] hz0)) 0 0 (va_A [oO mo 6 [.int th, .ref a1, .int (nI nC), .ref a2, .ref a3, .ref a4, .ref a5, .ref a6, .ref a7, .ref a8, .ref a9, .int (nI nS), .ref a10, .int (nI nM), .ref a11], aI D a4 384 tm, aI D a5 384 wo, aI D a6 384 ea] hz0) := by
  refine Met.ofW (cc := cX6_put) (maxL := 5) (ret := none) (by decide) rfl ?_
  intro p e s m args below meth c s₁ B hml hv
  obtain ⟨rfl, hsz, hG, hP, hD0⟩ := hv
  have hx := B.exec
  have hb := B.bytes
  have hr := B.returns
  have hts : ∀ w ∈ wsL_law, w.before _ s = true := fun w h => atoms_spec (ws := (ws_ yX6_put cX6_put 5 none)) B.pre w (List.mem_cons_of_mem _ h)
  have hown : s.vm.findClass RX6 = some m.cls := findClass_of_methodNamed B.named
  have hlk := B.notSynchronized
  have hC : CallFix p m c cX6_put 5 s _ wsL_law RX6 := ⟨hx, hb, hml, hown, hts⟩
  subst hsz
  have hD := hD0.self (sz := s.heap.size)
  generalize hAe : va_A [oO mo 6 [.int th, .ref a1, .int (nI nC), .ref a2, .ref a3, .ref a4, .ref a5, .ref a6, .ref a7, .ref a8, .ref a9, .int (nI nS), .ref a10, .int (nI nM), .ref a11], aI D a4 384 tm, aI D a5 384 wo, aI D a6 384 ea] s.heap.size = A at hD ⊢
  have hA : ∀ q : Nat, s.heap.size ≤ q → A q := fun q h => by rw [← hAe]; exact Or.inr h
  have hS : va_S A s.heap s.heap [] := va_S.rf
  obtain ⟨H, hHe⟩ : ∃ H, H = s.heap := ⟨_, rfl⟩
  rw [← hHe] at hP
  have hS : va_S A s.heap H [] := by rw [hHe]; exact hS
  have hl := lv_entry ([.ref mo, .int (nI k), .int x, .int y, .int z]) (n := 5) (Nat.le_of_ble_eq_true rfl)
  rw [lg_entry_eq]
  generalize (lg_sl ([.ref mo, .int (nI k), .int x, .int y, .int z]) ++ List.replicate (5 - (lg_sl ([.ref mo, .int (nI k), .int x, .int y, .int z])).length) Slot.unset).toArray = ls at hl ⊢
  have hl : lv_has ls 5 [(0, .ref mo), (1, .int (nI k)), (2, .int x), (3, .int y), (4, .int z)] := hl
  rw [← hHe]
  refine lv_aload_n hx hb dX6_put_0 rfl (lv_at hl 0 rfl) ?_
  refine va_get (D := D) (ci := 6) (v := .ref a4) (C := RX6) (T := TX6) (N := 15) hx hb hts inlX6 hown hG.K hP 0 rfl rfl 5 (by decide) (hts _ mF_X6_19) (fun _ h9 => h9) rfl dX6_put_1 ?_
  refine lv_iload_n hx hb dX6_put_4 rfl (lv_at hl 1 rfl) ?_
  refine lv_iload_n hx hb dX6_put_5 rfl (lv_at hl 2 rfl) ?_
  refine ist (n := 384) (j := k) hx hb hG hP hD hS 1 rfl (by omega) (by omega) dX6_put_6 (fun H locs hP hD hS => ?_)
  have hP : va_P D cls [oO mo 6 [.int th, .ref a1, .int (nI nC), .ref a2, .ref a3, .ref a4, .ref a5, .ref a6, .ref a7, .ref a8, .ref a9, .int (nI nS), .ref a10, .int (nI nM), .ref a11], aI D a4 384 (upd tm k x), aI D a5 384 wo, aI D a6 384 ea] H := hP
  have hD : va_D A [oO mo 6 [.int th, .ref a1, .int (nI nC), .ref a2, .ref a3, .ref a4, .ref a5, .ref a6, .ref a7, .ref a8, .ref a9, .int (nI nS), .ref a10, .int (nI nM), .ref a11], aI D a4 384 (upd tm k x), aI D a5 384 wo, aI D a6 384 ea] := hD
  refine lv_aload_n hx hb dX6_put_7 rfl (lv_at hl 0 rfl) ?_
  refine va_get (D := D) (ci := 6) (v := .ref a5) (C := RX6) (T := TX6) (N := 15) hx hb hts inlX6 hown hG.K hP 0 rfl rfl 6 (by decide) (hts _ mF_X6_22) (fun _ h9 => h9) rfl dX6_put_8 ?_
  refine lv_iload_n hx hb dX6_put_11 rfl (lv_at hl 1 rfl) ?_
  refine lv_iload_n hx hb dX6_put_12 rfl (lv_at hl 3 rfl) ?_
  refine ist (n := 384) (j := k) hx hb hG hP hD hS 2 rfl (by omega) (by omega) dX6_put_13 (fun H locs hP hD hS => ?_)
  have hP : va_P D cls [oO mo 6 [.int th, .ref a1, .int (nI nC), .ref a2, .ref a3, .ref a4, .ref a5, .ref a6, .ref a7, .ref a8, .ref a9, .int (nI nS), .ref a10, .int (nI nM), .ref a11], aI D a4 384 (upd tm k x), aI D a5 384 (upd wo k y), aI D a6 384 ea] H := hP
  have hD : va_D A [oO mo 6 [.int th, .ref a1, .int (nI nC), .ref a2, .ref a3, .ref a4, .ref a5, .ref a6, .ref a7, .ref a8, .ref a9, .int (nI nS), .ref a10, .int (nI nM), .ref a11], aI D a4 384 (upd tm k x), aI D a5 384 (upd wo k y), aI D a6 384 ea] := hD
  refine lv_aload_n hx hb dX6_put_14 rfl (lv_at hl 0 rfl) ?_
  refine va_get (D := D) (ci := 6) (v := .ref a6) (C := RX6) (T := TX6) (N := 15) hx hb hts inlX6 hown hG.K hP 0 rfl rfl 7 (by decide) (hts _ mF_X6_25) (fun _ h9 => h9) rfl dX6_put_15 ?_
  refine lv_iload_n hx hb dX6_put_18 rfl (lv_at hl 1 rfl) ?_
  refine lv_iload hx hb dX6_put_19 (lv_at hl 4 rfl) ?_
  refine ist (n := 384) (j := k) hx hb hG hP hD hS 3 rfl (by omega) (by omega) dX6_put_21 (fun H locs hP hD hS => ?_)
  have hP : va_P D cls [oO mo 6 [.int th, .ref a1, .int (nI nC), .ref a2, .ref a3, .ref a4, .ref a5, .ref a6, .ref a7, .ref a8, .ref a9, .int (nI nS), .ref a10, .int (nI nM), .ref a11], aI D a4 384 (upd tm k x), aI D a5 384 (upd wo k y), aI D a6 384 (upd ea k z)] H := hP
  have hD : va_D A [oO mo 6 [.int th, .ref a1, .int (nI nC), .ref a2, .ref a3, .ref a4, .ref a5, .ref a6, .ref a7, .ref a8, .ref a9, .int (nI nS), .ref a10, .int (nI nM), .ref a11], aI D a4 384 (upd tm k x), aI D a5 384 (upd wo k y), aI D a6 384 (upd ea k z)] := hD
  refine Wv () hx hb hr hlk ?_ hP hD hS (Nat.le_of_ble_eq_true rfl) (by first | exact Nat.le_of_ble_eq_true rfl | exact Nat.le_of_eq (Nat.zero_add _)) dX6_put_22
  exact trivial
set_option maxHeartbeats 400000 in
set_option maxRecDepth 100000 in
theorem m_part (l : Launch) (D : va_G) {mo a1 a2 a3 a4 a5 a6 a7 a8 a9 a10 a11 nC nS nM : Nat} {th : Int32} {pa : Nat → Int32} {i w : Nat} (hi : i < 10) (hw : w < 13) : Met l yX6_part (ws_ yX6_part cX6_part 3 (some .int)) ({ frames := 0, cells := 0, slots := 0, locals := 0 } : Room) (va_Pc [.ref mo, .int (nI i), .int (nI w)] (PW D [oO mo 6 [.int th, .ref a1, .int (nI nC), .ref a2, .ref a3, .ref a4, .ref a5, .ref a6, .ref a7, .ref a8, .ref a9, .int (nI nS), .ref a10, .int (nI nM), .ref a11], aI D a10 130 pa])) (vp_Si (fun v => v = pa (13 * i + w))) 0 0 (fun _ => False) := by
  refine Met.ofW (cc := cX6_part) (maxL := 3) (ret := (some .int)) (by decide) rfl ?_
  intro p e s m args below meth c s₁ B hml hv
  obtain ⟨rfl, hG, hP⟩ := hv
  have hx := B.exec
  have hb := B.bytes
  have hr := B.returns
  have hts : ∀ w ∈ wsL_law, w.before _ s = true := fun w h => atoms_spec (ws := (ws_ yX6_part cX6_part 3 (some .int))) B.pre w (List.mem_cons_of_mem _ h)
  have hown : s.vm.findClass RX6 = some m.cls := findClass_of_methodNamed B.named
  have hlk := B.notSynchronized
  have hC : CallFix p m c cX6_part 3 s _ wsL_law RX6 := ⟨hx, hb, hml, hown, hts⟩
  have hl := lv_entry ([.ref mo, .int (nI i), .int (nI w)]) (n := 3) (Nat.le_of_ble_eq_true rfl)
  rw [lg_entry_eq]
  generalize (lg_sl ([.ref mo, .int (nI i), .int (nI w)]) ++ List.replicate (3 - (lg_sl ([.ref mo, .int (nI i), .int (nI w)])).length) Slot.unset).toArray = ls at hl ⊢
  have hl : lv_has ls 3 [(0, .ref mo), (1, .int (nI i)), (2, .int (nI w))] := hl
  refine lv_aload_n hx hb dX6_part_0 rfl (lv_at hl 0 rfl) ?_
  refine va_get (D := D) (ci := 6) (v := .ref a10) (C := RX6) (T := TX6) (N := 15) hx hb hts inlX6 hown hG.K hP 0 rfl rfl 12 (by decide) (hts _ mF_X6_37) (fun _ h9 => h9) rfl dX6_part_1 ?_
  refine lv_bipush (v := 13) hx hb dX6_part_4 (by decide) ?_
  refine lv_iload_n hx hb dX6_part_6 rfl (lv_at hl 1 rfl) ?_
  refine lv_imul hx hb dX6_part_7 ?_
  refine tpi (y := nI (13 * i)) (pk_mul 13 i) ?_
  refine lv_iload_n hx hb dX6_part_8 rfl (lv_at hl 2 rfl) ?_
  refine lv_iadd hx hb dX6_part_9 ?_
  refine tpi (y := nI ((13 * i) + w)) (nI_add (13 * i) w) ?_
  refine ild (n := 130) (j := (13 * i) + w) hx hb hG hP 1 rfl (by omega) (by omega) dX6_part_10 ?_
  refine Ri hx hb hr hlk ?_ dX6_part_11
  exact rfl
set_option maxHeartbeats 400000 in
set_option maxRecDepth 100000 in
theorem m_length (l : Launch) (D : va_G) {mo a1 a2 a3 a4 a5 a6 a7 a8 a9 a10 a11 nC nS nM : Nat} {th : Int32} {ln pa pt : Nat → Int32} {i c0 : Nat} {len : Int32} (hi : i < 10) (hpa : ∀ w, w < 13 → ¬ w = 2 → pa (13 * i + w) = pt w) (hc0 : pa (13 * i) = nI c0) (hc6 : c0 < 6) (hlq : ln c0 = len) : Met l yX6_length (ws_ yX6_length cX6_length 2 (some .int)) ({ frames := 1, cells := 0, slots := 0, locals := 22 } : Room) (va_Pc [.ref mo, .int (nI i)] (PW D [oO mo 6 [.int th, .ref a1, .int (nI nC), .ref a2, .ref a3, .ref a4, .ref a5, .ref a6, .ref a7, .ref a8, .ref a9, .int (nI nS), .ref a10, .int (nI nM), .ref a11], aI D a2 6 ln, aI D a10 130 pa])) (vp_Si (fun v => v = len)) 0 0 (fun _ => False) := by
  refine Met.ofW (cc := cX6_length) (maxL := 2) (ret := (some .int)) (by decide) rfl ?_
  intro p e s m args below meth c s₁ B hml hv
  obtain ⟨rfl, hG, hP⟩ := hv
  have hx := B.exec
  have hb := B.bytes
  have hr := B.returns
  have hts : ∀ w ∈ wsL_law, w.before _ s = true := fun w h => atoms_spec (ws := (ws_ yX6_length cX6_length 2 (some .int))) B.pre w (List.mem_cons_of_mem _ h)
  have hown : s.vm.findClass RX6 = some m.cls := findClass_of_methodNamed B.named
  have hlk := B.notSynchronized
  have hC : CallFix p m c cX6_length 2 s _ wsL_law RX6 := ⟨hx, hb, hml, hown, hts⟩
  have hl := lv_entry ([.ref mo, .int (nI i)]) (n := 2) (Nat.le_of_ble_eq_true rfl)
  rw [lg_entry_eq]
  generalize (lg_sl ([.ref mo, .int (nI i)]) ++ List.replicate (2 - (lg_sl ([.ref mo, .int (nI i)])).length) Slot.unset).toArray = ls at hl ⊢
  have hl : lv_has ls 2 [(0, .ref mo), (1, .int (nI i))] := hl
  refine lv_aload_n hx hb dX6_length_0 rfl (lv_at hl 0 rfl) ?_
  refine va_get (D := D) (ci := 6) (v := .ref a2) (C := RX6) (T := TX6) (N := 15) hx hb hts inlX6 hown hG.K hP 0 rfl rfl 3 (by decide) (hts _ mF_X6_13) (fun _ h9 => h9) rfl dX6_length_1 ?_
  refine lv_aload_n hx hb dX6_length_4 rfl (lv_at hl 0 rfl) ?_
  refine lv_iload_n hx hb dX6_length_5 rfl (lv_at hl 1 rfl) ?_
  refine lv_iconst (v := 0) hx hb dX6_length_6 (by decide) ?_
  have hP9 := hP.sub (ws' := [oO mo 6 [.int th, .ref a1, .int (nI nC), .ref a2, .ref a3, .ref a4, .ref a5, .ref a6, .ref a7, .ref a8, .ref a9, .int (nI nS), .ref a10, .int (nI nM), .ref a11], aI D a10 130 pa]) [0, 2] rfl
  refine vp_callSi (pV (rest := [.ref a2]) (qc := (RX6, TX6, 15)) [.int (nI i), .int 0] 2 hC (m_part l D (mo := mo) (i := i) (w := 0) (th := th) (a1 := a1) (nC := nC) (a2 := a2) (a3 := a3) (a4 := a4) (a5 := a5) (a6 := a6) (a7 := a7) (a8 := a8) (a9 := a9) (nS := nS) (a10 := a10) (nM := nM) (a11 := a11) (pa := pa) (by omega) (by omega)) rfl (hP 0 _ rfl) (gV mM_X6_120 mI_X6_part mS_X6_part mN_X6 mC_X6_part) (by decide +kernel) rfl rfl ⟨Nat.le_of_ble_eq_true rfl, Nat.le_of_ble_eq_true rfl⟩ hG hP9 rfl hl.1 rfl (Nat.le_of_ble_eq_true rfl) dX6_length_7 ⟨Nat.le_of_ble_eq_true rfl, Nat.le_of_ble_eq_true rfl⟩) (fun r7 h7 => ?_)
  obtain rfl : r7 = (pa (13 * i + 0)) := h7
  refine tpi (y := nI c0) (hc0) ?_
  refine ild (n := 6) (j := c0) hx hb hG hP 1 rfl (by omega) (by omega) dX6_length_10 ?_
  refine Ri hx hb hr hlk ?_ dX6_length_11
  exact hlq
set_option maxHeartbeats 400000 in
set_option maxRecDepth 100000 in
theorem m_ticks (l : Launch) (D : va_G) {mo a1 a2 a3 a4 a5 a6 a7 a8 a9 a10 a11 nC nS nM : Nat} {th : Int32} {ln pa pt : Nat → Int32} {i c0 : Nat} {len : Int32} (hi : i < 10) (hpa : ∀ w, w < 13 → ¬ w = 2 → pa (13 * i + w) = pt w) (hc0 : pa (13 * i) = nI c0) (hc6 : c0 < 6) (hlq : ln c0 = len) : Met l yX6_ticks (ws_ yX6_ticks cX6_ticks 2 (some .int)) ({ frames := 2, cells := 0, slots := 0, locals := 43 } : Room) (va_Pc [.ref mo, .int (nI i)] (PW D [oO mo 6 [.int th, .ref a1, .int (nI nC), .ref a2, .ref a3, .ref a4, .ref a5, .ref a6, .ref a7, .ref a8, .ref a9, .int (nI nS), .ref a10, .int (nI nM), .ref a11], aI D a2 6 ln, aI D a10 130 pa])) (vp_Si (fun v => v = ticksS len pt)) 0 0 (fun _ => False) := by
  refine Met.ofW (cc := cX6_ticks) (maxL := 2) (ret := (some .int)) (by decide) rfl ?_
  intro p e s m args below meth c s₁ B hml hv
  obtain ⟨rfl, hG, hP⟩ := hv
  have hx := B.exec
  have hb := B.bytes
  have hr := B.returns
  have hts : ∀ w ∈ wsL_law, w.before _ s = true := fun w h => atoms_spec (ws := (ws_ yX6_ticks cX6_ticks 2 (some .int))) B.pre w (List.mem_cons_of_mem _ h)
  have hown : s.vm.findClass RX6 = some m.cls := findClass_of_methodNamed B.named
  have hlk := B.notSynchronized
  have hC : CallFix p m c cX6_ticks 2 s _ wsL_law RX6 := ⟨hx, hb, hml, hown, hts⟩
  have hl := lv_entry ([.ref mo, .int (nI i)]) (n := 2) (Nat.le_of_ble_eq_true rfl)
  rw [lg_entry_eq]
  generalize (lg_sl ([.ref mo, .int (nI i)]) ++ List.replicate (2 - (lg_sl ([.ref mo, .int (nI i)])).length) Slot.unset).toArray = ls at hl ⊢
  have hl : lv_has ls 2 [(0, .ref mo), (1, .int (nI i))] := hl
  refine lv_aload_n hx hb dX6_ticks_0 rfl (lv_at hl 0 rfl) ?_
  refine lv_iload_n hx hb dX6_ticks_1 rfl (lv_at hl 1 rfl) ?_
  have hP9 := hP
  refine vp_callSi (pV (rest := []) (qc := (RX6, TX6, 15)) [.int (nI i)] 1 hC (m_length l D (pt := pt) (c0 := c0) (len := len) (mo := mo) (i := i) (th := th) (a1 := a1) (nC := nC) (a2 := a2) (a3 := a3) (a4 := a4) (a5 := a5) (a6 := a6) (a7 := a7) (a8 := a8) (a9 := a9) (nS := nS) (a10 := a10) (nM := nM) (a11 := a11) (ln := ln) (pa := pa) (by omega) (hpa) (hc0) (by omega) (hlq)) rfl (hP 0 _ rfl) (gV mM_X6_123 mI_X6_length mS_X6_length mN_X6 mC_X6_length) (by decide +kernel) rfl rfl ⟨Nat.le_of_ble_eq_true rfl, Nat.le_of_ble_eq_true rfl⟩ hG hP9 rfl hl.1 rfl (Nat.le_of_ble_eq_true rfl) dX6_ticks_2 ⟨Nat.le_of_ble_eq_true rfl, Nat.le_of_ble_eq_true rfl⟩) (fun r2 h2 => ?_)
  obtain rfl : len = r2 := Eq.symm h2
  refine lv_aload_n hx hb dX6_ticks_5 rfl (lv_at hl 0 rfl) ?_
  refine lv_iload_n hx hb dX6_ticks_6 rfl (lv_at hl 1 rfl) ?_
  refine lv_iconst (v := 3) hx hb dX6_ticks_7 (by decide) ?_
  have hP9 := hP.sub (ws' := [oO mo 6 [.int th, .ref a1, .int (nI nC), .ref a2, .ref a3, .ref a4, .ref a5, .ref a6, .ref a7, .ref a8, .ref a9, .int (nI nS), .ref a10, .int (nI nM), .ref a11], aI D a10 130 pa]) [0, 2] rfl
  refine vp_callSi (pV (rest := [.int len]) (qc := (RX6, TX6, 15)) [.int (nI i), .int 3] 2 hC (m_part l D (mo := mo) (i := i) (w := 3) (th := th) (a1 := a1) (nC := nC) (a2 := a2) (a3 := a3) (a4 := a4) (a5 := a5) (a6 := a6) (a7 := a7) (a8 := a8) (a9 := a9) (nS := nS) (a10 := a10) (nM := nM) (a11 := a11) (pa := pa) (by omega) (by omega)) rfl (hP 0 _ rfl) (gV mM_X6_120 mI_X6_part mS_X6_part mN_X6 mC_X6_part) (by decide +kernel) rfl rfl ⟨Nat.le_of_ble_eq_true rfl, Nat.le_of_ble_eq_true rfl⟩ hG hP9 rfl hl.1 rfl (Nat.le_of_ble_eq_true rfl) dX6_ticks_8 ⟨Nat.le_of_ble_eq_true rfl, Nat.le_of_ble_eq_true rfl⟩) (fun r8 h8 => ?_)
  obtain rfl : r8 = (pa (13 * i + 3)) := h8
  refine tpi (y := pt 3) (hpa 3 (by decide) (by decide)) ?_
  refine lv_imul hx hb dX6_ticks_11 ?_
  refine Ri hx hb hr hlk ?_ dX6_ticks_12
  exact rfl
set_option maxHeartbeats 400000 in
set_option maxRecDepth 100000 in
theorem m_timeOf (l : Launch) (D : va_G) {mo a1 a2 a3 a4 a5 a6 a7 a8 a9 a10 a11 nC nS nM : Nat} {th : Int32} {ln pa pt : Nat → Int32} {i c0 : Nat} {len : Int32} {x : Int32} (hi : i < 10) (hpa : ∀ w, w < 13 → ¬ w = 2 → pa (13 * i + w) = pt w) (hc0 : pa (13 * i) = nI c0) (hc6 : c0 < 6) (hlq : ln c0 = len) (hp : 0 < pt 5) : Met l yX6_timeOf (ws_ yX6_timeOf cX6_timeOf 3 (some .int)) ({ frames := 1, cells := 0, slots := 0, locals := 22 } : Room) (va_Pc [.ref mo, .int (nI i), .int x] (PW D [oO mo 6 [.int th, .ref a1, .int (nI nC), .ref a2, .ref a3, .ref a4, .ref a5, .ref a6, .ref a7, .ref a8, .ref a9, .int (nI nS), .ref a10, .int (nI nM), .ref a11], aI D a2 6 ln, aI D a10 130 pa])) (vp_Si (fun v => v = timeOfS pt x)) 0 0 (fun _ => False) := by
  refine Met.ofW (cc := cX6_timeOf) (maxL := 3) (ret := (some .int)) (by decide) rfl ?_
  intro p e s m args below meth c s₁ B hml hv
  obtain ⟨rfl, hG, hP⟩ := hv
  have hx := B.exec
  have hb := B.bytes
  have hr := B.returns
  have hts : ∀ w ∈ wsL_law, w.before _ s = true := fun w h => atoms_spec (ws := (ws_ yX6_timeOf cX6_timeOf 3 (some .int))) B.pre w (List.mem_cons_of_mem _ h)
  have hown : s.vm.findClass RX6 = some m.cls := findClass_of_methodNamed B.named
  have hlk := B.notSynchronized
  have hC : CallFix p m c cX6_timeOf 3 s _ wsL_law RX6 := ⟨hx, hb, hml, hown, hts⟩
  have hl := lv_entry ([.ref mo, .int (nI i), .int x]) (n := 3) (Nat.le_of_ble_eq_true rfl)
  rw [lg_entry_eq]
  generalize (lg_sl ([.ref mo, .int (nI i), .int x]) ++ List.replicate (3 - (lg_sl ([.ref mo, .int (nI i), .int x])).length) Slot.unset).toArray = ls at hl ⊢
  have hl : lv_has ls 3 [(0, .ref mo), (1, .int (nI i)), (2, .int x)] := hl
  refine lv_aload_n hx hb dX6_timeOf_0 rfl (lv_at hl 0 rfl) ?_
  refine lv_iload_n hx hb dX6_timeOf_1 rfl (lv_at hl 1 rfl) ?_
  refine lv_iconst (v := 1) hx hb dX6_timeOf_2 (by decide) ?_
  have hP9 := hP.sub (ws' := [oO mo 6 [.int th, .ref a1, .int (nI nC), .ref a2, .ref a3, .ref a4, .ref a5, .ref a6, .ref a7, .ref a8, .ref a9, .int (nI nS), .ref a10, .int (nI nM), .ref a11], aI D a10 130 pa]) [0, 2] rfl
  refine vp_callSi (pV (rest := []) (qc := (RX6, TX6, 15)) [.int (nI i), .int 1] 2 hC (m_part l D (mo := mo) (i := i) (w := 1) (th := th) (a1 := a1) (nC := nC) (a2 := a2) (a3 := a3) (a4 := a4) (a5 := a5) (a6 := a6) (a7 := a7) (a8 := a8) (a9 := a9) (nS := nS) (a10 := a10) (nM := nM) (a11 := a11) (pa := pa) (by omega) (by omega)) rfl (hP 0 _ rfl) (gV mM_X6_120 mI_X6_part mS_X6_part mN_X6 mC_X6_part) (by decide +kernel) rfl rfl ⟨Nat.le_of_ble_eq_true rfl, Nat.le_of_ble_eq_true rfl⟩ hG hP9 rfl hl.1 rfl (Nat.le_of_ble_eq_true rfl) dX6_timeOf_3 ⟨Nat.le_of_ble_eq_true rfl, Nat.le_of_ble_eq_true rfl⟩) (fun r3 h3 => ?_)
  obtain rfl : r3 = (pa (13 * i + 1)) := h3
  refine tpi (y := pt 1) (hpa 1 (by decide) (by decide)) ?_
  refine lv_iload_n hx hb dX6_timeOf_6 rfl (lv_at hl 2 rfl) ?_
  refine lv_aload_n hx hb dX6_timeOf_7 rfl (lv_at hl 0 rfl) ?_
  refine lv_iload_n hx hb dX6_timeOf_8 rfl (lv_at hl 1 rfl) ?_
  refine lv_bipush (v := 6) hx hb dX6_timeOf_9 (by decide) ?_
  have hP9 := hP.sub (ws' := [oO mo 6 [.int th, .ref a1, .int (nI nC), .ref a2, .ref a3, .ref a4, .ref a5, .ref a6, .ref a7, .ref a8, .ref a9, .int (nI nS), .ref a10, .int (nI nM), .ref a11], aI D a10 130 pa]) [0, 2] rfl
  refine vp_callSi (pV (rest := [.int x, .int (pt 1)]) (qc := (RX6, TX6, 15)) [.int (nI i), .int 6] 2 hC (m_part l D (mo := mo) (i := i) (w := 6) (th := th) (a1 := a1) (nC := nC) (a2 := a2) (a3 := a3) (a4 := a4) (a5 := a5) (a6 := a6) (a7 := a7) (a8 := a8) (a9 := a9) (nS := nS) (a10 := a10) (nM := nM) (a11 := a11) (pa := pa) (by omega) (by omega)) rfl (hP 0 _ rfl) (gV mM_X6_120 mI_X6_part mS_X6_part mN_X6 mC_X6_part) (by decide +kernel) rfl rfl ⟨Nat.le_of_ble_eq_true rfl, Nat.le_of_ble_eq_true rfl⟩ hG hP9 rfl hl.1 rfl (Nat.le_of_ble_eq_true rfl) dX6_timeOf_11 ⟨Nat.le_of_ble_eq_true rfl, Nat.le_of_ble_eq_true rfl⟩) (fun r11 h11 => ?_)
  obtain rfl : r11 = (pa (13 * i + 6)) := h11
  refine tpi (y := pt 6) (hpa 6 (by decide) (by decide)) ?_
  refine lv_imul hx hb dX6_timeOf_14 ?_
  refine lv_aload_n hx hb dX6_timeOf_15 rfl (lv_at hl 0 rfl) ?_
  refine lv_iload_n hx hb dX6_timeOf_16 rfl (lv_at hl 1 rfl) ?_
  refine lv_iconst (v := 5) hx hb dX6_timeOf_17 (by decide) ?_
  have hP9 := hP.sub (ws' := [oO mo 6 [.int th, .ref a1, .int (nI nC), .ref a2, .ref a3, .ref a4, .ref a5, .ref a6, .ref a7, .ref a8, .ref a9, .int (nI nS), .ref a10, .int (nI nM), .ref a11], aI D a10 130 pa]) [0, 2] rfl
  refine vp_callSi (pV (rest := [.int (x * (pt 6)), .int (pt 1)]) (qc := (RX6, TX6, 15)) [.int (nI i), .int 5] 2 hC (m_part l D (mo := mo) (i := i) (w := 5) (th := th) (a1 := a1) (nC := nC) (a2 := a2) (a3 := a3) (a4 := a4) (a5 := a5) (a6 := a6) (a7 := a7) (a8 := a8) (a9 := a9) (nS := nS) (a10 := a10) (nM := nM) (a11 := a11) (pa := pa) (by omega) (by omega)) rfl (hP 0 _ rfl) (gV mM_X6_120 mI_X6_part mS_X6_part mN_X6 mC_X6_part) (by decide +kernel) rfl rfl ⟨Nat.le_of_ble_eq_true rfl, Nat.le_of_ble_eq_true rfl⟩ hG hP9 rfl hl.1 rfl (Nat.le_of_ble_eq_true rfl) dX6_timeOf_18 ⟨Nat.le_of_ble_eq_true rfl, Nat.le_of_ble_eq_true rfl⟩) (fun r18 h18 => ?_)
  obtain rfl : r18 = (pa (13 * i + 5)) := h18
  refine tpi (y := pt 5) (hpa 5 (by decide) (by decide)) ?_
  refine lv_iadd hx hb dX6_timeOf_21 ?_
  refine lv_iconst (v := 1) hx hb dX6_timeOf_22 (by decide) ?_
  refine lv_isub hx hb dX6_timeOf_23 ?_
  refine lv_aload_n hx hb dX6_timeOf_24 rfl (lv_at hl 0 rfl) ?_
  refine lv_iload_n hx hb dX6_timeOf_25 rfl (lv_at hl 1 rfl) ?_
  refine lv_iconst (v := 5) hx hb dX6_timeOf_26 (by decide) ?_
  have hP9 := hP.sub (ws' := [oO mo 6 [.int th, .ref a1, .int (nI nC), .ref a2, .ref a3, .ref a4, .ref a5, .ref a6, .ref a7, .ref a8, .ref a9, .int (nI nS), .ref a10, .int (nI nM), .ref a11], aI D a10 130 pa]) [0, 2] rfl
  refine vp_callSi (pV (rest := [.int (((x * (pt 6)) + (pt 5)) - 1), .int (pt 1)]) (qc := (RX6, TX6, 15)) [.int (nI i), .int 5] 2 hC (m_part l D (mo := mo) (i := i) (w := 5) (th := th) (a1 := a1) (nC := nC) (a2 := a2) (a3 := a3) (a4 := a4) (a5 := a5) (a6 := a6) (a7 := a7) (a8 := a8) (a9 := a9) (nS := nS) (a10 := a10) (nM := nM) (a11 := a11) (pa := pa) (by omega) (by omega)) rfl (hP 0 _ rfl) (gV mM_X6_120 mI_X6_part mS_X6_part mN_X6 mC_X6_part) (by decide +kernel) rfl rfl ⟨Nat.le_of_ble_eq_true rfl, Nat.le_of_ble_eq_true rfl⟩ hG hP9 rfl hl.1 rfl (Nat.le_of_ble_eq_true rfl) dX6_timeOf_27 ⟨Nat.le_of_ble_eq_true rfl, Nat.le_of_ble_eq_true rfl⟩) (fun r27 h27 => ?_)
  obtain rfl : r27 = (pa (13 * i + 5)) := h27
  refine tpi (y := pt 5) (hpa 5 (by decide) (by decide)) ?_
  refine lv_idiv hx hb dX6_timeOf_30 (fun h => by rw [h] at hp; exact absurd hp (by decide)) ?_
  refine lv_iadd hx hb dX6_timeOf_31 ?_
  refine Ri hx hb hr hlk ?_ dX6_timeOf_32
  exact rfl
set_option maxHeartbeats 400000 in
set_option maxRecDepth 100000 in
theorem m_endOf (l : Launch) (D : va_G) {mo a1 a2 a3 a4 a5 a6 a7 a8 a9 a10 a11 nC nS nM : Nat} {th : Int32} {ln pa pt : Nat → Int32} {i c0 : Nat} {len : Int32} (hi : i < 10) (hpa : ∀ w, w < 13 → ¬ w = 2 → pa (13 * i + w) = pt w) (hc0 : pa (13 * i) = nI c0) (hc6 : c0 < 6) (hlq : ln c0 = len) (hp : 0 < pt 5) : Met l yX6_endOf (ws_ yX6_endOf cX6_endOf 2 (some .int)) ({ frames := 3, cells := 0, slots := 0, locals := 64 } : Room) (va_Pc [.ref mo, .int (nI i)] (PW D [oO mo 6 [.int th, .ref a1, .int (nI nC), .ref a2, .ref a3, .ref a4, .ref a5, .ref a6, .ref a7, .ref a8, .ref a9, .int (nI nS), .ref a10, .int (nI nM), .ref a11], aI D a2 6 ln, aI D a10 130 pa])) (vp_Si (fun v => v = endS len pt)) 0 0 (fun _ => False) := by
  refine Met.ofW (cc := cX6_endOf) (maxL := 2) (ret := (some .int)) (by decide) rfl ?_
  intro p e s m args below meth c s₁ B hml hv
  obtain ⟨rfl, hG, hP⟩ := hv
  have hx := B.exec
  have hb := B.bytes
  have hr := B.returns
  have hts : ∀ w ∈ wsL_law, w.before _ s = true := fun w h => atoms_spec (ws := (ws_ yX6_endOf cX6_endOf 2 (some .int))) B.pre w (List.mem_cons_of_mem _ h)
  have hown : s.vm.findClass RX6 = some m.cls := findClass_of_methodNamed B.named
  have hlk := B.notSynchronized
  have hC : CallFix p m c cX6_endOf 2 s _ wsL_law RX6 := ⟨hx, hb, hml, hown, hts⟩
  have hl := lv_entry ([.ref mo, .int (nI i)]) (n := 2) (Nat.le_of_ble_eq_true rfl)
  rw [lg_entry_eq]
  generalize (lg_sl ([.ref mo, .int (nI i)]) ++ List.replicate (2 - (lg_sl ([.ref mo, .int (nI i)])).length) Slot.unset).toArray = ls at hl ⊢
  have hl : lv_has ls 2 [(0, .ref mo), (1, .int (nI i))] := hl
  refine lv_aload_n hx hb dX6_endOf_0 rfl (lv_at hl 0 rfl) ?_
  refine lv_iload_n hx hb dX6_endOf_1 rfl (lv_at hl 1 rfl) ?_
  refine lv_aload_n hx hb dX6_endOf_2 rfl (lv_at hl 0 rfl) ?_
  refine lv_iload_n hx hb dX6_endOf_3 rfl (lv_at hl 1 rfl) ?_
  have hP9 := hP
  refine vp_callSi (pV (rest := [.int (nI i), .ref mo]) (qc := (RX6, TX6, 15)) [.int (nI i)] 1 hC (m_ticks l D (pt := pt) (c0 := c0) (len := len) (mo := mo) (i := i) (th := th) (a1 := a1) (nC := nC) (a2 := a2) (a3 := a3) (a4 := a4) (a5 := a5) (a6 := a6) (a7 := a7) (a8 := a8) (a9 := a9) (nS := nS) (a10 := a10) (nM := nM) (a11 := a11) (ln := ln) (pa := pa) (by omega) (hpa) (hc0) (by omega) (hlq)) rfl (hP 0 _ rfl) (gV mM_X6_126 mI_X6_ticks mS_X6_ticks mN_X6 mC_X6_ticks) (by decide +kernel) rfl rfl ⟨Nat.le_of_ble_eq_true rfl, Nat.le_of_ble_eq_true rfl⟩ hG hP9 rfl hl.1 rfl (Nat.le_of_ble_eq_true rfl) dX6_endOf_4 ⟨Nat.le_of_ble_eq_true rfl, Nat.le_of_ble_eq_true rfl⟩) (fun r4 h4 => ?_)
  obtain rfl : r4 = (ticksS len pt) := h4
  have hP9 := hP
  refine vp_callSi (pV (rest := []) (qc := (RX6, TX6, 15)) [.int (nI i), .int (ticksS len pt)] 2 hC (m_timeOf l D (pt := pt) (c0 := c0) (len := len) (mo := mo) (i := i) (x := ticksS len pt) (th := th) (a1 := a1) (nC := nC) (a2 := a2) (a3 := a3) (a4 := a4) (a5 := a5) (a6 := a6) (a7 := a7) (a8 := a8) (a9 := a9) (nS := nS) (a10 := a10) (nM := nM) (a11 := a11) (ln := ln) (pa := pa) (by omega) (hpa) (hc0) (by omega) (hlq) (hp)) rfl (hP 0 _ rfl) (gV mM_X6_129 mI_X6_timeOf mS_X6_timeOf mN_X6 mC_X6_timeOf) (by decide +kernel) rfl rfl ⟨Nat.le_of_ble_eq_true rfl, Nat.le_of_ble_eq_true rfl⟩ hG hP9 rfl hl.1 rfl (Nat.le_of_ble_eq_true rfl) dX6_endOf_7 ⟨Nat.le_of_ble_eq_true rfl, Nat.le_of_ble_eq_true rfl⟩) (fun r7 h7 => ?_)
  obtain rfl : r7 = (timeOfS pt (ticksS len pt)) := h7
  refine Ri hx hb hr hlk ?_ dX6_endOf_10
  exact rfl
set_option maxHeartbeats 400000 in
set_option maxRecDepth 100000 in
theorem m_isBack (l : Launch) (D : va_G) {mo a1 a2 a3 a4 a5 a6 a7 a8 a9 a10 a11 nC nS nM : Nat} {th : Int32} {ln pa pt : Nat → Int32} {i c0 : Nat} {len : Int32} {x : Int32} (hi : i < 10) (hpa : ∀ w, w < 13 → ¬ w = 2 → pa (13 * i + w) = pt w) (hc0 : pa (13 * i) = nI c0) (hc6 : c0 < 6) (hlq : ln c0 = len) : Met l yX6_isBack (ws_ yX6_isBack cX6_isBack 3 (some .boolean)) ({ frames := 1, cells := 0, slots := 0, locals := 22 } : Room) (va_Pc [.ref mo, .int (nI i), .int x] (PW D [oO mo 6 [.int th, .ref a1, .int (nI nC), .ref a2, .ref a3, .ref a4, .ref a5, .ref a6, .ref a7, .ref a8, .ref a9, .int (nI nS), .ref a10, .int (nI nM), .ref a11], aI D a2 6 ln, aI D a10 130 pa])) (vp_Si (fun v => (v = 1 ∧ (backS pt x)) ∨ (v = 0 ∧ ¬ (backS pt x)))) 0 0 (fun _ => False) := by
  refine Met.ofW (cc := cX6_isBack) (maxL := 3) (ret := (some .boolean)) (by decide) rfl ?_
  intro p e s m args below meth c s₁ B hml hv
  obtain ⟨rfl, hG, hP⟩ := hv
  have hx := B.exec
  have hb := B.bytes
  have hr := B.returns
  have hts : ∀ w ∈ wsL_law, w.before _ s = true := fun w h => atoms_spec (ws := (ws_ yX6_isBack cX6_isBack 3 (some .boolean))) B.pre w (List.mem_cons_of_mem _ h)
  have hown : s.vm.findClass RX6 = some m.cls := findClass_of_methodNamed B.named
  have hlk := B.notSynchronized
  have hC : CallFix p m c cX6_isBack 3 s _ wsL_law RX6 := ⟨hx, hb, hml, hown, hts⟩
  have hl := lv_entry ([.ref mo, .int (nI i), .int x]) (n := 3) (Nat.le_of_ble_eq_true rfl)
  rw [lg_entry_eq]
  generalize (lg_sl ([.ref mo, .int (nI i), .int x]) ++ List.replicate (3 - (lg_sl ([.ref mo, .int (nI i), .int x])).length) Slot.unset).toArray = ls at hl ⊢
  have hl : lv_has ls 3 [(0, .ref mo), (1, .int (nI i)), (2, .int x)] := hl
  refine lv_aload_n hx hb dX6_isBack_0 rfl (lv_at hl 0 rfl) ?_
  refine lv_iload_n hx hb dX6_isBack_1 rfl (lv_at hl 1 rfl) ?_
  refine lv_iconst (v := 4) hx hb dX6_isBack_2 (by decide) ?_
  have hP9 := hP.sub (ws' := [oO mo 6 [.int th, .ref a1, .int (nI nC), .ref a2, .ref a3, .ref a4, .ref a5, .ref a6, .ref a7, .ref a8, .ref a9, .int (nI nS), .ref a10, .int (nI nM), .ref a11], aI D a10 130 pa]) [0, 2] rfl
  refine vp_callSi (pV (rest := []) (qc := (RX6, TX6, 15)) [.int (nI i), .int 4] 2 hC (m_part l D (mo := mo) (i := i) (w := 4) (th := th) (a1 := a1) (nC := nC) (a2 := a2) (a3 := a3) (a4 := a4) (a5 := a5) (a6 := a6) (a7 := a7) (a8 := a8) (a9 := a9) (nS := nS) (a10 := a10) (nM := nM) (a11 := a11) (pa := pa) (by omega) (by omega)) rfl (hP 0 _ rfl) (gV mM_X6_120 mI_X6_part mS_X6_part mN_X6 mC_X6_part) (by decide +kernel) rfl rfl ⟨Nat.le_of_ble_eq_true rfl, Nat.le_of_ble_eq_true rfl⟩ hG hP9 rfl hl.1 rfl (Nat.le_of_ble_eq_true rfl) dX6_isBack_3 ⟨Nat.le_of_ble_eq_true rfl, Nat.le_of_ble_eq_true rfl⟩) (fun r3 h3 => ?_)
  obtain rfl : r3 = (pa (13 * i + 4)) := h3
  refine tpi (y := pt 4) (hpa 4 (by decide) (by decide)) ?_
  refine lv_iconst (v := 1) hx hb dX6_isBack_6 (by decide) ?_
  refine lv_icmp_eq (tgt := 27) hx hb dX6_isBack_7 (by decide) (fun c7 => ?_) (fun c7 => ?_)
  · skip
    refine lv_iconst (v := 1) hx hb dX6_isBack_27 (by decide) ?_
    refine lv_goto (tgt := 32) hx hb dX6_isBack_28 (by decide) ?_
    refine Rz hx hb hr hlk (by first | rfl | decide) ?_ dX6_isBack_32
    first
    | exact Or.inl ⟨rfl, Or.inl c7⟩
    | exact Or.inl ⟨rfl, Or.inr ⟨c17, c24⟩⟩
    | exact Or.inr ⟨rfl, fun h => h.elim c7 (fun z => c17 z.1)⟩
    | exact Or.inr ⟨rfl, fun h => h.elim c7 (fun z => c24 z.2)⟩
  · skip
    refine lv_aload_n hx hb dX6_isBack_10 rfl (lv_at hl 0 rfl) ?_
    refine lv_iload_n hx hb dX6_isBack_11 rfl (lv_at hl 1 rfl) ?_
    refine lv_iconst (v := 4) hx hb dX6_isBack_12 (by decide) ?_
    have hP9 := hP.sub (ws' := [oO mo 6 [.int th, .ref a1, .int (nI nC), .ref a2, .ref a3, .ref a4, .ref a5, .ref a6, .ref a7, .ref a8, .ref a9, .int (nI nS), .ref a10, .int (nI nM), .ref a11], aI D a10 130 pa]) [0, 2] rfl
    refine vp_callSi (pV (rest := []) (qc := (RX6, TX6, 15)) [.int (nI i), .int 4] 2 hC (m_part l D (mo := mo) (i := i) (w := 4) (th := th) (a1 := a1) (nC := nC) (a2 := a2) (a3 := a3) (a4 := a4) (a5 := a5) (a6 := a6) (a7 := a7) (a8 := a8) (a9 := a9) (nS := nS) (a10 := a10) (nM := nM) (a11 := a11) (pa := pa) (by omega) (by omega)) rfl (hP 0 _ rfl) (gV mM_X6_120 mI_X6_part mS_X6_part mN_X6 mC_X6_part) (by decide +kernel) rfl rfl ⟨Nat.le_of_ble_eq_true rfl, Nat.le_of_ble_eq_true rfl⟩ hG hP9 rfl hl.1 rfl (Nat.le_of_ble_eq_true rfl) dX6_isBack_13 ⟨Nat.le_of_ble_eq_true rfl, Nat.le_of_ble_eq_true rfl⟩) (fun r13 h13 => ?_)
    obtain rfl : r13 = (pa (13 * i + 4)) := h13
    refine tpi (y := pt 4) (hpa 4 (by decide) (by decide)) ?_
    refine lv_iconst (v := 2) hx hb dX6_isBack_16 (by decide) ?_
    refine lv_icmp_ne (tgt := 31) hx hb dX6_isBack_17 (by decide) (fun c17 => ?_) (fun c17 => ?_)
    · skip
      refine lv_iconst (v := 0) hx hb dX6_isBack_31 (by decide) ?_
      refine Rz hx hb hr hlk (by first | rfl | decide) ?_ dX6_isBack_32
      first
      | exact Or.inl ⟨rfl, Or.inl c7⟩
      | exact Or.inl ⟨rfl, Or.inr ⟨c17, c24⟩⟩
      | exact Or.inr ⟨rfl, fun h => h.elim c7 (fun z => c17 z.1)⟩
      | exact Or.inr ⟨rfl, fun h => h.elim c7 (fun z => c24 z.2)⟩
    · skip
      refine lv_iload_n hx hb dX6_isBack_20 rfl (lv_at hl 2 rfl) ?_
      refine lv_iconst (v := 2) hx hb dX6_isBack_21 (by decide) ?_
      refine lv_irem hx hb dX6_isBack_22 (by decide) ?_
      refine lv_iconst (v := 1) hx hb dX6_isBack_23 (by decide) ?_
      refine lv_icmp_ne (tgt := 31) hx hb dX6_isBack_24 (by decide) (fun c24 => ?_) (fun c24 => ?_)
      · skip
        refine lv_iconst (v := 0) hx hb dX6_isBack_31 (by decide) ?_
        refine Rz hx hb hr hlk (by first | rfl | decide) ?_ dX6_isBack_32
        first
        | exact Or.inl ⟨rfl, Or.inl c7⟩
        | exact Or.inl ⟨rfl, Or.inr ⟨c17, c24⟩⟩
        | exact Or.inr ⟨rfl, fun h => h.elim c7 (fun z => c17 z.1)⟩
        | exact Or.inr ⟨rfl, fun h => h.elim c7 (fun z => c24 z.2)⟩
      · skip
        refine lv_iconst (v := 1) hx hb dX6_isBack_27 (by decide) ?_
        refine lv_goto (tgt := 32) hx hb dX6_isBack_28 (by decide) ?_
        refine Rz hx hb hr hlk (by first | rfl | decide) ?_ dX6_isBack_32
        first
        | exact Or.inl ⟨rfl, Or.inl c7⟩
        | exact Or.inl ⟨rfl, Or.inr ⟨c17, c24⟩⟩
        | exact Or.inr ⟨rfl, fun h => h.elim c7 (fun z => c17 z.1)⟩
        | exact Or.inr ⟨rfl, fun h => h.elim c7 (fun z => c24 z.2)⟩
set_option maxHeartbeats 400000 in
set_option maxRecDepth 100000 in
theorem m_isOn (l : Launch) (D : va_G) {mo a1 a2 a3 a4 a5 a6 a7 a8 a9 a10 a11 nC nS nM : Nat} {th : Int32} {ln pa pt : Nat → Int32} {i c0 : Nat} {len : Int32} {x : Int32} (hi : i < 10) (hpa : ∀ w, w < 13 → ¬ w = 2 → pa (13 * i + w) = pt w) (hc0 : pa (13 * i) = nI c0) (hc6 : c0 < 6) (hlq : ln c0 = len) (hp : 0 < pt 5) (h10 : pt 10 = 0 ∨ pt 10 = 1) : Met l yX6_isOn (ws_ yX6_isOn cX6_isOn 3 (some .boolean)) ({ frames := 4, cells := 0, slots := 0, locals := 85 } : Room) (va_Pc [.ref mo, .int (nI i), .int x] (PW D [oO mo 6 [.int th, .ref a1, .int (nI nC), .ref a2, .ref a3, .ref a4, .ref a5, .ref a6, .ref a7, .ref a8, .ref a9, .int (nI nS), .ref a10, .int (nI nM), .ref a11], aI D a2 6 ln, aI D a10 130 pa])) (vp_Si (fun v => (v = 1 ∧ (isOnS len pt x)) ∨ (v = 0 ∧ ¬ (isOnS len pt x)))) 0 0 (fun _ => False) := by
  refine Met.ofW (cc := cX6_isOn) (maxL := 3) (ret := (some .boolean)) (by decide) rfl ?_
  intro p e s m args below meth c s₁ B hml hv
  obtain ⟨rfl, hG, hP⟩ := hv
  have hx := B.exec
  have hb := B.bytes
  have hr := B.returns
  have hts : ∀ w ∈ wsL_law, w.before _ s = true := fun w h => atoms_spec (ws := (ws_ yX6_isOn cX6_isOn 3 (some .boolean))) B.pre w (List.mem_cons_of_mem _ h)
  have hown : s.vm.findClass RX6 = some m.cls := findClass_of_methodNamed B.named
  have hlk := B.notSynchronized
  have hC : CallFix p m c cX6_isOn 3 s _ wsL_law RX6 := ⟨hx, hb, hml, hown, hts⟩
  have hl := lv_entry ([.ref mo, .int (nI i), .int x]) (n := 3) (Nat.le_of_ble_eq_true rfl)
  rw [lg_entry_eq]
  generalize (lg_sl ([.ref mo, .int (nI i), .int x]) ++ List.replicate (3 - (lg_sl ([.ref mo, .int (nI i), .int x])).length) Slot.unset).toArray = ls at hl ⊢
  have hl : lv_has ls 3 [(0, .ref mo), (1, .int (nI i)), (2, .int x)] := hl
  refine lv_iload_n hx hb dX6_isOn_0 rfl (lv_at hl 2 rfl) ?_
  refine lv_aload_n hx hb dX6_isOn_1 rfl (lv_at hl 0 rfl) ?_
  refine lv_iload_n hx hb dX6_isOn_2 rfl (lv_at hl 1 rfl) ?_
  refine lv_iconst (v := 1) hx hb dX6_isOn_3 (by decide) ?_
  have hP9 := hP.sub (ws' := [oO mo 6 [.int th, .ref a1, .int (nI nC), .ref a2, .ref a3, .ref a4, .ref a5, .ref a6, .ref a7, .ref a8, .ref a9, .int (nI nS), .ref a10, .int (nI nM), .ref a11], aI D a10 130 pa]) [0, 2] rfl
  refine vp_callSi (pV (rest := [.int x]) (qc := (RX6, TX6, 15)) [.int (nI i), .int 1] 2 hC (m_part l D (mo := mo) (i := i) (w := 1) (th := th) (a1 := a1) (nC := nC) (a2 := a2) (a3 := a3) (a4 := a4) (a5 := a5) (a6 := a6) (a7 := a7) (a8 := a8) (a9 := a9) (nS := nS) (a10 := a10) (nM := nM) (a11 := a11) (pa := pa) (by omega) (by omega)) rfl (hP 0 _ rfl) (gV mM_X6_120 mI_X6_part mS_X6_part mN_X6 mC_X6_part) (by decide +kernel) rfl rfl ⟨Nat.le_of_ble_eq_true rfl, Nat.le_of_ble_eq_true rfl⟩ hG hP9 rfl hl.1 rfl (Nat.le_of_ble_eq_true rfl) dX6_isOn_4 ⟨Nat.le_of_ble_eq_true rfl, Nat.le_of_ble_eq_true rfl⟩) (fun r4 h4 => ?_)
  obtain rfl : r4 = (pa (13 * i + 1)) := h4
  refine tpi (y := pt 1) (hpa 1 (by decide) (by decide)) ?_
  refine lv_icmp_lt (tgt := 34) hx hb dX6_isOn_7 (by decide) (fun c7 => ?_) (fun c7 => ?_)
  · skip
    refine lv_iconst (v := 0) hx hb dX6_isOn_34 (by decide) ?_
    refine Rz hx hb hr hlk (by first | rfl | decide) ?_ dX6_isOn_35
    first
    | exact Or.inl ⟨rfl, Int32.not_lt.mp c7, Or.inl (by rw [c18]; decide)⟩
    | exact Or.inl ⟨rfl, Int32.not_lt.mp c7, Or.inr (Int32.not_le.mp c27)⟩
    | exact Or.inr ⟨rfl, fun h => absurd c7 (Int32.not_lt.mpr h.1)⟩
    | exact Or.inr ⟨rfl, fun h => h.2.elim (fun z => h10.elim z c18) (fun z => absurd c27 (Int32.not_le.mpr z))⟩
  · skip
    refine lv_aload_n hx hb dX6_isOn_10 rfl (lv_at hl 0 rfl) ?_
    refine lv_iload_n hx hb dX6_isOn_11 rfl (lv_at hl 1 rfl) ?_
    refine lv_bipush (v := 10) hx hb dX6_isOn_12 (by decide) ?_
    have hP9 := hP.sub (ws' := [oO mo 6 [.int th, .ref a1, .int (nI nC), .ref a2, .ref a3, .ref a4, .ref a5, .ref a6, .ref a7, .ref a8, .ref a9, .int (nI nS), .ref a10, .int (nI nM), .ref a11], aI D a10 130 pa]) [0, 2] rfl
    refine vp_callSi (pV (rest := []) (qc := (RX6, TX6, 15)) [.int (nI i), .int 10] 2 hC (m_part l D (mo := mo) (i := i) (w := 10) (th := th) (a1 := a1) (nC := nC) (a2 := a2) (a3 := a3) (a4 := a4) (a5 := a5) (a6 := a6) (a7 := a7) (a8 := a8) (a9 := a9) (nS := nS) (a10 := a10) (nM := nM) (a11 := a11) (pa := pa) (by omega) (by omega)) rfl (hP 0 _ rfl) (gV mM_X6_120 mI_X6_part mS_X6_part mN_X6 mC_X6_part) (by decide +kernel) rfl rfl ⟨Nat.le_of_ble_eq_true rfl, Nat.le_of_ble_eq_true rfl⟩ hG hP9 rfl hl.1 rfl (Nat.le_of_ble_eq_true rfl) dX6_isOn_14 ⟨Nat.le_of_ble_eq_true rfl, Nat.le_of_ble_eq_true rfl⟩) (fun r14 h14 => ?_)
    obtain rfl : r14 = (pa (13 * i + 10)) := h14
    refine tpi (y := pt 10) (hpa 10 (by decide) (by decide)) ?_
    refine lv_iconst (v := 1) hx hb dX6_isOn_17 (by decide) ?_
    refine lv_icmp_eq (tgt := 30) hx hb dX6_isOn_18 (by decide) (fun c18 => ?_) (fun c18 => ?_)
    · skip
      refine lv_iconst (v := 1) hx hb dX6_isOn_30 (by decide) ?_
      refine lv_goto (tgt := 35) hx hb dX6_isOn_31 (by decide) ?_
      refine Rz hx hb hr hlk (by first | rfl | decide) ?_ dX6_isOn_35
      first
      | exact Or.inl ⟨rfl, Int32.not_lt.mp c7, Or.inl (by rw [c18]; decide)⟩
      | exact Or.inl ⟨rfl, Int32.not_lt.mp c7, Or.inr (Int32.not_le.mp c27)⟩
      | exact Or.inr ⟨rfl, fun h => absurd c7 (Int32.not_lt.mpr h.1)⟩
      | exact Or.inr ⟨rfl, fun h => h.2.elim (fun z => h10.elim z c18) (fun z => absurd c27 (Int32.not_le.mpr z))⟩
    · skip
      refine lv_iload_n hx hb dX6_isOn_21 rfl (lv_at hl 2 rfl) ?_
      refine lv_aload_n hx hb dX6_isOn_22 rfl (lv_at hl 0 rfl) ?_
      refine lv_iload_n hx hb dX6_isOn_23 rfl (lv_at hl 1 rfl) ?_
      have hP9 := hP
      refine vp_callSi (pV (rest := [.int x]) (qc := (RX6, TX6, 15)) [.int (nI i)] 1 hC (m_endOf l D (pt := pt) (c0 := c0) (len := len) (mo := mo) (i := i) (th := th) (a1 := a1) (nC := nC) (a2 := a2) (a3 := a3) (a4 := a4) (a5 := a5) (a6 := a6) (a7 := a7) (a8 := a8) (a9 := a9) (nS := nS) (a10 := a10) (nM := nM) (a11 := a11) (ln := ln) (pa := pa) (by omega) (hpa) (hc0) (by omega) (hlq) (hp)) rfl (hP 0 _ rfl) (gV mM_X6_132 mI_X6_endOf mS_X6_endOf mN_X6 mC_X6_endOf) (by decide +kernel) rfl rfl ⟨Nat.le_of_ble_eq_true rfl, Nat.le_of_ble_eq_true rfl⟩ hG hP9 rfl hl.1 rfl (Nat.le_of_ble_eq_true rfl) dX6_isOn_24 ⟨Nat.le_of_ble_eq_true rfl, Nat.le_of_ble_eq_true rfl⟩) (fun r24 h24 => ?_)
      obtain rfl : r24 = (endS len pt) := h24
      refine lv_icmp_ge (tgt := 34) hx hb dX6_isOn_27 (by decide) (fun c27 => ?_) (fun c27 => ?_)
      · skip
        refine lv_iconst (v := 0) hx hb dX6_isOn_34 (by decide) ?_
        refine Rz hx hb hr hlk (by first | rfl | decide) ?_ dX6_isOn_35
        first
        | exact Or.inl ⟨rfl, Int32.not_lt.mp c7, Or.inl (by rw [c18]; decide)⟩
        | exact Or.inl ⟨rfl, Int32.not_lt.mp c7, Or.inr (Int32.not_le.mp c27)⟩
        | exact Or.inr ⟨rfl, fun h => absurd c7 (Int32.not_lt.mpr h.1)⟩
        | exact Or.inr ⟨rfl, fun h => h.2.elim (fun z => h10.elim z c18) (fun z => absurd c27 (Int32.not_le.mpr z))⟩
      · skip
        refine lv_iconst (v := 1) hx hb dX6_isOn_30 (by decide) ?_
        refine lv_goto (tgt := 35) hx hb dX6_isOn_31 (by decide) ?_
        refine Rz hx hb hr hlk (by first | rfl | decide) ?_ dX6_isOn_35
        first
        | exact Or.inl ⟨rfl, Int32.not_lt.mp c7, Or.inl (by rw [c18]; decide)⟩
        | exact Or.inl ⟨rfl, Int32.not_lt.mp c7, Or.inr (Int32.not_le.mp c27)⟩
        | exact Or.inr ⟨rfl, fun h => absurd c7 (Int32.not_lt.mpr h.1)⟩
        | exact Or.inr ⟨rfl, fun h => h.2.elim (fun z => h10.elim z c18) (fun z => absurd c27 (Int32.not_le.mpr z))⟩
