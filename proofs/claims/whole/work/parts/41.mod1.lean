theorem nin_of {x : Int32} {n : Nat} (hn : n < 2 ^ 30) (h : x < 0 ∨ nI n ≤ x) : ¬ (0 ≤ x ∧ x ≤ nI n - 1) := by
  have e : (nI n - 1).toInt = (n : Int) - 1 := by
    rw [fb_subI (by rw [nI_toInt (by omega)]; have : (1 : Int32).toInt = 1 := by decide
                    omega) (by rw [nI_toInt (by omega)]; have : (1 : Int32).toInt = 1 := by decide
                               omega), nI_toInt (by omega)]
    rfl
  rw [fa_lt, fa_le, nI_toInt (by omega), show (0 : Int32).toInt = 0 by decide] at h
  rw [fa_le, fa_le, e, show (0 : Int32).toInt = 0 by decide]
  omega
theorem mrnd (a b : Int64) : (fdL (2 * a + b) (2 * b)).toInt32 = rnd a b := rfl
set_option maxHeartbeats 400000 in
set_option maxRecDepth 100000 in
theorem m_isIn (l : Launch) (D : va_G) {x a b : Int32}  : Met l yX6_isIn (ws_ yX6_isIn cX6_isIn 3 (some .boolean)) ({ frames := 0, cells := 0, slots := 0, locals := 0 } : Room) (va_Pc [.int x, .int a, .int b] (PW D [])) (vp_Si (fun v => (v = 1 ∧ (a ≤ x ∧ x ≤ b)) ∨ (v = 0 ∧ ¬ (a ≤ x ∧ x ≤ b)))) 0 0 (fun _ => False) := by
  refine Met.ofW (cc := cX6_isIn) (maxL := 3) (ret := (some .boolean)) (by decide) rfl ?_
  intro p e s m args below meth c s₁ B hml hv
  obtain ⟨rfl, hG, hP⟩ := hv
  have hx := B.exec
  have hb := B.bytes
  have hr := B.returns
  have hts : ∀ w ∈ wsL_law, w.before _ s = true := fun w h => atoms_spec (ws := (ws_ yX6_isIn cX6_isIn 3 (some .boolean))) B.pre w (List.mem_cons_of_mem _ h)
  have hown : s.vm.findClass RX6 = some m.cls := findClass_of_methodNamed B.named
  have hlk := B.notSynchronized
  have hC : CallFix p m c cX6_isIn 3 s _ wsL_law RX6 := ⟨hx, hb, hml, hown, hts⟩
  have hl := lv_entry ([.int x, .int a, .int b]) (n := 3) (Nat.le_of_ble_eq_true rfl)
  rw [lg_entry_eq]
  generalize (lg_sl ([.int x, .int a, .int b]) ++ List.replicate (3 - (lg_sl ([.int x, .int a, .int b])).length) Slot.unset).toArray = ls at hl ⊢
  have hl : lv_has ls 3 [(0, .int x), (1, .int a), (2, .int b)] := hl
  refine lv_iload_n hx hb dX6_isIn_0 rfl (lv_at hl 0 rfl) ?_
  refine lv_iload_n hx hb dX6_isIn_1 rfl (lv_at hl 1 rfl) ?_
  refine lv_icmp_lt (tgt := 14) hx hb dX6_isIn_2 (by decide) (fun c2 => ?_) (fun c2 => ?_)
  · skip
    refine lv_iconst (v := 0) hx hb dX6_isIn_14 (by decide) ?_
    refine Rz hx hb hr hlk (by first | rfl | decide) ?_ dX6_isIn_15
    first
    | exact Or.inl ⟨rfl, Int32.not_lt.mp c2, Int32.not_lt.mp c7⟩
    | exact Or.inr ⟨rfl, fun h => absurd c2 (Int32.not_lt.mpr h.1)⟩
    | exact Or.inr ⟨rfl, fun h => absurd c7 (Int32.not_lt.mpr h.2)⟩
  · skip
    refine lv_iload_n hx hb dX6_isIn_5 rfl (lv_at hl 0 rfl) ?_
    refine lv_iload_n hx hb dX6_isIn_6 rfl (lv_at hl 2 rfl) ?_
    refine lv_icmp_gt (tgt := 14) hx hb dX6_isIn_7 (by decide) (fun c7 => ?_) (fun c7 => ?_)
    · skip
      refine lv_iconst (v := 0) hx hb dX6_isIn_14 (by decide) ?_
      refine Rz hx hb hr hlk (by first | rfl | decide) ?_ dX6_isIn_15
      first
      | exact Or.inl ⟨rfl, Int32.not_lt.mp c2, Int32.not_lt.mp c7⟩
      | exact Or.inr ⟨rfl, fun h => absurd c2 (Int32.not_lt.mpr h.1)⟩
      | exact Or.inr ⟨rfl, fun h => absurd c7 (Int32.not_lt.mpr h.2)⟩
    · skip
      refine lv_iconst (v := 1) hx hb dX6_isIn_10 (by decide) ?_
      refine lv_goto (tgt := 15) hx hb dX6_isIn_11 (by decide) ?_
      refine Rz hx hb hr hlk (by first | rfl | decide) ?_ dX6_isIn_15
      first
      | exact Or.inl ⟨rfl, Int32.not_lt.mp c2, Int32.not_lt.mp c7⟩
      | exact Or.inr ⟨rfl, fun h => absurd c2 (Int32.not_lt.mpr h.1)⟩
      | exact Or.inr ⟨rfl, fun h => absurd c7 (Int32.not_lt.mpr h.2)⟩
set_option maxHeartbeats 400000 in
set_option maxRecDepth 100000 in
theorem m_no (l : Launch) (D : va_G) {mo a1 a2 a3 a4 a5 a6 a7 a8 a9 a10 a11 nC nS nM : Nat} {th : Int32} {x : Int32} (hz0 : Nat)  : Met l yX6_no (ws_ yX6_no cX6_no 2 (some .int)) ({ frames := 0, cells := 0, slots := 0, locals := 0 } : Room) (va_Pc [.ref mo, .int x] (SW D [oO mo 6 [.int th, .ref a1, .int (nI nC), .ref a2, .ref a3, .ref a4, .ref a5, .ref a6, .ref a7, .ref a8, .ref a9, .int (nI nS), .ref a10, .int (nI nM), .ref a11]] hz0)) (va_Qi (fun v _ => v = 0) (AT D (va_A [oO mo 6 [.int th, .ref a1, .int (nI nC), .ref a2, .ref a3, .ref a4, .ref a5, .ref a6, .ref a7, .ref a8, .ref a9, .int (nI nS), .ref a10, .int (nI nM), .ref a11]] hz0) (fun _ : Unit => [oO mo 6 [.int x, .ref a1, .int (nI nC), .ref a2, .ref a3, .ref a4, .ref a5, .ref a6, .ref a7, .ref a8, .ref a9, .int (nI nS), .ref a10, .int (nI nM), .ref a11]])) (va_A [oO mo 6 [.int th, .ref a1, .int (nI nC), .ref a2, .ref a3, .ref a4, .ref a5, .ref a6, .ref a7, .ref a8, .ref a9, .int (nI nS), .ref a10, .int (nI nM), .ref a11]] hz0)) 0 0 (va_A [oO mo 6 [.int th, .ref a1, .int (nI nC), .ref a2, .ref a3, .ref a4, .ref a5, .ref a6, .ref a7, .ref a8, .ref a9, .int (nI nS), .ref a10, .int (nI nM), .ref a11]] hz0) := by
  refine Met.ofW (cc := cX6_no) (maxL := 2) (ret := (some .int)) (by decide) rfl ?_
  intro p e s m args below meth c s₁ B hml hv
  obtain ⟨rfl, hsz, hG, hP, hD0⟩ := hv
  have hx := B.exec
  have hb := B.bytes
  have hr := B.returns
  have hts : ∀ w ∈ wsL_law, w.before _ s = true := fun w h => atoms_spec (ws := (ws_ yX6_no cX6_no 2 (some .int))) B.pre w (List.mem_cons_of_mem _ h)
  have hown : s.vm.findClass RX6 = some m.cls := findClass_of_methodNamed B.named
  have hlk := B.notSynchronized
  have hC : CallFix p m c cX6_no 2 s _ wsL_law RX6 := ⟨hx, hb, hml, hown, hts⟩
  subst hsz
  have hD := hD0.self (sz := s.heap.size)
  generalize hAe : va_A [oO mo 6 [.int th, .ref a1, .int (nI nC), .ref a2, .ref a3, .ref a4, .ref a5, .ref a6, .ref a7, .ref a8, .ref a9, .int (nI nS), .ref a10, .int (nI nM), .ref a11]] s.heap.size = A at hD ⊢
  have hA : ∀ q : Nat, s.heap.size ≤ q → A q := fun q h => by rw [← hAe]; exact Or.inr h
  have hS : va_S A s.heap s.heap [] := va_S.rf
  obtain ⟨H, hHe⟩ : ∃ H, H = s.heap := ⟨_, rfl⟩
  rw [← hHe] at hP
  have hS : va_S A s.heap H [] := by rw [hHe]; exact hS
  have hl := lv_entry ([.ref mo, .int x]) (n := 2) (Nat.le_of_ble_eq_true rfl)
  rw [lg_entry_eq]
  generalize (lg_sl ([.ref mo, .int x]) ++ List.replicate (2 - (lg_sl ([.ref mo, .int x])).length) Slot.unset).toArray = ls at hl ⊢
  have hl : lv_has ls 2 [(0, .ref mo), (1, .int x)] := hl
  rw [← hHe]
  refine lv_aload_n hx hb dX6_no_0 rfl (lv_at hl 0 rfl) ?_
  refine lv_iload_n hx hb dX6_no_1 rfl (lv_at hl 1 rfl) ?_
  refine va_put (D := D) (ci := 6) (v := .int x) (ty := .int) (C := RX6) (T := TX6) (N := 15) hx hb hts inlX6 tyX6 tyX6_ok nmX6 hown hG.K hP hD hS 0 rfl rfl 0 (by decide) (hts _ mF_X6_43) (fun _ h9 => h9) rfl (by decide +kernel) rfl rfl (Nat.le_of_ble_eq_true rfl) dX6_no_2 (fun H locs hP hD hS => ?_)
  have hP : va_P D cls [oO mo 6 [.int x, .ref a1, .int (nI nC), .ref a2, .ref a3, .ref a4, .ref a5, .ref a6, .ref a7, .ref a8, .ref a9, .int (nI nS), .ref a10, .int (nI nM), .ref a11]] H := hP
  have hD : va_D A [oO mo 6 [.int x, .ref a1, .int (nI nC), .ref a2, .ref a3, .ref a4, .ref a5, .ref a6, .ref a7, .ref a8, .ref a9, .int (nI nS), .ref a10, .int (nI nM), .ref a11]] := hD
  refine lv_iconst (v := 0) hx hb dX6_no_5 (by decide) ?_
  refine Wi () hx hb hr hlk ?_ hP hD hS (Nat.le_of_ble_eq_true rfl) (by first | exact Nat.le_of_ble_eq_true rfl | exact Nat.le_of_eq (Nat.zero_add _)) dX6_no_6
  exact rfl
set_option maxHeartbeats 400000 in
set_option maxRecDepth 100000 in
theorem m_thrown (l : Launch) (D : va_G) {mo a1 a2 a3 a4 a5 a6 a7 a8 a9 a10 a11 nC nS nM : Nat} {th : Int32}  : Met l yX6_thrown (ws_ yX6_thrown cX6_thrown 1 (some .int)) ({ frames := 0, cells := 0, slots := 0, locals := 0 } : Room) (va_Pc [.ref mo] (PW D [oO mo 6 [.int th, .ref a1, .int (nI nC), .ref a2, .ref a3, .ref a4, .ref a5, .ref a6, .ref a7, .ref a8, .ref a9, .int (nI nS), .ref a10, .int (nI nM), .ref a11]])) (vp_Si (fun v => v = th)) 0 0 (fun _ => False) := by
  refine Met.ofW (cc := cX6_thrown) (maxL := 1) (ret := (some .int)) (by decide) rfl ?_
  intro p e s m args below meth c s₁ B hml hv
  obtain ⟨rfl, hG, hP⟩ := hv
  have hx := B.exec
  have hb := B.bytes
  have hr := B.returns
  have hts : ∀ w ∈ wsL_law, w.before _ s = true := fun w h => atoms_spec (ws := (ws_ yX6_thrown cX6_thrown 1 (some .int))) B.pre w (List.mem_cons_of_mem _ h)
  have hown : s.vm.findClass RX6 = some m.cls := findClass_of_methodNamed B.named
  have hlk := B.notSynchronized
  have hC : CallFix p m c cX6_thrown 1 s _ wsL_law RX6 := ⟨hx, hb, hml, hown, hts⟩
  have hl := lv_entry ([.ref mo]) (n := 1) (Nat.le_of_ble_eq_true rfl)
  rw [lg_entry_eq]
  generalize (lg_sl ([.ref mo]) ++ List.replicate (1 - (lg_sl ([.ref mo])).length) Slot.unset).toArray = ls at hl ⊢
  have hl : lv_has ls 1 [(0, .ref mo)] := hl
  refine lv_aload_n hx hb dX6_thrown_0 rfl (lv_at hl 0 rfl) ?_
  refine va_get (D := D) (ci := 6) (v := .int th) (C := RX6) (T := TX6) (N := 15) hx hb hts inlX6 hown hG.K hP 0 rfl rfl 0 (by decide) (hts _ mF_X6_43) (fun _ h9 => h9) rfl dX6_thrown_1 ?_
  refine Ri hx hb hr hlk ?_ dX6_thrown_4
  exact rfl
set_option maxHeartbeats 400000 in
set_option maxRecDepth 100000 in
theorem m_isClip (l : Launch) (D : va_G) {mo a1 a2 a3 a4 a5 a6 a7 a8 a9 a10 a11 nC nS nM : Nat} {th : Int32} {i : Nat} (hn : nC ≤ 10) (hi : i < nC) : Met l yX6_isClip (ws_ yX6_isClip cX6_isClip 2 (some .boolean)) ({ frames := 1, cells := 0, slots := 0, locals := 22 } : Room) (va_Pc [.ref mo, .int (nI i)] (PW D [oO mo 6 [.int th, .ref a1, .int (nI nC), .ref a2, .ref a3, .ref a4, .ref a5, .ref a6, .ref a7, .ref a8, .ref a9, .int (nI nS), .ref a10, .int (nI nM), .ref a11]])) (vp_Si (fun v => v = 1)) 0 0 (fun _ => False) := by
  refine Met.ofW (cc := cX6_isClip) (maxL := 2) (ret := (some .boolean)) (by decide) rfl ?_
  intro p e s m args below meth c s₁ B hml hv
  obtain ⟨rfl, hG, hP⟩ := hv
  have hx := B.exec
  have hb := B.bytes
  have hr := B.returns
  have hts : ∀ w ∈ wsL_law, w.before _ s = true := fun w h => atoms_spec (ws := (ws_ yX6_isClip cX6_isClip 2 (some .boolean))) B.pre w (List.mem_cons_of_mem _ h)
  have hown : s.vm.findClass RX6 = some m.cls := findClass_of_methodNamed B.named
  have hlk := B.notSynchronized
  have hC : CallFix p m c cX6_isClip 2 s _ wsL_law RX6 := ⟨hx, hb, hml, hown, hts⟩
  have hl := lv_entry ([.ref mo, .int (nI i)]) (n := 2) (Nat.le_of_ble_eq_true rfl)
  rw [lg_entry_eq]
  generalize (lg_sl ([.ref mo, .int (nI i)]) ++ List.replicate (2 - (lg_sl ([.ref mo, .int (nI i)])).length) Slot.unset).toArray = ls at hl ⊢
  have hl : lv_has ls 2 [(0, .ref mo), (1, .int (nI i))] := hl
  refine lv_iload_n hx hb dX6_isClip_0 rfl (lv_at hl 1 rfl) ?_
  refine lv_iconst (v := 0) hx hb dX6_isClip_1 (by decide) ?_
  refine lv_aload_n hx hb dX6_isClip_2 rfl (lv_at hl 0 rfl) ?_
  refine va_get (D := D) (ci := 6) (v := .int (nI nC)) (C := RX6) (T := TX6) (N := 15) hx hb hts inlX6 hown hG.K hP 0 rfl rfl 2 (by decide) (hts _ mF_X6_47) (fun _ h9 => h9) rfl dX6_isClip_3 ?_
  refine lv_iconst (v := 1) hx hb dX6_isClip_6 (by decide) ?_
  refine lv_isub hx hb dX6_isClip_7 ?_
  refine tpi (y := nI (nC - 1)) (pk_sub (a := nC) (b := 1) (by omega)) ?_
  have hP9 : va_P D cls [] s.heap := fun k q h => by simp at h
  refine vp_callSi (pS (rest := []) [.int (nI i), .int 0, .int (nI (nC - 1))] 3 hC (m_isIn l D (x := nI i) (a := 0) (b := nI (nC - 1)) ) (gS mM_X6_50 mT_X6_isIn mN_X6 mC_X6_isIn) (by decide +kernel) rfl rfl ⟨Nat.le_of_ble_eq_true rfl, Nat.le_of_ble_eq_true rfl⟩ hG hP9 rfl hl.1 rfl (Nat.le_of_ble_eq_true rfl) dX6_isClip_8 ⟨Nat.le_of_ble_eq_true rfl, Nat.le_of_ble_eq_true rfl⟩) (fun r8 h8 => ?_)
  rcases h8 with ⟨rfl, hb8⟩ | ⟨rfl, hb8⟩
  rotate_left
  · exact absurd (⟨nI_pos' (by omega), nI_le (by omega) (by omega)⟩) hb8
  refine Rz hx hb hr hlk (by first | rfl | decide) ?_ dX6_isClip_11
  exact rfl
set_option maxHeartbeats 400000 in
set_option maxRecDepth 100000 in
theorem m_isClip_no (l : Launch) (D : va_G) {mo a1 a2 a3 a4 a5 a6 a7 a8 a9 a10 a11 nC nS nM : Nat} {th : Int32} {x : Int32} (hn : nC ≤ 10) (hxx : x < 0 ∨ nI nC ≤ x) : Met l yX6_isClip (ws_ yX6_isClip cX6_isClip 2 (some .boolean)) ({ frames := 1, cells := 0, slots := 0, locals := 22 } : Room) (va_Pc [.ref mo, .int x] (PW D [oO mo 6 [.int th, .ref a1, .int (nI nC), .ref a2, .ref a3, .ref a4, .ref a5, .ref a6, .ref a7, .ref a8, .ref a9, .int (nI nS), .ref a10, .int (nI nM), .ref a11]])) (vp_Si (fun v => v = 0)) 0 0 (fun _ => False) := by
  refine Met.ofW (cc := cX6_isClip) (maxL := 2) (ret := (some .boolean)) (by decide) rfl ?_
  intro p e s m args below meth c s₁ B hml hv
  obtain ⟨rfl, hG, hP⟩ := hv
  have hx := B.exec
  have hb := B.bytes
  have hr := B.returns
  have hts : ∀ w ∈ wsL_law, w.before _ s = true := fun w h => atoms_spec (ws := (ws_ yX6_isClip cX6_isClip 2 (some .boolean))) B.pre w (List.mem_cons_of_mem _ h)
  have hown : s.vm.findClass RX6 = some m.cls := findClass_of_methodNamed B.named
  have hlk := B.notSynchronized
  have hC : CallFix p m c cX6_isClip 2 s _ wsL_law RX6 := ⟨hx, hb, hml, hown, hts⟩
  have hl := lv_entry ([.ref mo, .int x]) (n := 2) (Nat.le_of_ble_eq_true rfl)
  rw [lg_entry_eq]
  generalize (lg_sl ([.ref mo, .int x]) ++ List.replicate (2 - (lg_sl ([.ref mo, .int x])).length) Slot.unset).toArray = ls at hl ⊢
  have hl : lv_has ls 2 [(0, .ref mo), (1, .int x)] := hl
  refine lv_iload_n hx hb dX6_isClip_0 rfl (lv_at hl 1 rfl) ?_
  refine lv_iconst (v := 0) hx hb dX6_isClip_1 (by decide) ?_
  refine lv_aload_n hx hb dX6_isClip_2 rfl (lv_at hl 0 rfl) ?_
  refine va_get (D := D) (ci := 6) (v := .int (nI nC)) (C := RX6) (T := TX6) (N := 15) hx hb hts inlX6 hown hG.K hP 0 rfl rfl 2 (by decide) (hts _ mF_X6_47) (fun _ h9 => h9) rfl dX6_isClip_3 ?_
  refine lv_iconst (v := 1) hx hb dX6_isClip_6 (by decide) ?_
  refine lv_isub hx hb dX6_isClip_7 ?_
  have hP9 : va_P D cls [] s.heap := fun k q h => by simp at h
  refine vp_callSi (pS (rest := []) [.int x, .int 0, .int ((nI nC) - 1)] 3 hC (m_isIn l D (x := x) (a := 0) (b := (nI nC) - 1) ) (gS mM_X6_50 mT_X6_isIn mN_X6 mC_X6_isIn) (by decide +kernel) rfl rfl ⟨Nat.le_of_ble_eq_true rfl, Nat.le_of_ble_eq_true rfl⟩ hG hP9 rfl hl.1 rfl (Nat.le_of_ble_eq_true rfl) dX6_isClip_8 ⟨Nat.le_of_ble_eq_true rfl, Nat.le_of_ble_eq_true rfl⟩) (fun r8 h8 => ?_)
  rcases h8 with ⟨rfl, hb8⟩ | ⟨rfl, hb8⟩
  · exact absurd hb8 (nin_of (by omega) hxx)
  refine Rz hx hb hr hlk (by first | rfl | decide) ?_ dX6_isClip_11
  exact rfl
set_option maxHeartbeats 400000 in
set_option maxRecDepth 100000 in
theorem m_isStrip (l : Launch) (D : va_G) {mo a1 a2 a3 a4 a5 a6 a7 a8 a9 a10 a11 nC nS nM : Nat} {th : Int32} {i : Nat} (hn : nS ≤ 10) (hi : i < nS) : Met l yX6_isStrip (ws_ yX6_isStrip cX6_isStrip 2 (some .boolean)) ({ frames := 1, cells := 0, slots := 0, locals := 22 } : Room) (va_Pc [.ref mo, .int (nI i)] (PW D [oO mo 6 [.int th, .ref a1, .int (nI nC), .ref a2, .ref a3, .ref a4, .ref a5, .ref a6, .ref a7, .ref a8, .ref a9, .int (nI nS), .ref a10, .int (nI nM), .ref a11]])) (vp_Si (fun v => v = 1)) 0 0 (fun _ => False) := by
  refine Met.ofW (cc := cX6_isStrip) (maxL := 2) (ret := (some .boolean)) (by decide) rfl ?_
  intro p e s m args below meth c s₁ B hml hv
  obtain ⟨rfl, hG, hP⟩ := hv
  have hx := B.exec
  have hb := B.bytes
  have hr := B.returns
  have hts : ∀ w ∈ wsL_law, w.before _ s = true := fun w h => atoms_spec (ws := (ws_ yX6_isStrip cX6_isStrip 2 (some .boolean))) B.pre w (List.mem_cons_of_mem _ h)
  have hown : s.vm.findClass RX6 = some m.cls := findClass_of_methodNamed B.named
  have hlk := B.notSynchronized
  have hC : CallFix p m c cX6_isStrip 2 s _ wsL_law RX6 := ⟨hx, hb, hml, hown, hts⟩
  have hl := lv_entry ([.ref mo, .int (nI i)]) (n := 2) (Nat.le_of_ble_eq_true rfl)
  rw [lg_entry_eq]
  generalize (lg_sl ([.ref mo, .int (nI i)]) ++ List.replicate (2 - (lg_sl ([.ref mo, .int (nI i)])).length) Slot.unset).toArray = ls at hl ⊢
  have hl : lv_has ls 2 [(0, .ref mo), (1, .int (nI i))] := hl
  refine lv_iload_n hx hb dX6_isStrip_0 rfl (lv_at hl 1 rfl) ?_
  refine lv_iconst (v := 0) hx hb dX6_isStrip_1 (by decide) ?_
  refine lv_aload_n hx hb dX6_isStrip_2 rfl (lv_at hl 0 rfl) ?_
  refine va_get (D := D) (ci := 6) (v := .int (nI nS)) (C := RX6) (T := TX6) (N := 15) hx hb hts inlX6 hown hG.K hP 0 rfl rfl 11 (by decide) (hts _ mF_X6_108) (fun _ h9 => h9) rfl dX6_isStrip_3 ?_
  refine lv_iconst (v := 1) hx hb dX6_isStrip_6 (by decide) ?_
  refine lv_isub hx hb dX6_isStrip_7 ?_
  refine tpi (y := nI (nS - 1)) (pk_sub (a := nS) (b := 1) (by omega)) ?_
  have hP9 : va_P D cls [] s.heap := fun k q h => by simp at h
  refine vp_callSi (pS (rest := []) [.int (nI i), .int 0, .int (nI (nS - 1))] 3 hC (m_isIn l D (x := nI i) (a := 0) (b := nI (nS - 1)) ) (gS mM_X6_50 mT_X6_isIn mN_X6 mC_X6_isIn) (by decide +kernel) rfl rfl ⟨Nat.le_of_ble_eq_true rfl, Nat.le_of_ble_eq_true rfl⟩ hG hP9 rfl hl.1 rfl (Nat.le_of_ble_eq_true rfl) dX6_isStrip_8 ⟨Nat.le_of_ble_eq_true rfl, Nat.le_of_ble_eq_true rfl⟩) (fun r8 h8 => ?_)
  rcases h8 with ⟨rfl, hb8⟩ | ⟨rfl, hb8⟩
  rotate_left
  · exact absurd (⟨nI_pos' (by omega), nI_le (by omega) (by omega)⟩) hb8
  refine Rz hx hb hr hlk (by first | rfl | decide) ?_ dX6_isStrip_11
  exact rfl
set_option maxHeartbeats 400000 in
set_option maxRecDepth 100000 in
theorem m_isStrip_no (l : Launch) (D : va_G) {mo a1 a2 a3 a4 a5 a6 a7 a8 a9 a10 a11 nC nS nM : Nat} {th : Int32} {x : Int32} (hn : nS ≤ 10) (hxx : x < 0 ∨ nI nS ≤ x) : Met l yX6_isStrip (ws_ yX6_isStrip cX6_isStrip 2 (some .boolean)) ({ frames := 1, cells := 0, slots := 0, locals := 22 } : Room) (va_Pc [.ref mo, .int x] (PW D [oO mo 6 [.int th, .ref a1, .int (nI nC), .ref a2, .ref a3, .ref a4, .ref a5, .ref a6, .ref a7, .ref a8, .ref a9, .int (nI nS), .ref a10, .int (nI nM), .ref a11]])) (vp_Si (fun v => v = 0)) 0 0 (fun _ => False) := by
  refine Met.ofW (cc := cX6_isStrip) (maxL := 2) (ret := (some .boolean)) (by decide) rfl ?_
  intro p e s m args below meth c s₁ B hml hv
  obtain ⟨rfl, hG, hP⟩ := hv
  have hx := B.exec
  have hb := B.bytes
  have hr := B.returns
  have hts : ∀ w ∈ wsL_law, w.before _ s = true := fun w h => atoms_spec (ws := (ws_ yX6_isStrip cX6_isStrip 2 (some .boolean))) B.pre w (List.mem_cons_of_mem _ h)
  have hown : s.vm.findClass RX6 = some m.cls := findClass_of_methodNamed B.named
  have hlk := B.notSynchronized
  have hC : CallFix p m c cX6_isStrip 2 s _ wsL_law RX6 := ⟨hx, hb, hml, hown, hts⟩
  have hl := lv_entry ([.ref mo, .int x]) (n := 2) (Nat.le_of_ble_eq_true rfl)
  rw [lg_entry_eq]
  generalize (lg_sl ([.ref mo, .int x]) ++ List.replicate (2 - (lg_sl ([.ref mo, .int x])).length) Slot.unset).toArray = ls at hl ⊢
  have hl : lv_has ls 2 [(0, .ref mo), (1, .int x)] := hl
  refine lv_iload_n hx hb dX6_isStrip_0 rfl (lv_at hl 1 rfl) ?_
  refine lv_iconst (v := 0) hx hb dX6_isStrip_1 (by decide) ?_
  refine lv_aload_n hx hb dX6_isStrip_2 rfl (lv_at hl 0 rfl) ?_
  refine va_get (D := D) (ci := 6) (v := .int (nI nS)) (C := RX6) (T := TX6) (N := 15) hx hb hts inlX6 hown hG.K hP 0 rfl rfl 11 (by decide) (hts _ mF_X6_108) (fun _ h9 => h9) rfl dX6_isStrip_3 ?_
  refine lv_iconst (v := 1) hx hb dX6_isStrip_6 (by decide) ?_
  refine lv_isub hx hb dX6_isStrip_7 ?_
  have hP9 : va_P D cls [] s.heap := fun k q h => by simp at h
  refine vp_callSi (pS (rest := []) [.int x, .int 0, .int ((nI nS) - 1)] 3 hC (m_isIn l D (x := x) (a := 0) (b := (nI nS) - 1) ) (gS mM_X6_50 mT_X6_isIn mN_X6 mC_X6_isIn) (by decide +kernel) rfl rfl ⟨Nat.le_of_ble_eq_true rfl, Nat.le_of_ble_eq_true rfl⟩ hG hP9 rfl hl.1 rfl (Nat.le_of_ble_eq_true rfl) dX6_isStrip_8 ⟨Nat.le_of_ble_eq_true rfl, Nat.le_of_ble_eq_true rfl⟩) (fun r8 h8 => ?_)
  rcases h8 with ⟨rfl, hb8⟩ | ⟨rfl, hb8⟩
  · exact absurd hb8 (nin_of (by omega) hxx)
  refine Rz hx hb hr hlk (by first | rfl | decide) ?_ dX6_isStrip_11
  exact rfl
set_option maxHeartbeats 400000 in
set_option maxRecDepth 100000 in
theorem m_isTrack (l : Launch) (D : va_G) {mo a1 a2 a3 a4 a5 a6 a7 a8 a9 a10 a11 nC nS nM : Nat} {th : Int32} {i j : Nat} (hn : nC ≤ 10) (hi : i < nC) (hj : j < 4) : Met l yX6_isTrack (ws_ yX6_isTrack cX6_isTrack 3 (some .boolean)) ({ frames := 2, cells := 0, slots := 0, locals := 43 } : Room) (va_Pc [.ref mo, .int (nI i), .int (nI j)] (PW D [oO mo 6 [.int th, .ref a1, .int (nI nC), .ref a2, .ref a3, .ref a4, .ref a5, .ref a6, .ref a7, .ref a8, .ref a9, .int (nI nS), .ref a10, .int (nI nM), .ref a11]])) (vp_Si (fun v => v = 1)) 0 0 (fun _ => False) := by
  refine Met.ofW (cc := cX6_isTrack) (maxL := 3) (ret := (some .boolean)) (by decide) rfl ?_
  intro p e s m args below meth c s₁ B hml hv
  obtain ⟨rfl, hG, hP⟩ := hv
  have hx := B.exec
  have hb := B.bytes
  have hr := B.returns
  have hts : ∀ w ∈ wsL_law, w.before _ s = true := fun w h => atoms_spec (ws := (ws_ yX6_isTrack cX6_isTrack 3 (some .boolean))) B.pre w (List.mem_cons_of_mem _ h)
  have hown : s.vm.findClass RX6 = some m.cls := findClass_of_methodNamed B.named
  have hlk := B.notSynchronized
  have hC : CallFix p m c cX6_isTrack 3 s _ wsL_law RX6 := ⟨hx, hb, hml, hown, hts⟩
  have hl := lv_entry ([.ref mo, .int (nI i), .int (nI j)]) (n := 3) (Nat.le_of_ble_eq_true rfl)
  rw [lg_entry_eq]
  generalize (lg_sl ([.ref mo, .int (nI i), .int (nI j)]) ++ List.replicate (3 - (lg_sl ([.ref mo, .int (nI i), .int (nI j)])).length) Slot.unset).toArray = ls at hl ⊢
  have hl : lv_has ls 3 [(0, .ref mo), (1, .int (nI i)), (2, .int (nI j))] := hl
  refine lv_aload_n hx hb dX6_isTrack_0 rfl (lv_at hl 0 rfl) ?_
  refine lv_iload_n hx hb dX6_isTrack_1 rfl (lv_at hl 1 rfl) ?_
  have hP9 := hP
  refine vp_callSi (pV (rest := []) (qc := (RX6, TX6, 15)) [.int (nI i)] 1 hC (m_isClip l D (mo := mo) (i := i) (th := th) (a1 := a1) (nC := nC) (a2 := a2) (a3 := a3) (a4 := a4) (a5 := a5) (a6 := a6) (a7 := a7) (a8 := a8) (a9 := a9) (nS := nS) (a10 := a10) (nM := nM) (a11 := a11) (by omega) (by omega)) rfl (hP 0 _ rfl) (gV mM_X6_54 mI_X6_isClip mS_X6_isClip mN_X6 mC_X6_isClip) (by decide +kernel) rfl rfl ⟨Nat.le_of_ble_eq_true rfl, Nat.le_of_ble_eq_true rfl⟩ hG hP9 rfl hl.1 rfl (Nat.le_of_ble_eq_true rfl) dX6_isTrack_2 ⟨Nat.le_of_ble_eq_true rfl, Nat.le_of_ble_eq_true rfl⟩) (fun r2 h2 => ?_)
  obtain rfl : r2 = 1 := h2
  refine lv_if_eq (tgt := 21) hx hb dX6_isTrack_5 (by decide) (fun h9 => absurd h9 (by decide)) (fun _ => ?_)
  refine lv_iload_n hx hb dX6_isTrack_8 rfl (lv_at hl 2 rfl) ?_
  refine lv_iconst (v := 0) hx hb dX6_isTrack_9 (by decide) ?_
  refine lv_iconst (v := 3) hx hb dX6_isTrack_10 (by decide) ?_
  have hP9 : va_P D cls [] s.heap := fun k q h => by simp at h
  refine vp_callSi (pS (rest := []) [.int (nI j), .int 0, .int 3] 3 hC (m_isIn l D (x := nI j) (a := 0) (b := 3) ) (gS mM_X6_50 mT_X6_isIn mN_X6 mC_X6_isIn) (by decide +kernel) rfl rfl ⟨Nat.le_of_ble_eq_true rfl, Nat.le_of_ble_eq_true rfl⟩ hG hP9 rfl hl.1 rfl (Nat.le_of_ble_eq_true rfl) dX6_isTrack_11 ⟨Nat.le_of_ble_eq_true rfl, Nat.le_of_ble_eq_true rfl⟩) (fun r11 h11 => ?_)
  rcases h11 with ⟨rfl, hb11⟩ | ⟨rfl, hb11⟩
  rotate_left
  · exact absurd (in3 hj) hb11
  refine lv_if_eq (tgt := 21) hx hb dX6_isTrack_14 (by decide) (fun h9 => absurd h9 (by decide)) (fun _ => ?_)
  refine lv_iconst (v := 1) hx hb dX6_isTrack_17 (by decide) ?_
  refine lv_goto (tgt := 22) hx hb dX6_isTrack_18 (by decide) ?_
  refine Rz hx hb hr hlk (by first | rfl | decide) ?_ dX6_isTrack_22
  exact rfl
set_option maxHeartbeats 400000 in
set_option maxRecDepth 100000 in
theorem m_isTrack_no1 (l : Launch) (D : va_G) {mo a1 a2 a3 a4 a5 a6 a7 a8 a9 a10 a11 nC nS nM : Nat} {th : Int32} {x y : Int32} (hn : nC ≤ 10) (hxx : x < 0 ∨ nI nC ≤ x) : Met l yX6_isTrack (ws_ yX6_isTrack cX6_isTrack 3 (some .boolean)) ({ frames := 2, cells := 0, slots := 0, locals := 43 } : Room) (va_Pc [.ref mo, .int x, .int y] (PW D [oO mo 6 [.int th, .ref a1, .int (nI nC), .ref a2, .ref a3, .ref a4, .ref a5, .ref a6, .ref a7, .ref a8, .ref a9, .int (nI nS), .ref a10, .int (nI nM), .ref a11]])) (vp_Si (fun v => v = 0)) 0 0 (fun _ => False) := by
  refine Met.ofW (cc := cX6_isTrack) (maxL := 3) (ret := (some .boolean)) (by decide) rfl ?_
  intro p e s m args below meth c s₁ B hml hv
  obtain ⟨rfl, hG, hP⟩ := hv
  have hx := B.exec
  have hb := B.bytes
  have hr := B.returns
  have hts : ∀ w ∈ wsL_law, w.before _ s = true := fun w h => atoms_spec (ws := (ws_ yX6_isTrack cX6_isTrack 3 (some .boolean))) B.pre w (List.mem_cons_of_mem _ h)
  have hown : s.vm.findClass RX6 = some m.cls := findClass_of_methodNamed B.named
  have hlk := B.notSynchronized
  have hC : CallFix p m c cX6_isTrack 3 s _ wsL_law RX6 := ⟨hx, hb, hml, hown, hts⟩
  have hl := lv_entry ([.ref mo, .int x, .int y]) (n := 3) (Nat.le_of_ble_eq_true rfl)
  rw [lg_entry_eq]
  generalize (lg_sl ([.ref mo, .int x, .int y]) ++ List.replicate (3 - (lg_sl ([.ref mo, .int x, .int y])).length) Slot.unset).toArray = ls at hl ⊢
  have hl : lv_has ls 3 [(0, .ref mo), (1, .int x), (2, .int y)] := hl
  refine lv_aload_n hx hb dX6_isTrack_0 rfl (lv_at hl 0 rfl) ?_
  refine lv_iload_n hx hb dX6_isTrack_1 rfl (lv_at hl 1 rfl) ?_
  have hP9 := hP
  refine vp_callSi (pV (rest := []) (qc := (RX6, TX6, 15)) [.int x] 1 hC (m_isClip_no l D (mo := mo) (x := x) (th := th) (a1 := a1) (nC := nC) (a2 := a2) (a3 := a3) (a4 := a4) (a5 := a5) (a6 := a6) (a7 := a7) (a8 := a8) (a9 := a9) (nS := nS) (a10 := a10) (nM := nM) (a11 := a11) (by omega) (hxx)) rfl (hP 0 _ rfl) (gV mM_X6_54 mI_X6_isClip mS_X6_isClip mN_X6 mC_X6_isClip) (by decide +kernel) rfl rfl ⟨Nat.le_of_ble_eq_true rfl, Nat.le_of_ble_eq_true rfl⟩ hG hP9 rfl hl.1 rfl (Nat.le_of_ble_eq_true rfl) dX6_isTrack_2 ⟨Nat.le_of_ble_eq_true rfl, Nat.le_of_ble_eq_true rfl⟩) (fun r2 h2 => ?_)
  obtain rfl : r2 = 0 := h2
  refine lv_if_eq (tgt := 21) hx hb dX6_isTrack_5 (by decide) (fun _ => ?_) (fun h9 => (h9 (by decide)).elim)
  refine lv_iconst (v := 0) hx hb dX6_isTrack_21 (by decide) ?_
  refine Rz hx hb hr hlk (by first | rfl | decide) ?_ dX6_isTrack_22
  exact rfl
set_option maxHeartbeats 400000 in
set_option maxRecDepth 100000 in
theorem m_isTrack_no2 (l : Launch) (D : va_G) {mo a1 a2 a3 a4 a5 a6 a7 a8 a9 a10 a11 nC nS nM : Nat} {th : Int32} {i : Nat} {y : Int32} (hn : nC ≤ 10) (hi : i < nC) (hyy : ¬ (0 ≤ y ∧ y ≤ 3)) : Met l yX6_isTrack (ws_ yX6_isTrack cX6_isTrack 3 (some .boolean)) ({ frames := 2, cells := 0, slots := 0, locals := 43 } : Room) (va_Pc [.ref mo, .int (nI i), .int y] (PW D [oO mo 6 [.int th, .ref a1, .int (nI nC), .ref a2, .ref a3, .ref a4, .ref a5, .ref a6, .ref a7, .ref a8, .ref a9, .int (nI nS), .ref a10, .int (nI nM), .ref a11]])) (vp_Si (fun v => v = 0)) 0 0 (fun _ => False) := by
  refine Met.ofW (cc := cX6_isTrack) (maxL := 3) (ret := (some .boolean)) (by decide) rfl ?_
  intro p e s m args below meth c s₁ B hml hv
  obtain ⟨rfl, hG, hP⟩ := hv
  have hx := B.exec
  have hb := B.bytes
  have hr := B.returns
  have hts : ∀ w ∈ wsL_law, w.before _ s = true := fun w h => atoms_spec (ws := (ws_ yX6_isTrack cX6_isTrack 3 (some .boolean))) B.pre w (List.mem_cons_of_mem _ h)
  have hown : s.vm.findClass RX6 = some m.cls := findClass_of_methodNamed B.named
  have hlk := B.notSynchronized
  have hC : CallFix p m c cX6_isTrack 3 s _ wsL_law RX6 := ⟨hx, hb, hml, hown, hts⟩
  have hl := lv_entry ([.ref mo, .int (nI i), .int y]) (n := 3) (Nat.le_of_ble_eq_true rfl)
  rw [lg_entry_eq]
  generalize (lg_sl ([.ref mo, .int (nI i), .int y]) ++ List.replicate (3 - (lg_sl ([.ref mo, .int (nI i), .int y])).length) Slot.unset).toArray = ls at hl ⊢
  have hl : lv_has ls 3 [(0, .ref mo), (1, .int (nI i)), (2, .int y)] := hl
  refine lv_aload_n hx hb dX6_isTrack_0 rfl (lv_at hl 0 rfl) ?_
  refine lv_iload_n hx hb dX6_isTrack_1 rfl (lv_at hl 1 rfl) ?_
  have hP9 := hP
  refine vp_callSi (pV (rest := []) (qc := (RX6, TX6, 15)) [.int (nI i)] 1 hC (m_isClip l D (mo := mo) (i := i) (th := th) (a1 := a1) (nC := nC) (a2 := a2) (a3 := a3) (a4 := a4) (a5 := a5) (a6 := a6) (a7 := a7) (a8 := a8) (a9 := a9) (nS := nS) (a10 := a10) (nM := nM) (a11 := a11) (by omega) (by omega)) rfl (hP 0 _ rfl) (gV mM_X6_54 mI_X6_isClip mS_X6_isClip mN_X6 mC_X6_isClip) (by decide +kernel) rfl rfl ⟨Nat.le_of_ble_eq_true rfl, Nat.le_of_ble_eq_true rfl⟩ hG hP9 rfl hl.1 rfl (Nat.le_of_ble_eq_true rfl) dX6_isTrack_2 ⟨Nat.le_of_ble_eq_true rfl, Nat.le_of_ble_eq_true rfl⟩) (fun r2 h2 => ?_)
  obtain rfl : r2 = 1 := h2
  refine lv_if_eq (tgt := 21) hx hb dX6_isTrack_5 (by decide) (fun h9 => absurd h9 (by decide)) (fun _ => ?_)
  refine lv_iload_n hx hb dX6_isTrack_8 rfl (lv_at hl 2 rfl) ?_
  refine lv_iconst (v := 0) hx hb dX6_isTrack_9 (by decide) ?_
  refine lv_iconst (v := 3) hx hb dX6_isTrack_10 (by decide) ?_
  have hP9 : va_P D cls [] s.heap := fun k q h => by simp at h
  refine vp_callSi (pS (rest := []) [.int y, .int 0, .int 3] 3 hC (m_isIn l D (x := y) (a := 0) (b := 3) ) (gS mM_X6_50 mT_X6_isIn mN_X6 mC_X6_isIn) (by decide +kernel) rfl rfl ⟨Nat.le_of_ble_eq_true rfl, Nat.le_of_ble_eq_true rfl⟩ hG hP9 rfl hl.1 rfl (Nat.le_of_ble_eq_true rfl) dX6_isTrack_11 ⟨Nat.le_of_ble_eq_true rfl, Nat.le_of_ble_eq_true rfl⟩) (fun r11 h11 => ?_)
  rcases h11 with ⟨rfl, hb11⟩ | ⟨rfl, hb11⟩
  · exact absurd hb11 (hyy)
  refine lv_if_eq (tgt := 21) hx hb dX6_isTrack_14 (by decide) (fun _ => ?_) (fun h9 => (h9 (by decide)).elim)
  refine lv_iconst (v := 0) hx hb dX6_isTrack_21 (by decide) ?_
  refine Rz hx hb hr hlk (by first | rfl | decide) ?_ dX6_isTrack_22
  exact rfl
set_option maxHeartbeats 400000 in
set_option maxRecDepth 100000 in
theorem m_rounded (l : Launch) (D : va_G) {x y : Int64} (hy : ¬ 2 * y = 0) : Met l yX6_rounded (ws_ yX6_rounded cX6_rounded 4 (some .int)) ({ frames := 1, cells := 0, slots := 0, locals := 25 } : Room) (va_Pc [.long x, .long y] (PW D [])) (vp_Si (fun v => v = rnd x y)) 0 0 (fun _ => False) := by
  refine Met.ofW (cc := cX6_rounded) (maxL := 4) (ret := (some .int)) (by decide) rfl ?_
  intro p e s m args below meth c s₁ B hml hv
  obtain ⟨rfl, hG, hP⟩ := hv
  have hx := B.exec
  have hb := B.bytes
  have hr := B.returns
  have hts : ∀ w ∈ wsL_law, w.before _ s = true := fun w h => atoms_spec (ws := (ws_ yX6_rounded cX6_rounded 4 (some .int))) B.pre w (List.mem_cons_of_mem _ h)
  have hown : s.vm.findClass RX6 = some m.cls := findClass_of_methodNamed B.named
  have hlk := B.notSynchronized
  have hC : CallFix p m c cX6_rounded 4 s _ wsL_law RX6 := ⟨hx, hb, hml, hown, hts⟩
  have hl := lv_entry ([.long x, .long y]) (n := 4) (Nat.le_of_ble_eq_true rfl)
  rw [lg_entry_eq]
  generalize (lg_sl ([.long x, .long y]) ++ List.replicate (4 - (lg_sl ([.long x, .long y])).length) Slot.unset).toArray = ls at hl ⊢
  have hl : lv_has ls 4 [(0, .long x), (2, .long y)] := hl
  refine lv_ldc2 hx hb hown (hts _ mH_X6_58) dX6_rounded_0 ?_
  refine lv_lload_n hx hb dX6_rounded_3 rfl (lv_at hl 0 rfl) ?_
  refine lv_lmul hx hb dX6_rounded_4 ?_
  refine lv_lload_n hx hb dX6_rounded_5 rfl (lv_at hl 1 rfl) ?_
  refine lv_ladd hx hb dX6_rounded_6 ?_
  refine lv_ldc2 hx hb hown (hts _ mH_X6_58) dX6_rounded_7 ?_
  refine lv_lload_n hx hb dX6_rounded_10 rfl (lv_at hl 1 rfl) ?_
  refine lv_lmul hx hb dX6_rounded_11 ?_
  have hP9 : va_P D cls [] s.heap := fun k q h => by simp at h
  refine vp_callSl (pS (rest := []) [.long ((2 * x) + y), .long (2 * y)] 2 hC (c_floorDiv l D (x := (2 * x) + y) (y := 2 * y) (hy)) (gS mM_X6_60 mT_J9_floorDiv_f86c9 mN_J9 mC_J9_floorDiv_f86c9) (by decide +kernel) rfl rfl ⟨Nat.le_of_ble_eq_true rfl, Nat.le_of_ble_eq_true rfl⟩ hG hP9 rfl hl.1 rfl (Nat.le_of_ble_eq_true rfl) dX6_rounded_12 ⟨Nat.le_of_ble_eq_true rfl, Nat.le_of_ble_eq_true rfl⟩) (fun r12 h12 => ?_)
  obtain rfl : r12 = (fdL ((2 * x) + y) (2 * y)) := h12
  refine lv_l2i hx hb dX6_rounded_15 rfl ?_
  refine Ri hx hb hr hlk ?_ dX6_rounded_16
  exact rfl
set_option maxHeartbeats 400000 in
set_option maxRecDepth 100000 in
theorem m_row (l : Launch) (D : va_G) {j : Nat}  : Met l yX6_row (ws_ yX6_row cX6_row 1 (some .int)) ({ frames := 0, cells := 0, slots := 0, locals := 0 } : Room) (va_Pc [.int (nI j)] (PW D [])) (vp_Si (fun v => v = nI (16 * j))) 0 0 (fun _ => False) := by
  refine Met.ofW (cc := cX6_row) (maxL := 1) (ret := (some .int)) (by decide) rfl ?_
  intro p e s m args below meth c s₁ B hml hv
  obtain ⟨rfl, hG, hP⟩ := hv
  have hx := B.exec
  have hb := B.bytes
  have hr := B.returns
  have hts : ∀ w ∈ wsL_law, w.before _ s = true := fun w h => atoms_spec (ws := (ws_ yX6_row cX6_row 1 (some .int))) B.pre w (List.mem_cons_of_mem _ h)
  have hown : s.vm.findClass RX6 = some m.cls := findClass_of_methodNamed B.named
  have hlk := B.notSynchronized
  have hC : CallFix p m c cX6_row 1 s _ wsL_law RX6 := ⟨hx, hb, hml, hown, hts⟩
  have hl := lv_entry ([.int (nI j)]) (n := 1) (Nat.le_of_ble_eq_true rfl)
  rw [lg_entry_eq]
  generalize (lg_sl ([.int (nI j)]) ++ List.replicate (1 - (lg_sl ([.int (nI j)])).length) Slot.unset).toArray = ls at hl ⊢
  have hl : lv_has ls 1 [(0, .int (nI j))] := hl
  refine lv_bipush (v := 16) hx hb dX6_row_0 (by decide) ?_
  refine lv_iload_n hx hb dX6_row_2 rfl (lv_at hl 0 rfl) ?_
  refine lv_imul hx hb dX6_row_3 ?_
  refine tpi (y := nI (16 * j)) (pk_mul 16 j) ?_
  refine Ri hx hb hr hlk ?_ dX6_row_4
  exact rfl
set_option maxHeartbeats 400000 in
set_option maxRecDepth 100000 in
theorem m_put (l : Launch) (D : va_G) {mo a1 a2 a3 a4 a5 a6 a7 a8 a9 a10 a11 nC nS nM : Nat} {th : Int32} {tm wo ea : Nat → Int32} {k : Nat} {x y z : Int32} (hz0 : Nat) (hk : k < 384) : Met l yX6_put (ws_ yX6_put cX6_put 5 none) ({ frames := 0, cells := 0, slots := 0, locals := 0 } : Room) (va_Pc [.ref mo, .int (nI k), .int x, .int y, .int z] (SW D [oO mo 6 [.int th, .ref a1, .int (nI nC), .ref a2, .ref a3, .ref a4, .ref a5, .ref a6, .ref a7, .ref a8, .ref a9, .int (nI nS), .ref a10, .int (nI nM), .ref a11], aI D a4 384 tm, aI D a5 384 wo, aI D a6 384 ea] hz0)) (va_Qv (fun _ => True) (AT D (va_A [oO mo 6 [.int th, .ref a1, .int (nI nC), .ref a2, .ref a3, .ref a4, .ref a5, .ref a6, .ref a7, .ref a8, .ref a9, .int (nI nS), .ref a10, .int (nI nM), .ref a11], aI D a4 384 tm, aI D a5 384 wo, aI D a6 384 ea] hz0) (fun _ : Unit => [oO mo 6 [.int th, .ref a1, .int (nI nC), .ref a2, .ref a3, .ref a4, .ref a5, .ref a6, .ref a7, .ref a8, .ref a9, .int (nI nS), .ref a10, .int (nI nM), .ref a11], aI D a4 384 (upd tm k x), aI D a5 384 (upd wo k y), aI D a6 384 (upd ea k z)])) (va_A [oO mo 6 [.int th, .ref a1, .int (nI nC), .ref a2, .ref a3, .ref a4, .ref a5, .ref a6, .ref a7, .ref a8, .ref a9, .int (nI nS), .ref a10, .int (nI nM), .ref a11], aI D a4 384 tm, aI D a5 384 wo, aI D a6 384 ea] hz0)) 0 0 (va_A [oO mo 6 [.int th, .ref a1, .int (nI nC), .ref a2, .ref a3, .ref a4, .ref a5, .ref a6, .ref a7, .ref a8, .ref a9, .int (nI nS), .ref a10, .int (nI nM), .ref a11], aI D a4 384 tm, aI D a5 384 wo, aI D a6 384 ea] hz0) := by
  refine Met.ofW (cc := cX6_put) (maxL := 5) (ret := none) (by decide) rfl ?_
  intro p e s m args below meth c s₁ B hml hv
  obtain ⟨rfl, hsz, hG, hP, hD0⟩ := hv
  have hx := B.exec
  have hb := B.bytes
  have hr := B.returns
  have hts : ∀ w ∈ wsL_law, w.before _ s = true := fun w h => atoms_spec (ws := (ws_ yX6_put cX6_put 5 none)) B.pre w (List.mem_cons_of_mem _ h)
  have hown : s.vm.findClass RX6 = some m.cls := findClass_of_methodNamed B.named
  have hlk := B.notSynchronized
  have hC : CallFix p m c cX6_put 5 s _ wsL_law RX6 := ⟨hx, hb, hml, hown, hts⟩
  subst hsz
  have hD := hD0.self (sz := s.heap.size)
  generalize hAe : va_A [oO mo 6 [.int th, .ref a1, .int (nI nC), .ref a2, .ref a3, .ref a4, .ref a5, .ref a6, .ref a7, .ref a8, .ref a9, .int (nI nS), .ref a10, .int (nI nM), .ref a11], aI D a4 384 tm, aI D a5 384 wo, aI D a6 384 ea] s.heap.size = A at hD ⊢
  have hA : ∀ q : Nat, s.heap.size ≤ q → A q := fun q h => by rw [← hAe]; exact Or.inr h
  have hS : va_S A s.heap s.heap [] := va_S.rf
  obtain ⟨H, hHe⟩ : ∃ H, H = s.heap := ⟨_, rfl⟩
  rw [← hHe] at hP
  have hS : va_S A s.heap H [] := by rw [hHe]; exact hS
  have hl := lv_entry ([.ref mo, .int (nI k), .int x, .int y, .int z]) (n := 5) (Nat.le_of_ble_eq_true rfl)
  rw [lg_entry_eq]
  generalize (lg_sl ([.ref mo, .int (nI k), .int x, .int y, .int z]) ++ List.replicate (5 - (lg_sl ([.ref mo, .int (nI k), .int x, .int y, .int z])).length) Slot.unset).toArray = ls at hl ⊢
  have hl : lv_has ls 5 [(0, .ref mo), (1, .int (nI k)), (2, .int x), (3, .int y), (4, .int z)] := hl
  rw [← hHe]
  refine lv_aload_n hx hb dX6_put_0 rfl (lv_at hl 0 rfl) ?_
  refine va_get (D := D) (ci := 6) (v := .ref a4) (C := RX6) (T := TX6) (N := 15) hx hb hts inlX6 hown hG.K hP 0 rfl rfl 5 (by decide) (hts _ mF_X6_19) (fun _ h9 => h9) rfl dX6_put_1 ?_
  refine lv_iload_n hx hb dX6_put_4 rfl (lv_at hl 1 rfl) ?_
  refine lv_iload_n hx hb dX6_put_5 rfl (lv_at hl 2 rfl) ?_
  refine ist (n := 384) (j := k) hx hb hG hP hD hS 1 rfl (by omega) (by omega) dX6_put_6 (fun H locs hP hD hS => ?_)
  have hP : va_P D cls [oO mo 6 [.int th, .ref a1, .int (nI nC), .ref a2, .ref a3, .ref a4, .ref a5, .ref a6, .ref a7, .ref a8, .ref a9, .int (nI nS), .ref a10, .int (nI nM), .ref a11], aI D a4 384 (upd tm k x), aI D a5 384 wo, aI D a6 384 ea] H := hP
  have hD : va_D A [oO mo 6 [.int th, .ref a1, .int (nI nC), .ref a2, .ref a3, .ref a4, .ref a5, .ref a6, .ref a7, .ref a8, .ref a9, .int (nI nS), .ref a10, .int (nI nM), .ref a11], aI D a4 384 (upd tm k x), aI D a5 384 wo, aI D a6 384 ea] := hD
  refine lv_aload_n hx hb dX6_put_7 rfl (lv_at hl 0 rfl) ?_
  refine va_get (D := D) (ci := 6) (v := .ref a5) (C := RX6) (T := TX6) (N := 15) hx hb hts inlX6 hown hG.K hP 0 rfl rfl 6 (by decide) (hts _ mF_X6_22) (fun _ h9 => h9) rfl dX6_put_8 ?_
  refine lv_iload_n hx hb dX6_put_11 rfl (lv_at hl 1 rfl) ?_
  refine lv_iload_n hx hb dX6_put_12 rfl (lv_at hl 3 rfl) ?_
  refine ist (n := 384) (j := k) hx hb hG hP hD hS 2 rfl (by omega) (by omega) dX6_put_13 (fun H locs hP hD hS => ?_)
  have hP : va_P D cls [oO mo 6 [.int th, .ref a1, .int (nI nC), .ref a2, .ref a3, .ref a4, .ref a5, .ref a6, .ref a7, .ref a8, .ref a9, .int (nI nS), .ref a10, .int (nI nM), .ref a11], aI D a4 384 (upd tm k x), aI D a5 384 (upd wo k y), aI D a6 384 ea] H := hP
  have hD : va_D A [oO mo 6 [.int th, .ref a1, .int (nI nC), .ref a2, .ref a3, .ref a4, .ref a5, .ref a6, .ref a7, .ref a8, .ref a9, .int (nI nS), .ref a10, .int (nI nM), .ref a11], aI D a4 384 (upd tm k x), aI D a5 384 (upd wo k y), aI D a6 384 ea] := hD
  refine lv_aload_n hx hb dX6_put_14 rfl (lv_at hl 0 rfl) ?_
  refine va_get (D := D) (ci := 6) (v := .ref a6) (C := RX6) (T := TX6) (N := 15) hx hb hts inlX6 hown hG.K hP 0 rfl rfl 7 (by decide) (hts _ mF_X6_25) (fun _ h9 => h9) rfl dX6_put_15 ?_
  refine lv_iload_n hx hb dX6_put_18 rfl (lv_at hl 1 rfl) ?_
  refine lv_iload hx hb dX6_put_19 (lv_at hl 4 rfl) ?_
  refine ist (n := 384) (j := k) hx hb hG hP hD hS 3 rfl (by omega) (by omega) dX6_put_21 (fun H locs hP hD hS => ?_)
  have hP : va_P D cls [oO mo 6 [.int th, .ref a1, .int (nI nC), .ref a2, .ref a3, .ref a4, .ref a5, .ref a6, .ref a7, .ref a8, .ref a9, .int (nI nS), .ref a10, .int (nI nM), .ref a11], aI D a4 384 (upd tm k x), aI D a5 384 (upd wo k y), aI D a6 384 (upd ea k z)] H := hP
  have hD : va_D A [oO mo 6 [.int th, .ref a1, .int (nI nC), .ref a2, .ref a3, .ref a4, .ref a5, .ref a6, .ref a7, .ref a8, .ref a9, .int (nI nS), .ref a10, .int (nI nM), .ref a11], aI D a4 384 (upd tm k x), aI D a5 384 (upd wo k y), aI D a6 384 (upd ea k z)] := hD
  refine Wv () hx hb hr hlk ?_ hP hD hS (Nat.le_of_ble_eq_true rfl) (by first | exact Nat.le_of_ble_eq_true rfl | exact Nat.le_of_eq (Nat.zero_add _)) dX6_put_22
  exact trivial
set_option maxHeartbeats 400000 in
set_option maxRecDepth 100000 in
theorem m_part (l : Launch) (D : va_G) {mo a1 a2 a3 a4 a5 a6 a7 a8 a9 a10 a11 nC nS nM : Nat} {th : Int32} {pa : Nat → Int32} {i w : Nat} (hi : i < 10) (hw : w < 13) : Met l yX6_part (ws_ yX6_part cX6_part 3 (some .int)) ({ frames := 0, cells := 0, slots := 0, locals := 0 } : Room) (va_Pc [.ref mo, .int (nI i), .int (nI w)] (PW D [oO mo 6 [.int th, .ref a1, .int (nI nC), .ref a2, .ref a3, .ref a4, .ref a5, .ref a6, .ref a7, .ref a8, .ref a9, .int (nI nS), .ref a10, .int (nI nM), .ref a11], aI D a10 130 pa])) (vp_Si (fun v => v = pa (13 * i + w))) 0 0 (fun _ => False) := by
  refine Met.ofW (cc := cX6_part) (maxL := 3) (ret := (some .int)) (by decide) rfl ?_
  intro p e s m args below meth c s₁ B hml hv
  obtain ⟨rfl, hG, hP⟩ := hv
  have hx := B.exec
  have hb := B.bytes
  have hr := B.returns
  have hts : ∀ w ∈ wsL_law, w.before _ s = true := fun w h => atoms_spec (ws := (ws_ yX6_part cX6_part 3 (some .int))) B.pre w (List.mem_cons_of_mem _ h)
  have hown : s.vm.findClass RX6 = some m.cls := findClass_of_methodNamed B.named
  have hlk := B.notSynchronized
  have hC : CallFix p m c cX6_part 3 s _ wsL_law RX6 := ⟨hx, hb, hml, hown, hts⟩
  have hl := lv_entry ([.ref mo, .int (nI i), .int (nI w)]) (n := 3) (Nat.le_of_ble_eq_true rfl)
  rw [lg_entry_eq]
  generalize (lg_sl ([.ref mo, .int (nI i), .int (nI w)]) ++ List.replicate (3 - (lg_sl ([.ref mo, .int (nI i), .int (nI w)])).length) Slot.unset).toArray = ls at hl ⊢
  have hl : lv_has ls 3 [(0, .ref mo), (1, .int (nI i)), (2, .int (nI w))] := hl
  refine lv_aload_n hx hb dX6_part_0 rfl (lv_at hl 0 rfl) ?_
  refine va_get (D := D) (ci := 6) (v := .ref a10) (C := RX6) (T := TX6) (N := 15) hx hb hts inlX6 hown hG.K hP 0 rfl rfl 12 (by decide) (hts _ mF_X6_37) (fun _ h9 => h9) rfl dX6_part_1 ?_
  refine lv_bipush (v := 13) hx hb dX6_part_4 (by decide) ?_
  refine lv_iload_n hx hb dX6_part_6 rfl (lv_at hl 1 rfl) ?_
  refine lv_imul hx hb dX6_part_7 ?_
  refine tpi (y := nI (13 * i)) (pk_mul 13 i) ?_
  refine lv_iload_n hx hb dX6_part_8 rfl (lv_at hl 2 rfl) ?_
  refine lv_iadd hx hb dX6_part_9 ?_
  refine tpi (y := nI ((13 * i) + w)) (nI_add (13 * i) w) ?_
  refine ild (n := 130) (j := (13 * i) + w) hx hb hG hP 1 rfl (by omega) (by omega) dX6_part_10 ?_
  refine Ri hx hb hr hlk ?_ dX6_part_11
  exact rfl
set_option maxHeartbeats 400000 in
set_option maxRecDepth 100000 in
theorem m_length (l : Launch) (D : va_G) {mo a1 a2 a3 a4 a5 a6 a7 a8 a9 a10 a11 nC nS nM : Nat} {th : Int32} {ln pa pt : Nat → Int32} {i c0 : Nat} {len : Int32} (hi : i < 10) (hpa : ∀ w, w < 13 → ¬ w = 2 → pa (13 * i + w) = pt w) (hc0 : pa (13 * i) = nI c0) (hc6 : c0 < 6) (hlq : ln c0 = len) : Met l yX6_length (ws_ yX6_length cX6_length 2 (some .int)) ({ frames := 1, cells := 0, slots := 0, locals := 22 } : Room) (va_Pc [.ref mo, .int (nI i)] (PW D [oO mo 6 [.int th, .ref a1, .int (nI nC), .ref a2, .ref a3, .ref a4, .ref a5, .ref a6, .ref a7, .ref a8, .ref a9, .int (nI nS), .ref a10, .int (nI nM), .ref a11], aI D a2 6 ln, aI D a10 130 pa])) (vp_Si (fun v => v = len)) 0 0 (fun _ => False) := by
  refine Met.ofW (cc := cX6_length) (maxL := 2) (ret := (some .int)) (by decide) rfl ?_
  intro p e s m args below meth c s₁ B hml hv
  obtain ⟨rfl, hG, hP⟩ := hv
  have hx := B.exec
  have hb := B.bytes
  have hr := B.returns
  have hts : ∀ w ∈ wsL_law, w.before _ s = true := fun w h => atoms_spec (ws := (ws_ yX6_length cX6_length 2 (some .int))) B.pre w (List.mem_cons_of_mem _ h)
  have hown : s.vm.findClass RX6 = some m.cls := findClass_of_methodNamed B.named
  have hlk := B.notSynchronized
  have hC : CallFix p m c cX6_length 2 s _ wsL_law RX6 := ⟨hx, hb, hml, hown, hts⟩
  have hl := lv_entry ([.ref mo, .int (nI i)]) (n := 2) (Nat.le_of_ble_eq_true rfl)
  rw [lg_entry_eq]
  generalize (lg_sl ([.ref mo, .int (nI i)]) ++ List.replicate (2 - (lg_sl ([.ref mo, .int (nI i)])).length) Slot.unset).toArray = ls at hl ⊢
  have hl : lv_has ls 2 [(0, .ref mo), (1, .int (nI i))] := hl
  refine lv_aload_n hx hb dX6_length_0 rfl (lv_at hl 0 rfl) ?_
  refine va_get (D := D) (ci := 6) (v := .ref a2) (C := RX6) (T := TX6) (N := 15) hx hb hts inlX6 hown hG.K hP 0 rfl rfl 3 (by decide) (hts _ mF_X6_13) (fun _ h9 => h9) rfl dX6_length_1 ?_
  refine lv_aload_n hx hb dX6_length_4 rfl (lv_at hl 0 rfl) ?_
  refine lv_iload_n hx hb dX6_length_5 rfl (lv_at hl 1 rfl) ?_
  refine lv_iconst (v := 0) hx hb dX6_length_6 (by decide) ?_
  have hP9 := hP.sub (ws' := [oO mo 6 [.int th, .ref a1, .int (nI nC), .ref a2, .ref a3, .ref a4, .ref a5, .ref a6, .ref a7, .ref a8, .ref a9, .int (nI nS), .ref a10, .int (nI nM), .ref a11], aI D a10 130 pa]) [0, 2] rfl
  refine vp_callSi (pV (rest := [.ref a2]) (qc := (RX6, TX6, 15)) [.int (nI i), .int 0] 2 hC (m_part l D (mo := mo) (i := i) (w := 0) (th := th) (a1 := a1) (nC := nC) (a2 := a2) (a3 := a3) (a4 := a4) (a5 := a5) (a6 := a6) (a7 := a7) (a8 := a8) (a9 := a9) (nS := nS) (a10 := a10) (nM := nM) (a11 := a11) (pa := pa) (by omega) (by omega)) rfl (hP 0 _ rfl) (gV mM_X6_120 mI_X6_part mS_X6_part mN_X6 mC_X6_part) (by decide +kernel) rfl rfl ⟨Nat.le_of_ble_eq_true rfl, Nat.le_of_ble_eq_true rfl⟩ hG hP9 rfl hl.1 rfl (Nat.le_of_ble_eq_true rfl) dX6_length_7 ⟨Nat.le_of_ble_eq_true rfl, Nat.le_of_ble_eq_true rfl⟩) (fun r7 h7 => ?_)
  obtain rfl : r7 = (pa (13 * i + 0)) := h7
  refine tpi (y := nI c0) (hc0) ?_
  refine ild (n := 6) (j := c0) hx hb hG hP 1 rfl (by omega) (by omega) dX6_length_10 ?_
  refine Ri hx hb hr hlk ?_ dX6_length_11
  exact hlq
set_option maxHeartbeats 400000 in
set_option maxRecDepth 100000 in
theorem m_ticks (l : Launch) (D : va_G) {mo a1 a2 a3 a4 a5 a6 a7 a8 a9 a10 a11 nC nS nM : Nat} {th : Int32} {ln pa pt : Nat → Int32} {i c0 : Nat} {len : Int32} (hi : i < 10) (hpa : ∀ w, w < 13 → ¬ w = 2 → pa (13 * i + w) = pt w) (hc0 : pa (13 * i) = nI c0) (hc6 : c0 < 6) (hlq : ln c0 = len) : Met l yX6_ticks (ws_ yX6_ticks cX6_ticks 2 (some .int)) ({ frames := 2, cells := 0, slots := 0, locals := 43 } : Room) (va_Pc [.ref mo, .int (nI i)] (PW D [oO mo 6 [.int th, .ref a1, .int (nI nC), .ref a2, .ref a3, .ref a4, .ref a5, .ref a6, .ref a7, .ref a8, .ref a9, .int (nI nS), .ref a10, .int (nI nM), .ref a11], aI D a2 6 ln, aI D a10 130 pa])) (vp_Si (fun v => v = ticksS len pt)) 0 0 (fun _ => False) := by
  refine Met.ofW (cc := cX6_ticks) (maxL := 2) (ret := (some .int)) (by decide) rfl ?_
  intro p e s m args below meth c s₁ B hml hv
  obtain ⟨rfl, hG, hP⟩ := hv
  have hx := B.exec
  have hb := B.bytes
  have hr := B.returns
  have hts : ∀ w ∈ wsL_law, w.before _ s = true := fun w h => atoms_spec (ws := (ws_ yX6_ticks cX6_ticks 2 (some .int))) B.pre w (List.mem_cons_of_mem _ h)
  have hown : s.vm.findClass RX6 = some m.cls := findClass_of_methodNamed B.named
  have hlk := B.notSynchronized
  have hC : CallFix p m c cX6_ticks 2 s _ wsL_law RX6 := ⟨hx, hb, hml, hown, hts⟩
  have hl := lv_entry ([.ref mo, .int (nI i)]) (n := 2) (Nat.le_of_ble_eq_true rfl)
  rw [lg_entry_eq]
  generalize (lg_sl ([.ref mo, .int (nI i)]) ++ List.replicate (2 - (lg_sl ([.ref mo, .int (nI i)])).length) Slot.unset).toArray = ls at hl ⊢
  have hl : lv_has ls 2 [(0, .ref mo), (1, .int (nI i))] := hl
  refine lv_aload_n hx hb dX6_ticks_0 rfl (lv_at hl 0 rfl) ?_
  refine lv_iload_n hx hb dX6_ticks_1 rfl (lv_at hl 1 rfl) ?_
  have hP9 := hP
  refine vp_callSi (pV (rest := []) (qc := (RX6, TX6, 15)) [.int (nI i)] 1 hC (m_length l D (pt := pt) (c0 := c0) (len := len) (mo := mo) (i := i) (th := th) (a1 := a1) (nC := nC) (a2 := a2) (a3 := a3) (a4 := a4) (a5 := a5) (a6 := a6) (a7 := a7) (a8 := a8) (a9 := a9) (nS := nS) (a10 := a10) (nM := nM) (a11 := a11) (ln := ln) (pa := pa) (by omega) (hpa) (hc0) (by omega) (hlq)) rfl (hP 0 _ rfl) (gV mM_X6_123 mI_X6_length mS_X6_length mN_X6 mC_X6_length) (by decide +kernel) rfl rfl ⟨Nat.le_of_ble_eq_true rfl, Nat.le_of_ble_eq_true rfl⟩ hG hP9 rfl hl.1 rfl (Nat.le_of_ble_eq_true rfl) dX6_ticks_2 ⟨Nat.le_of_ble_eq_true rfl, Nat.le_of_ble_eq_true rfl⟩) (fun r2 h2 => ?_)
  obtain rfl : len = r2 := Eq.symm h2
  refine lv_aload_n hx hb dX6_ticks_5 rfl (lv_at hl 0 rfl) ?_
  refine lv_iload_n hx hb dX6_ticks_6 rfl (lv_at hl 1 rfl) ?_
  refine lv_iconst (v := 3) hx hb dX6_ticks_7 (by decide) ?_
  have hP9 := hP.sub (ws' := [oO mo 6 [.int th, .ref a1, .int (nI nC), .ref a2, .ref a3, .ref a4, .ref a5, .ref a6, .ref a7, .ref a8, .ref a9, .int (nI nS), .ref a10, .int (nI nM), .ref a11], aI D a10 130 pa]) [0, 2] rfl
  refine vp_callSi (pV (rest := [.int len]) (qc := (RX6, TX6, 15)) [.int (nI i), .int 3] 2 hC (m_part l D (mo := mo) (i := i) (w := 3) (th := th) (a1 := a1) (nC := nC) (a2 := a2) (a3 := a3) (a4 := a4) (a5 := a5) (a6 := a6) (a7 := a7) (a8 := a8) (a9 := a9) (nS := nS) (a10 := a10) (nM := nM) (a11 := a11) (pa := pa) (by omega) (by omega)) rfl (hP 0 _ rfl) (gV mM_X6_120 mI_X6_part mS_X6_part mN_X6 mC_X6_part) (by decide +kernel) rfl rfl ⟨Nat.le_of_ble_eq_true rfl, Nat.le_of_ble_eq_true rfl⟩ hG hP9 rfl hl.1 rfl (Nat.le_of_ble_eq_true rfl) dX6_ticks_8 ⟨Nat.le_of_ble_eq_true rfl, Nat.le_of_ble_eq_true rfl⟩) (fun r8 h8 => ?_)
  obtain rfl : r8 = (pa (13 * i + 3)) := h8
  refine tpi (y := pt 3) (hpa 3 (by decide) (by decide)) ?_
  refine lv_imul hx hb dX6_ticks_11 ?_
  refine Ri hx hb hr hlk ?_ dX6_ticks_12
  exact rfl
set_option maxHeartbeats 400000 in
set_option maxRecDepth 100000 in
theorem m_timeOf (l : Launch) (D : va_G) {mo a1 a2 a3 a4 a5 a6 a7 a8 a9 a10 a11 nC nS nM : Nat} {th : Int32} {ln pa pt : Nat → Int32} {i c0 : Nat} {len : Int32} {x : Int32} (hi : i < 10) (hpa : ∀ w, w < 13 → ¬ w = 2 → pa (13 * i + w) = pt w) (hc0 : pa (13 * i) = nI c0) (hc6 : c0 < 6) (hlq : ln c0 = len) (hp : 0 < pt 5) : Met l yX6_timeOf (ws_ yX6_timeOf cX6_timeOf 3 (some .int)) ({ frames := 1, cells := 0, slots := 0, locals := 22 } : Room) (va_Pc [.ref mo, .int (nI i), .int x] (PW D [oO mo 6 [.int th, .ref a1, .int (nI nC), .ref a2, .ref a3, .ref a4, .ref a5, .ref a6, .ref a7, .ref a8, .ref a9, .int (nI nS), .ref a10, .int (nI nM), .ref a11], aI D a2 6 ln, aI D a10 130 pa])) (vp_Si (fun v => v = timeOfS pt x)) 0 0 (fun _ => False) := by
  refine Met.ofW (cc := cX6_timeOf) (maxL := 3) (ret := (some .int)) (by decide) rfl ?_
  intro p e s m args below meth c s₁ B hml hv
  obtain ⟨rfl, hG, hP⟩ := hv
  have hx := B.exec
  have hb := B.bytes
  have hr := B.returns
  have hts : ∀ w ∈ wsL_law, w.before _ s = true := fun w h => atoms_spec (ws := (ws_ yX6_timeOf cX6_timeOf 3 (some .int))) B.pre w (List.mem_cons_of_mem _ h)
  have hown : s.vm.findClass RX6 = some m.cls := findClass_of_methodNamed B.named
  have hlk := B.notSynchronized
  have hC : CallFix p m c cX6_timeOf 3 s _ wsL_law RX6 := ⟨hx, hb, hml, hown, hts⟩
  have hl := lv_entry ([.ref mo, .int (nI i), .int x]) (n := 3) (Nat.le_of_ble_eq_true rfl)
  rw [lg_entry_eq]
  generalize (lg_sl ([.ref mo, .int (nI i), .int x]) ++ List.replicate (3 - (lg_sl ([.ref mo, .int (nI i), .int x])).length) Slot.unset).toArray = ls at hl ⊢
  have hl : lv_has ls 3 [(0, .ref mo), (1, .int (nI i)), (2, .int x)] := hl
  refine lv_aload_n hx hb dX6_timeOf_0 rfl (lv_at hl 0 rfl) ?_
  refine lv_iload_n hx hb dX6_timeOf_1 rfl (lv_at hl 1 rfl) ?_
  refine lv_iconst (v := 1) hx hb dX6_timeOf_2 (by decide) ?_
  have hP9 := hP.sub (ws' := [oO mo 6 [.int th, .ref a1, .int (nI nC), .ref a2, .ref a3, .ref a4, .ref a5, .ref a6, .ref a7, .ref a8, .ref a9, .int (nI nS), .ref a10, .int (nI nM), .ref a11], aI D a10 130 pa]) [0, 2] rfl
  refine vp_callSi (pV (rest := []) (qc := (RX6, TX6, 15)) [.int (nI i), .int 1] 2 hC (m_part l D (mo := mo) (i := i) (w := 1) (th := th) (a1 := a1) (nC := nC) (a2 := a2) (a3 := a3) (a4 := a4) (a5 := a5) (a6 := a6) (a7 := a7) (a8 := a8) (a9 := a9) (nS := nS) (a10 := a10) (nM := nM) (a11 := a11) (pa := pa) (by omega) (by omega)) rfl (hP 0 _ rfl) (gV mM_X6_120 mI_X6_part mS_X6_part mN_X6 mC_X6_part) (by decide +kernel) rfl rfl ⟨Nat.le_of_ble_eq_true rfl, Nat.le_of_ble_eq_true rfl⟩ hG hP9 rfl hl.1 rfl (Nat.le_of_ble_eq_true rfl) dX6_timeOf_3 ⟨Nat.le_of_ble_eq_true rfl, Nat.le_of_ble_eq_true rfl⟩) (fun r3 h3 => ?_)
  obtain rfl : r3 = (pa (13 * i + 1)) := h3
  refine tpi (y := pt 1) (hpa 1 (by decide) (by decide)) ?_
  refine lv_iload_n hx hb dX6_timeOf_6 rfl (lv_at hl 2 rfl) ?_
  refine lv_aload_n hx hb dX6_timeOf_7 rfl (lv_at hl 0 rfl) ?_
  refine lv_iload_n hx hb dX6_timeOf_8 rfl (lv_at hl 1 rfl) ?_
  refine lv_bipush (v := 6) hx hb dX6_timeOf_9 (by decide) ?_
  have hP9 := hP.sub (ws' := [oO mo 6 [.int th, .ref a1, .int (nI nC), .ref a2, .ref a3, .ref a4, .ref a5, .ref a6, .ref a7, .ref a8, .ref a9, .int (nI nS), .ref a10, .int (nI nM), .ref a11], aI D a10 130 pa]) [0, 2] rfl
  refine vp_callSi (pV (rest := [.int x, .int (pt 1)]) (qc := (RX6, TX6, 15)) [.int (nI i), .int 6] 2 hC (m_part l D (mo := mo) (i := i) (w := 6) (th := th) (a1 := a1) (nC := nC) (a2 := a2) (a3 := a3) (a4 := a4) (a5 := a5) (a6 := a6) (a7 := a7) (a8 := a8) (a9 := a9) (nS := nS) (a10 := a10) (nM := nM) (a11 := a11) (pa := pa) (by omega) (by omega)) rfl (hP 0 _ rfl) (gV mM_X6_120 mI_X6_part mS_X6_part mN_X6 mC_X6_part) (by decide +kernel) rfl rfl ⟨Nat.le_of_ble_eq_true rfl, Nat.le_of_ble_eq_true rfl⟩ hG hP9 rfl hl.1 rfl (Nat.le_of_ble_eq_true rfl) dX6_timeOf_11 ⟨Nat.le_of_ble_eq_true rfl, Nat.le_of_ble_eq_true rfl⟩) (fun r11 h11 => ?_)
  obtain rfl : r11 = (pa (13 * i + 6)) := h11
  refine tpi (y := pt 6) (hpa 6 (by decide) (by decide)) ?_
  refine lv_imul hx hb dX6_timeOf_14 ?_
  refine lv_aload_n hx hb dX6_timeOf_15 rfl (lv_at hl 0 rfl) ?_
  refine lv_iload_n hx hb dX6_timeOf_16 rfl (lv_at hl 1 rfl) ?_
  refine lv_iconst (v := 5) hx hb dX6_timeOf_17 (by decide) ?_
  have hP9 := hP.sub (ws' := [oO mo 6 [.int th, .ref a1, .int (nI nC), .ref a2, .ref a3, .ref a4, .ref a5, .ref a6, .ref a7, .ref a8, .ref a9, .int (nI nS), .ref a10, .int (nI nM), .ref a11], aI D a10 130 pa]) [0, 2] rfl
  refine vp_callSi (pV (rest := [.int (x * (pt 6)), .int (pt 1)]) (qc := (RX6, TX6, 15)) [.int (nI i), .int 5] 2 hC (m_part l D (mo := mo) (i := i) (w := 5) (th := th) (a1 := a1) (nC := nC) (a2 := a2) (a3 := a3) (a4 := a4) (a5 := a5) (a6 := a6) (a7 := a7) (a8 := a8) (a9 := a9) (nS := nS) (a10 := a10) (nM := nM) (a11 := a11) (pa := pa) (by omega) (by omega)) rfl (hP 0 _ rfl) (gV mM_X6_120 mI_X6_part mS_X6_part mN_X6 mC_X6_part) (by decide +kernel) rfl rfl ⟨Nat.le_of_ble_eq_true rfl, Nat.le_of_ble_eq_true rfl⟩ hG hP9 rfl hl.1 rfl (Nat.le_of_ble_eq_true rfl) dX6_timeOf_18 ⟨Nat.le_of_ble_eq_true rfl, Nat.le_of_ble_eq_true rfl⟩) (fun r18 h18 => ?_)
  obtain rfl : r18 = (pa (13 * i + 5)) := h18
  refine tpi (y := pt 5) (hpa 5 (by decide) (by decide)) ?_
  refine lv_iadd hx hb dX6_timeOf_21 ?_
  refine lv_iconst (v := 1) hx hb dX6_timeOf_22 (by decide) ?_
  refine lv_isub hx hb dX6_timeOf_23 ?_
  refine lv_aload_n hx hb dX6_timeOf_24 rfl (lv_at hl 0 rfl) ?_
  refine lv_iload_n hx hb dX6_timeOf_25 rfl (lv_at hl 1 rfl) ?_
  refine lv_iconst (v := 5) hx hb dX6_timeOf_26 (by decide) ?_
  have hP9 := hP.sub (ws' := [oO mo 6 [.int th, .ref a1, .int (nI nC), .ref a2, .ref a3, .ref a4, .ref a5, .ref a6, .ref a7, .ref a8, .ref a9, .int (nI nS), .ref a10, .int (nI nM), .ref a11], aI D a10 130 pa]) [0, 2] rfl
  refine vp_callSi (pV (rest := [.int (((x * (pt 6)) + (pt 5)) - 1), .int (pt 1)]) (qc := (RX6, TX6, 15)) [.int (nI i), .int 5] 2 hC (m_part l D (mo := mo) (i := i) (w := 5) (th := th) (a1 := a1) (nC := nC) (a2 := a2) (a3 := a3) (a4 := a4) (a5 := a5) (a6 := a6) (a7 := a7) (a8 := a8) (a9 := a9) (nS := nS) (a10 := a10) (nM := nM) (a11 := a11) (pa := pa) (by omega) (by omega)) rfl (hP 0 _ rfl) (gV mM_X6_120 mI_X6_part mS_X6_part mN_X6 mC_X6_part) (by decide +kernel) rfl rfl ⟨Nat.le_of_ble_eq_true rfl, Nat.le_of_ble_eq_true rfl⟩ hG hP9 rfl hl.1 rfl (Nat.le_of_ble_eq_true rfl) dX6_timeOf_27 ⟨Nat.le_of_ble_eq_true rfl, Nat.le_of_ble_eq_true rfl⟩) (fun r27 h27 => ?_)
  obtain rfl : r27 = (pa (13 * i + 5)) := h27
  refine tpi (y := pt 5) (hpa 5 (by decide) (by decide)) ?_
  refine lv_idiv hx hb dX6_timeOf_30 (fun h => by rw [h] at hp; exact absurd hp (by decide)) ?_
  refine lv_iadd hx hb dX6_timeOf_31 ?_
  refine Ri hx hb hr hlk ?_ dX6_timeOf_32
  exact rfl
set_option maxHeartbeats 400000 in
set_option maxRecDepth 100000 in
theorem m_endOf (l : Launch) (D : va_G) {mo a1 a2 a3 a4 a5 a6 a7 a8 a9 a10 a11 nC nS nM : Nat} {th : Int32} {ln pa pt : Nat → Int32} {i c0 : Nat} {len : Int32} (hi : i < 10) (hpa : ∀ w, w < 13 → ¬ w = 2 → pa (13 * i + w) = pt w) (hc0 : pa (13 * i) = nI c0) (hc6 : c0 < 6) (hlq : ln c0 = len) (hp : 0 < pt 5) : Met l yX6_endOf (ws_ yX6_endOf cX6_endOf 2 (some .int)) ({ frames := 3, cells := 0, slots := 0, locals := 64 } : Room) (va_Pc [.ref mo, .int (nI i)] (PW D [oO mo 6 [.int th, .ref a1, .int (nI nC), .ref a2, .ref a3, .ref a4, .ref a5, .ref a6, .ref a7, .ref a8, .ref a9, .int (nI nS), .ref a10, .int (nI nM), .ref a11], aI D a2 6 ln, aI D a10 130 pa])) (vp_Si (fun v => v = endS len pt)) 0 0 (fun _ => False) := by
  refine Met.ofW (cc := cX6_endOf) (maxL := 2) (ret := (some .int)) (by decide) rfl ?_
  intro p e s m args below meth c s₁ B hml hv
  obtain ⟨rfl, hG, hP⟩ := hv
  have hx := B.exec
  have hb := B.bytes
  have hr := B.returns
  have hts : ∀ w ∈ wsL_law, w.before _ s = true := fun w h => atoms_spec (ws := (ws_ yX6_endOf cX6_endOf 2 (some .int))) B.pre w (List.mem_cons_of_mem _ h)
  have hown : s.vm.findClass RX6 = some m.cls := findClass_of_methodNamed B.named
  have hlk := B.notSynchronized
  have hC : CallFix p m c cX6_endOf 2 s _ wsL_law RX6 := ⟨hx, hb, hml, hown, hts⟩
  have hl := lv_entry ([.ref mo, .int (nI i)]) (n := 2) (Nat.le_of_ble_eq_true rfl)
  rw [lg_entry_eq]
  generalize (lg_sl ([.ref mo, .int (nI i)]) ++ List.replicate (2 - (lg_sl ([.ref mo, .int (nI i)])).length) Slot.unset).toArray = ls at hl ⊢
  have hl : lv_has ls 2 [(0, .ref mo), (1, .int (nI i))] := hl
  refine lv_aload_n hx hb dX6_endOf_0 rfl (lv_at hl 0 rfl) ?_
  refine lv_iload_n hx hb dX6_endOf_1 rfl (lv_at hl 1 rfl) ?_
  refine lv_aload_n hx hb dX6_endOf_2 rfl (lv_at hl 0 rfl) ?_
  refine lv_iload_n hx hb dX6_endOf_3 rfl (lv_at hl 1 rfl) ?_
  have hP9 := hP
  refine vp_callSi (pV (rest := [.int (nI i), .ref mo]) (qc := (RX6, TX6, 15)) [.int (nI i)] 1 hC (m_ticks l D (pt := pt) (c0 := c0) (len := len) (mo := mo) (i := i) (th := th) (a1 := a1) (nC := nC) (a2 := a2) (a3 := a3) (a4 := a4) (a5 := a5) (a6 := a6) (a7 := a7) (a8 := a8) (a9 := a9) (nS := nS) (a10 := a10) (nM := nM) (a11 := a11) (ln := ln) (pa := pa) (by omega) (hpa) (hc0) (by omega) (hlq)) rfl (hP 0 _ rfl) (gV mM_X6_126 mI_X6_ticks mS_X6_ticks mN_X6 mC_X6_ticks) (by decide +kernel) rfl rfl ⟨Nat.le_of_ble_eq_true rfl, Nat.le_of_ble_eq_true rfl⟩ hG hP9 rfl hl.1 rfl (Nat.le_of_ble_eq_true rfl) dX6_endOf_4 ⟨Nat.le_of_ble_eq_true rfl, Nat.le_of_ble_eq_true rfl⟩) (fun r4 h4 => ?_)
  obtain rfl : r4 = (ticksS len pt) := h4
  have hP9 := hP
  refine vp_callSi (pV (rest := []) (qc := (RX6, TX6, 15)) [.int (nI i), .int (ticksS len pt)] 2 hC (m_timeOf l D (pt := pt) (c0 := c0) (len := len) (mo := mo) (i := i) (x := ticksS len pt) (th := th) (a1 := a1) (nC := nC) (a2 := a2) (a3 := a3) (a4 := a4) (a5 := a5) (a6 := a6) (a7 := a7) (a8 := a8) (a9 := a9) (nS := nS) (a10 := a10) (nM := nM) (a11 := a11) (ln := ln) (pa := pa) (by omega) (hpa) (hc0) (by omega) (hlq) (hp)) rfl (hP 0 _ rfl) (gV mM_X6_129 mI_X6_timeOf mS_X6_timeOf mN_X6 mC_X6_timeOf) (by decide +kernel) rfl rfl ⟨Nat.le_of_ble_eq_true rfl, Nat.le_of_ble_eq_true rfl⟩ hG hP9 rfl hl.1 rfl (Nat.le_of_ble_eq_true rfl) dX6_endOf_7 ⟨Nat.le_of_ble_eq_true rfl, Nat.le_of_ble_eq_true rfl⟩) (fun r7 h7 => ?_)
  obtain rfl : r7 = (timeOfS pt (ticksS len pt)) := h7
  refine Ri hx hb hr hlk ?_ dX6_endOf_10
  exact rfl
set_option maxHeartbeats 400000 in
set_option maxRecDepth 100000 in
theorem m_isBack (l : Launch) (D : va_G) {mo a1 a2 a3 a4 a5 a6 a7 a8 a9 a10 a11 nC nS nM : Nat} {th : Int32} {ln pa pt : Nat → Int32} {i c0 : Nat} {len : Int32} {x : Int32} (hi : i < 10) (hpa : ∀ w, w < 13 → ¬ w = 2 → pa (13 * i + w) = pt w) (hc0 : pa (13 * i) = nI c0) (hc6 : c0 < 6) (hlq : ln c0 = len) : Met l yX6_isBack (ws_ yX6_isBack cX6_isBack 3 (some .boolean)) ({ frames := 1, cells := 0, slots := 0, locals := 22 } : Room) (va_Pc [.ref mo, .int (nI i), .int x] (PW D [oO mo 6 [.int th, .ref a1, .int (nI nC), .ref a2, .ref a3, .ref a4, .ref a5, .ref a6, .ref a7, .ref a8, .ref a9, .int (nI nS), .ref a10, .int (nI nM), .ref a11], aI D a2 6 ln, aI D a10 130 pa])) (vp_Si (fun v => (v = 1 ∧ (backS pt x)) ∨ (v = 0 ∧ ¬ (backS pt x)))) 0 0 (fun _ => False) := by
  refine Met.ofW (cc := cX6_isBack) (maxL := 3) (ret := (some .boolean)) (by decide) rfl ?_
  intro p e s m args below meth c s₁ B hml hv
  obtain ⟨rfl, hG, hP⟩ := hv
  have hx := B.exec
  have hb := B.bytes
  have hr := B.returns
  have hts : ∀ w ∈ wsL_law, w.before _ s = true := fun w h => atoms_spec (ws := (ws_ yX6_isBack cX6_isBack 3 (some .boolean))) B.pre w (List.mem_cons_of_mem _ h)
  have hown : s.vm.findClass RX6 = some m.cls := findClass_of_methodNamed B.named
  have hlk := B.notSynchronized
  have hC : CallFix p m c cX6_isBack 3 s _ wsL_law RX6 := ⟨hx, hb, hml, hown, hts⟩
  have hl := lv_entry ([.ref mo, .int (nI i), .int x]) (n := 3) (Nat.le_of_ble_eq_true rfl)
  rw [lg_entry_eq]
  generalize (lg_sl ([.ref mo, .int (nI i), .int x]) ++ List.replicate (3 - (lg_sl ([.ref mo, .int (nI i), .int x])).length) Slot.unset).toArray = ls at hl ⊢
  have hl : lv_has ls 3 [(0, .ref mo), (1, .int (nI i)), (2, .int x)] := hl
  refine lv_aload_n hx hb dX6_isBack_0 rfl (lv_at hl 0 rfl) ?_
  refine lv_iload_n hx hb dX6_isBack_1 rfl (lv_at hl 1 rfl) ?_
  refine lv_iconst (v := 4) hx hb dX6_isBack_2 (by decide) ?_
  have hP9 := hP.sub (ws' := [oO mo 6 [.int th, .ref a1, .int (nI nC), .ref a2, .ref a3, .ref a4, .ref a5, .ref a6, .ref a7, .ref a8, .ref a9, .int (nI nS), .ref a10, .int (nI nM), .ref a11], aI D a10 130 pa]) [0, 2] rfl
  refine vp_callSi (pV (rest := []) (qc := (RX6, TX6, 15)) [.int (nI i), .int 4] 2 hC (m_part l D (mo := mo) (i := i) (w := 4) (th := th) (a1 := a1) (nC := nC) (a2 := a2) (a3 := a3) (a4 := a4) (a5 := a5) (a6 := a6) (a7 := a7) (a8 := a8) (a9 := a9) (nS := nS) (a10 := a10) (nM := nM) (a11 := a11) (pa := pa) (by omega) (by omega)) rfl (hP 0 _ rfl) (gV mM_X6_120 mI_X6_part mS_X6_part mN_X6 mC_X6_part) (by decide +kernel) rfl rfl ⟨Nat.le_of_ble_eq_true rfl, Nat.le_of_ble_eq_true rfl⟩ hG hP9 rfl hl.1 rfl (Nat.le_of_ble_eq_true rfl) dX6_isBack_3 ⟨Nat.le_of_ble_eq_true rfl, Nat.le_of_ble_eq_true rfl⟩) (fun r3 h3 => ?_)
  obtain rfl : r3 = (pa (13 * i + 4)) := h3
  refine tpi (y := pt 4) (hpa 4 (by decide) (by decide)) ?_
  refine lv_iconst (v := 1) hx hb dX6_isBack_6 (by decide) ?_
  refine lv_icmp_eq (tgt := 27) hx hb dX6_isBack_7 (by decide) (fun c7 => ?_) (fun c7 => ?_)
  · skip
    refine lv_iconst (v := 1) hx hb dX6_isBack_27 (by decide) ?_
    refine lv_goto (tgt := 32) hx hb dX6_isBack_28 (by decide) ?_
    refine Rz hx hb hr hlk (by first | rfl | decide) ?_ dX6_isBack_32
    first
    | exact Or.inl ⟨rfl, Or.inl c7⟩
    | exact Or.inl ⟨rfl, Or.inr ⟨c17, c24⟩⟩
    | exact Or.inr ⟨rfl, fun h => h.elim c7 (fun z => c17 z.1)⟩
    | exact Or.inr ⟨rfl, fun h => h.elim c7 (fun z => c24 z.2)⟩
  · skip
    refine lv_aload_n hx hb dX6_isBack_10 rfl (lv_at hl 0 rfl) ?_
    refine lv_iload_n hx hb dX6_isBack_11 rfl (lv_at hl 1 rfl) ?_
    refine lv_iconst (v := 4) hx hb dX6_isBack_12 (by decide) ?_
    have hP9 := hP.sub (ws' := [oO mo 6 [.int th, .ref a1, .int (nI nC), .ref a2, .ref a3, .ref a4, .ref a5, .ref a6, .ref a7, .ref a8, .ref a9, .int (nI nS), .ref a10, .int (nI nM), .ref a11], aI D a10 130 pa]) [0, 2] rfl
    refine vp_callSi (pV (rest := []) (qc := (RX6, TX6, 15)) [.int (nI i), .int 4] 2 hC (m_part l D (mo := mo) (i := i) (w := 4) (th := th) (a1 := a1) (nC := nC) (a2 := a2) (a3 := a3) (a4 := a4) (a5 := a5) (a6 := a6) (a7 := a7) (a8 := a8) (a9 := a9) (nS := nS) (a10 := a10) (nM := nM) (a11 := a11) (pa := pa) (by omega) (by omega)) rfl (hP 0 _ rfl) (gV mM_X6_120 mI_X6_part mS_X6_part mN_X6 mC_X6_part) (by decide +kernel) rfl rfl ⟨Nat.le_of_ble_eq_true rfl, Nat.le_of_ble_eq_true rfl⟩ hG hP9 rfl hl.1 rfl (Nat.le_of_ble_eq_true rfl) dX6_isBack_13 ⟨Nat.le_of_ble_eq_true rfl, Nat.le_of_ble_eq_true rfl⟩) (fun r13 h13 => ?_)
    obtain rfl : r13 = (pa (13 * i + 4)) := h13
    refine tpi (y := pt 4) (hpa 4 (by decide) (by decide)) ?_
    refine lv_iconst (v := 2) hx hb dX6_isBack_16 (by decide) ?_
    refine lv_icmp_ne (tgt := 31) hx hb dX6_isBack_17 (by decide) (fun c17 => ?_) (fun c17 => ?_)
    · skip
      refine lv_iconst (v := 0) hx hb dX6_isBack_31 (by decide) ?_
      refine Rz hx hb hr hlk (by first | rfl | decide) ?_ dX6_isBack_32
      first
      | exact Or.inl ⟨rfl, Or.inl c7⟩
      | exact Or.inl ⟨rfl, Or.inr ⟨c17, c24⟩⟩
      | exact Or.inr ⟨rfl, fun h => h.elim c7 (fun z => c17 z.1)⟩
      | exact Or.inr ⟨rfl, fun h => h.elim c7 (fun z => c24 z.2)⟩
    · skip
      refine lv_iload_n hx hb dX6_isBack_20 rfl (lv_at hl 2 rfl) ?_
      refine lv_iconst (v := 2) hx hb dX6_isBack_21 (by decide) ?_
      refine lv_irem hx hb dX6_isBack_22 (by decide) ?_
      refine lv_iconst (v := 1) hx hb dX6_isBack_23 (by decide) ?_
      refine lv_icmp_ne (tgt := 31) hx hb dX6_isBack_24 (by decide) (fun c24 => ?_) (fun c24 => ?_)
      · skip
        refine lv_iconst (v := 0) hx hb dX6_isBack_31 (by decide) ?_
        refine Rz hx hb hr hlk (by first | rfl | decide) ?_ dX6_isBack_32
        first
        | exact Or.inl ⟨rfl, Or.inl c7⟩
        | exact Or.inl ⟨rfl, Or.inr ⟨c17, c24⟩⟩
        | exact Or.inr ⟨rfl, fun h => h.elim c7 (fun z => c17 z.1)⟩
        | exact Or.inr ⟨rfl, fun h => h.elim c7 (fun z => c24 z.2)⟩
      · skip
        refine lv_iconst (v := 1) hx hb dX6_isBack_27 (by decide) ?_
        refine lv_goto (tgt := 32) hx hb dX6_isBack_28 (by decide) ?_
        refine Rz hx hb hr hlk (by first | rfl | decide) ?_ dX6_isBack_32
        first
        | exact Or.inl ⟨rfl, Or.inl c7⟩
        | exact Or.inl ⟨rfl, Or.inr ⟨c17, c24⟩⟩
        | exact Or.inr ⟨rfl, fun h => h.elim c7 (fun z => c17 z.1)⟩
        | exact Or.inr ⟨rfl, fun h => h.elim c7 (fun z => c24 z.2)⟩
set_option maxHeartbeats 400000 in
set_option maxRecDepth 100000 in
theorem m_isOn (l : Launch) (D : va_G) {mo a1 a2 a3 a4 a5 a6 a7 a8 a9 a10 a11 nC nS nM : Nat} {th : Int32} {ln pa pt : Nat → Int32} {i c0 : Nat} {len : Int32} {x : Int32} (hi : i < 10) (hpa : ∀ w, w < 13 → ¬ w = 2 → pa (13 * i + w) = pt w) (hc0 : pa (13 * i) = nI c0) (hc6 : c0 < 6) (hlq : ln c0 = len) (hp : 0 < pt 5) (h10 : pt 10 = 0 ∨ pt 10 = 1) : Met l yX6_isOn (ws_ yX6_isOn cX6_isOn 3 (some .boolean)) ({ frames := 4, cells := 0, slots := 0, locals := 85 } : Room) (va_Pc [.ref mo, .int (nI i), .int x] (PW D [oO mo 6 [.int th, .ref a1, .int (nI nC), .ref a2, .ref a3, .ref a4, .ref a5, .ref a6, .ref a7, .ref a8, .ref a9, .int (nI nS), .ref a10, .int (nI nM), .ref a11], aI D a2 6 ln, aI D a10 130 pa])) (vp_Si (fun v => (v = 1 ∧ (isOnS len pt x)) ∨ (v = 0 ∧ ¬ (isOnS len pt x)))) 0 0 (fun _ => False) := by
  refine Met.ofW (cc := cX6_isOn) (maxL := 3) (ret := (some .boolean)) (by decide) rfl ?_
  intro p e s m args below meth c s₁ B hml hv
  obtain ⟨rfl, hG, hP⟩ := hv
  have hx := B.exec
  have hb := B.bytes
  have hr := B.returns
  have hts : ∀ w ∈ wsL_law, w.before _ s = true := fun w h => atoms_spec (ws := (ws_ yX6_isOn cX6_isOn 3 (some .boolean))) B.pre w (List.mem_cons_of_mem _ h)
  have hown : s.vm.findClass RX6 = some m.cls := findClass_of_methodNamed B.named
  have hlk := B.notSynchronized
  have hC : CallFix p m c cX6_isOn 3 s _ wsL_law RX6 := ⟨hx, hb, hml, hown, hts⟩
  have hl := lv_entry ([.ref mo, .int (nI i), .int x]) (n := 3) (Nat.le_of_ble_eq_true rfl)
  rw [lg_entry_eq]
  generalize (lg_sl ([.ref mo, .int (nI i), .int x]) ++ List.replicate (3 - (lg_sl ([.ref mo, .int (nI i), .int x])).length) Slot.unset).toArray = ls at hl ⊢
  have hl : lv_has ls 3 [(0, .ref mo), (1, .int (nI i)), (2, .int x)] := hl
  refine lv_iload_n hx hb dX6_isOn_0 rfl (lv_at hl 2 rfl) ?_
  refine lv_aload_n hx hb dX6_isOn_1 rfl (lv_at hl 0 rfl) ?_
  refine lv_iload_n hx hb dX6_isOn_2 rfl (lv_at hl 1 rfl) ?_
  refine lv_iconst (v := 1) hx hb dX6_isOn_3 (by decide) ?_
  have hP9 := hP.sub (ws' := [oO mo 6 [.int th, .ref a1, .int (nI nC), .ref a2, .ref a3, .ref a4, .ref a5, .ref a6, .ref a7, .ref a8, .ref a9, .int (nI nS), .ref a10, .int (nI nM), .ref a11], aI D a10 130 pa]) [0, 2] rfl
  refine vp_callSi (pV (rest := [.int x]) (qc := (RX6, TX6, 15)) [.int (nI i), .int 1] 2 hC (m_part l D (mo := mo) (i := i) (w := 1) (th := th) (a1 := a1) (nC := nC) (a2 := a2) (a3 := a3) (a4 := a4) (a5 := a5) (a6 := a6) (a7 := a7) (a8 := a8) (a9 := a9) (nS := nS) (a10 := a10) (nM := nM) (a11 := a11) (pa := pa) (by omega) (by omega)) rfl (hP 0 _ rfl) (gV mM_X6_120 mI_X6_part mS_X6_part mN_X6 mC_X6_part) (by decide +kernel) rfl rfl ⟨Nat.le_of_ble_eq_true rfl, Nat.le_of_ble_eq_true rfl⟩ hG hP9 rfl hl.1 rfl (Nat.le_of_ble_eq_true rfl) dX6_isOn_4 ⟨Nat.le_of_ble_eq_true rfl, Nat.le_of_ble_eq_true rfl⟩) (fun r4 h4 => ?_)
  obtain rfl : r4 = (pa (13 * i + 1)) := h4
  refine tpi (y := pt 1) (hpa 1 (by decide) (by decide)) ?_
  refine lv_icmp_lt (tgt := 34) hx hb dX6_isOn_7 (by decide) (fun c7 => ?_) (fun c7 => ?_)
  · skip
    refine lv_iconst (v := 0) hx hb dX6_isOn_34 (by decide) ?_
    refine Rz hx hb hr hlk (by first | rfl | decide) ?_ dX6_isOn_35
    first
    | exact Or.inl ⟨rfl, Int32.not_lt.mp c7, Or.inl (by rw [c18]; decide)⟩
    | exact Or.inl ⟨rfl, Int32.not_lt.mp c7, Or.inr (Int32.not_le.mp c27)⟩
    | exact Or.inr ⟨rfl, fun h => absurd c7 (Int32.not_lt.mpr h.1)⟩
    | exact Or.inr ⟨rfl, fun h => h.2.elim (fun z => h10.elim z c18) (fun z => absurd c27 (Int32.not_le.mpr z))⟩
  · skip
    refine lv_aload_n hx hb dX6_isOn_10 rfl (lv_at hl 0 rfl) ?_
    refine lv_iload_n hx hb dX6_isOn_11 rfl (lv_at hl 1 rfl) ?_
    refine lv_bipush (v := 10) hx hb dX6_isOn_12 (by decide) ?_
    have hP9 := hP.sub (ws' := [oO mo 6 [.int th, .ref a1, .int (nI nC), .ref a2, .ref a3, .ref a4, .ref a5, .ref a6, .ref a7, .ref a8, .ref a9, .int (nI nS), .ref a10, .int (nI nM), .ref a11], aI D a10 130 pa]) [0, 2] rfl
    refine vp_callSi (pV (rest := []) (qc := (RX6, TX6, 15)) [.int (nI i), .int 10] 2 hC (m_part l D (mo := mo) (i := i) (w := 10) (th := th) (a1 := a1) (nC := nC) (a2 := a2) (a3 := a3) (a4 := a4) (a5 := a5) (a6 := a6) (a7 := a7) (a8 := a8) (a9 := a9) (nS := nS) (a10 := a10) (nM := nM) (a11 := a11) (pa := pa) (by omega) (by omega)) rfl (hP 0 _ rfl) (gV mM_X6_120 mI_X6_part mS_X6_part mN_X6 mC_X6_part) (by decide +kernel) rfl rfl ⟨Nat.le_of_ble_eq_true rfl, Nat.le_of_ble_eq_true rfl⟩ hG hP9 rfl hl.1 rfl (Nat.le_of_ble_eq_true rfl) dX6_isOn_14 ⟨Nat.le_of_ble_eq_true rfl, Nat.le_of_ble_eq_true rfl⟩) (fun r14 h14 => ?_)
    obtain rfl : r14 = (pa (13 * i + 10)) := h14
    refine tpi (y := pt 10) (hpa 10 (by decide) (by decide)) ?_
    refine lv_iconst (v := 1) hx hb dX6_isOn_17 (by decide) ?_
    refine lv_icmp_eq (tgt := 30) hx hb dX6_isOn_18 (by decide) (fun c18 => ?_) (fun c18 => ?_)
    · skip
      refine lv_iconst (v := 1) hx hb dX6_isOn_30 (by decide) ?_
      refine lv_goto (tgt := 35) hx hb dX6_isOn_31 (by decide) ?_
      refine Rz hx hb hr hlk (by first | rfl | decide) ?_ dX6_isOn_35
      first
      | exact Or.inl ⟨rfl, Int32.not_lt.mp c7, Or.inl (by rw [c18]; decide)⟩
      | exact Or.inl ⟨rfl, Int32.not_lt.mp c7, Or.inr (Int32.not_le.mp c27)⟩
      | exact Or.inr ⟨rfl, fun h => absurd c7 (Int32.not_lt.mpr h.1)⟩
      | exact Or.inr ⟨rfl, fun h => h.2.elim (fun z => h10.elim z c18) (fun z => absurd c27 (Int32.not_le.mpr z))⟩
    · skip
      refine lv_iload_n hx hb dX6_isOn_21 rfl (lv_at hl 2 rfl) ?_
      refine lv_aload_n hx hb dX6_isOn_22 rfl (lv_at hl 0 rfl) ?_
      refine lv_iload_n hx hb dX6_isOn_23 rfl (lv_at hl 1 rfl) ?_
      have hP9 := hP
      refine vp_callSi (pV (rest := [.int x]) (qc := (RX6, TX6, 15)) [.int (nI i)] 1 hC (m_endOf l D (pt := pt) (c0 := c0) (len := len) (mo := mo) (i := i) (th := th) (a1 := a1) (nC := nC) (a2 := a2) (a3 := a3) (a4 := a4) (a5 := a5) (a6 := a6) (a7 := a7) (a8 := a8) (a9 := a9) (nS := nS) (a10 := a10) (nM := nM) (a11 := a11) (ln := ln) (pa := pa) (by omega) (hpa) (hc0) (by omega) (hlq) (hp)) rfl (hP 0 _ rfl) (gV mM_X6_132 mI_X6_endOf mS_X6_endOf mN_X6 mC_X6_endOf) (by decide +kernel) rfl rfl ⟨Nat.le_of_ble_eq_true rfl, Nat.le_of_ble_eq_true rfl⟩ hG hP9 rfl hl.1 rfl (Nat.le_of_ble_eq_true rfl) dX6_isOn_24 ⟨Nat.le_of_ble_eq_true rfl, Nat.le_of_ble_eq_true rfl⟩) (fun r24 h24 => ?_)
      obtain rfl : r24 = (endS len pt) := h24
      refine lv_icmp_ge (tgt := 34) hx hb dX6_isOn_27 (by decide) (fun c27 => ?_) (fun c27 => ?_)
      · skip
        refine lv_iconst (v := 0) hx hb dX6_isOn_34 (by decide) ?_
        refine Rz hx hb hr hlk (by first | rfl | decide) ?_ dX6_isOn_35
        first
        | exact Or.inl ⟨rfl, Int32.not_lt.mp c7, Or.inl (by rw [c18]; decide)⟩
        | exact Or.inl ⟨rfl, Int32.not_lt.mp c7, Or.inr (Int32.not_le.mp c27)⟩
        | exact Or.inr ⟨rfl, fun h => absurd c7 (Int32.not_lt.mpr h.1)⟩
        | exact Or.inr ⟨rfl, fun h => h.2.elim (fun z => h10.elim z c18) (fun z => absurd c27 (Int32.not_le.mpr z))⟩
      · skip
        refine lv_iconst (v := 1) hx hb dX6_isOn_30 (by decide) ?_
        refine lv_goto (tgt := 35) hx hb dX6_isOn_31 (by decide) ?_
        refine Rz hx hb hr hlk (by first | rfl | decide) ?_ dX6_isOn_35
        first
        | exact Or.inl ⟨rfl, Int32.not_lt.mp c7, Or.inl (by rw [c18]; decide)⟩
        | exact Or.inl ⟨rfl, Int32.not_lt.mp c7, Or.inr (Int32.not_le.mp c27)⟩
        | exact Or.inr ⟨rfl, fun h => absurd c7 (Int32.not_lt.mpr h.1)⟩
        | exact Or.inr ⟨rfl, fun h => h.2.elim (fun z => h10.elim z c18) (fun z => absurd c27 (Int32.not_le.mpr z))⟩
set_option maxHeartbeats 400000 in
set_option maxRecDepth 100000 in
theorem m_local (l : Launch) (D : va_G) {mo a1 a2 a3 a4 a5 a6 a7 a8 a9 a10 a11 nC nS nM : Nat} {th : Int32} {ln pa pt : Nat → Int32} {i c0 : Nat} {len : Int32} {x : Int32} (hi : i < 10) (hpa : ∀ w, w < 13 → ¬ w = 2 → pa (13 * i + w) = pt w) (hc0 : pa (13 * i) = nI c0) (hc6 : c0 < 6) (hlq : ln c0 = len) (hO : sOK len pt) (hon : isOnS len pt x) (hx9 : x.toInt ≤ 100300) : Met l yX6_local (ws_ yX6_local cX6_local 7 (some .int)) ({ frames := 3, cells := 0, slots := 0, locals := 64 } : Room) (va_Pc [.ref mo, .int (nI i), .int x] (PW D [oO mo 6 [.int th, .ref a1, .int (nI nC), .ref a2, .ref a3, .ref a4, .ref a5, .ref a6, .ref a7, .ref a8, .ref a9, .int (nI nS), .ref a10, .int (nI nM), .ref a11], aI D a2 6 ln, aI D a10 130 pa])) (vp_Si (fun v => v = localS len pt x)) 0 0 (fun _ => False) := by
  refine Met.ofW (cc := cX6_local) (maxL := 7) (ret := (some .int)) (by decide) rfl ?_
  intro p e s m args below meth c s₁ B hml hv
  obtain ⟨rfl, hG, hP⟩ := hv
  have hx := B.exec
  have hb := B.bytes
  have hr := B.returns
  have hts : ∀ w ∈ wsL_law, w.before _ s = true := fun w h => atoms_spec (ws := (ws_ yX6_local cX6_local 7 (some .int))) B.pre w (List.mem_cons_of_mem _ h)
  have hown : s.vm.findClass RX6 = some m.cls := findClass_of_methodNamed B.named
  have hlk := B.notSynchronized
  have hC : CallFix p m c cX6_local 7 s _ wsL_law RX6 := ⟨hx, hb, hml, hown, hts⟩
  have hl := lv_entry ([.ref mo, .int (nI i), .int x]) (n := 7) (Nat.le_of_ble_eq_true rfl)
  rw [lg_entry_eq]
  generalize (lg_sl ([.ref mo, .int (nI i), .int x]) ++ List.replicate (7 - (lg_sl ([.ref mo, .int (nI i), .int x])).length) Slot.unset).toArray = ls at hl ⊢
  have hl : lv_has ls 7 [(0, .ref mo), (1, .int (nI i)), (2, .int x)] := hl
  refine lv_aload_n hx hb dX6_local_0 rfl (lv_at hl 0 rfl) ?_
  refine lv_iload_n hx hb dX6_local_1 rfl (lv_at hl 1 rfl) ?_
  have hP9 := hP
  refine vp_callSi (pV (rest := []) (qc := (RX6, TX6, 15)) [.int (nI i)] 1 hC (m_ticks l D (pt := pt) (c0 := c0) (len := len) (mo := mo) (i := i) (th := th) (a1 := a1) (nC := nC) (a2 := a2) (a3 := a3) (a4 := a4) (a5 := a5) (a6 := a6) (a7 := a7) (a8 := a8) (a9 := a9) (nS := nS) (a10 := a10) (nM := nM) (a11 := a11) (ln := ln) (pa := pa) (by omega) (hpa) (hc0) (by omega) (hlq)) rfl (hP 0 _ rfl) (gV mM_X6_126 mI_X6_ticks mS_X6_ticks mN_X6 mC_X6_ticks) (by decide +kernel) rfl rfl ⟨Nat.le_of_ble_eq_true rfl, Nat.le_of_ble_eq_true rfl⟩ hG hP9 rfl hl.1 rfl (Nat.le_of_ble_eq_true rfl) dX6_local_2 ⟨Nat.le_of_ble_eq_true rfl, Nat.le_of_ble_eq_true rfl⟩) (fun r2 h2 => ?_)
  obtain rfl : r2 = (ticksS len pt) := h2
  refine lv_i2l hx hb dX6_local_5 rfl ?_
  refine lv_iload_n hx hb dX6_local_6 rfl (lv_at hl 2 rfl) ?_
  refine lv_aload_n hx hb dX6_local_7 rfl (lv_at hl 0 rfl) ?_
  refine lv_iload_n hx hb dX6_local_8 rfl (lv_at hl 1 rfl) ?_
  refine lv_iconst (v := 1) hx hb dX6_local_9 (by decide) ?_
  have hP9 := hP.sub (ws' := [oO mo 6 [.int th, .ref a1, .int (nI nC), .ref a2, .ref a3, .ref a4, .ref a5, .ref a6, .ref a7, .ref a8, .ref a9, .int (nI nS), .ref a10, .int (nI nM), .ref a11], aI D a10 130 pa]) [0, 2] rfl
  refine vp_callSi (pV (rest := [.int x, .long ((ticksS len pt).toInt64)]) (qc := (RX6, TX6, 15)) [.int (nI i), .int 1] 2 hC (m_part l D (mo := mo) (i := i) (w := 1) (th := th) (a1 := a1) (nC := nC) (a2 := a2) (a3 := a3) (a4 := a4) (a5 := a5) (a6 := a6) (a7 := a7) (a8 := a8) (a9 := a9) (nS := nS) (a10 := a10) (nM := nM) (a11 := a11) (pa := pa) (by omega) (by omega)) rfl (hP 0 _ rfl) (gV mM_X6_120 mI_X6_part mS_X6_part mN_X6 mC_X6_part) (by decide +kernel) rfl rfl ⟨Nat.le_of_ble_eq_true rfl, Nat.le_of_ble_eq_true rfl⟩ hG hP9 rfl hl.1 rfl (Nat.le_of_ble_eq_true rfl) dX6_local_10 ⟨Nat.le_of_ble_eq_true rfl, Nat.le_of_ble_eq_true rfl⟩) (fun r10 h10 => ?_)
  obtain rfl : r10 = (pa (13 * i + 1)) := h10
  refine tpi (y := pt 1) (hpa 1 (by decide) (by decide)) ?_
  refine lv_isub hx hb dX6_local_13 ?_
  refine lv_i2l hx hb dX6_local_14 rfl ?_
  refine lv_aload_n hx hb dX6_local_15 rfl (lv_at hl 0 rfl) ?_
  refine lv_iload_n hx hb dX6_local_16 rfl (lv_at hl 1 rfl) ?_
  refine lv_iconst (v := 5) hx hb dX6_local_17 (by decide) ?_
  have hP9 := hP.sub (ws' := [oO mo 6 [.int th, .ref a1, .int (nI nC), .ref a2, .ref a3, .ref a4, .ref a5, .ref a6, .ref a7, .ref a8, .ref a9, .int (nI nS), .ref a10, .int (nI nM), .ref a11], aI D a10 130 pa]) [0, 2] rfl
  refine vp_callSi (pV (rest := [.long ((x - (pt 1)).toInt64), .long ((ticksS len pt).toInt64)]) (qc := (RX6, TX6, 15)) [.int (nI i), .int 5] 2 hC (m_part l D (mo := mo) (i := i) (w := 5) (th := th) (a1 := a1) (nC := nC) (a2 := a2) (a3 := a3) (a4 := a4) (a5 := a5) (a6 := a6) (a7 := a7) (a8 := a8) (a9 := a9) (nS := nS) (a10 := a10) (nM := nM) (a11 := a11) (pa := pa) (by omega) (by omega)) rfl (hP 0 _ rfl) (gV mM_X6_120 mI_X6_part mS_X6_part mN_X6 mC_X6_part) (by decide +kernel) rfl rfl ⟨Nat.le_of_ble_eq_true rfl, Nat.le_of_ble_eq_true rfl⟩ hG hP9 rfl hl.1 rfl (Nat.le_of_ble_eq_true rfl) dX6_local_18 ⟨Nat.le_of_ble_eq_true rfl, Nat.le_of_ble_eq_true rfl⟩) (fun r18 h18 => ?_)
  obtain rfl : r18 = (pa (13 * i + 5)) := h18
  refine tpi (y := pt 5) (hpa 5 (by decide) (by decide)) ?_
  refine lv_i2l hx hb dX6_local_21 rfl ?_
  refine lv_lmul hx hb dX6_local_22 ?_
  refine lv_aload_n hx hb dX6_local_23 rfl (lv_at hl 0 rfl) ?_
  refine lv_iload_n hx hb dX6_local_24 rfl (lv_at hl 1 rfl) ?_
  refine lv_bipush (v := 6) hx hb dX6_local_25 (by decide) ?_
  have hP9 := hP.sub (ws' := [oO mo 6 [.int th, .ref a1, .int (nI nC), .ref a2, .ref a3, .ref a4, .ref a5, .ref a6, .ref a7, .ref a8, .ref a9, .int (nI nS), .ref a10, .int (nI nM), .ref a11], aI D a10 130 pa]) [0, 2] rfl
  refine vp_callSi (pV (rest := [.long (((x - (pt 1)).toInt64) * ((pt 5).toInt64)), .long ((ticksS len pt).toInt64)]) (qc := (RX6, TX6, 15)) [.int (nI i), .int 6] 2 hC (m_part l D (mo := mo) (i := i) (w := 6) (th := th) (a1 := a1) (nC := nC) (a2 := a2) (a3 := a3) (a4 := a4) (a5 := a5) (a6 := a6) (a7 := a7) (a8 := a8) (a9 := a9) (nS := nS) (a10 := a10) (nM := nM) (a11 := a11) (pa := pa) (by omega) (by omega)) rfl (hP 0 _ rfl) (gV mM_X6_120 mI_X6_part mS_X6_part mN_X6 mC_X6_part) (by decide +kernel) rfl rfl ⟨Nat.le_of_ble_eq_true rfl, Nat.le_of_ble_eq_true rfl⟩ hG hP9 rfl hl.1 rfl (Nat.le_of_ble_eq_true rfl) dX6_local_27 ⟨Nat.le_of_ble_eq_true rfl, Nat.le_of_ble_eq_true rfl⟩) (fun r27 h27 => ?_)
  obtain rfl : r27 = (pa (13 * i + 6)) := h27
  refine tpi (y := pt 6) (hpa 6 (by decide) (by decide)) ?_
  refine lv_i2l hx hb dX6_local_30 rfl ?_
  refine lv_ldiv hx hb dX6_local_31 (fun h9 => by have := hO.b6; have q := congrArg Int64.toInt h9; rw [Int32.toInt_toInt64, show (0 : Int64).toInt = 0 by decide] at q; omega) ?_
  refine va_mmin_long hx hb (by rw [hml]; exact hl.1.symm) hown (hts _ mM_X6_138) (hts _ mT_Lib_MathLoose_min_long_x) (hts _ mN__java_lang_Math_) (hts _ mC_Lib_MathLoose_min_long_x) (Nat.le_of_ble_eq_true rfl) (Nat.le_of_ble_eq_true rfl) (Nat.le_of_ble_eq_true rfl) (Nat.le_of_ble_eq_true rfl) dX6_local_32 ?_
  refine tpl (y := (tickS len pt x).toInt64) (hO.tick hon.1 hx9) ?_
  refine lv_lstore_n (lv' := [(3, .long ((tickS len pt x).toInt64)), (0, .ref mo), (1, .int (nI i)), (2, .int x)]) hx hb dX6_local_35 rfl hl (by decide) rfl (fun ls hl => ?_)
  refine lv_aload_n hx hb dX6_local_36 rfl (lv_at hl 1 rfl) ?_
  refine lv_iload_n hx hb dX6_local_37 rfl (lv_at hl 2 rfl) ?_
  refine lv_iconst (v := 3) hx hb dX6_local_38 (by decide) ?_
  have hP9 := hP.sub (ws' := [oO mo 6 [.int th, .ref a1, .int (nI nC), .ref a2, .ref a3, .ref a4, .ref a5, .ref a6, .ref a7, .ref a8, .ref a9, .int (nI nS), .ref a10, .int (nI nM), .ref a11], aI D a10 130 pa]) [0, 2] rfl
  refine vp_callSi (pV (rest := []) (qc := (RX6, TX6, 15)) [.int (nI i), .int 3] 2 hC (m_part l D (mo := mo) (i := i) (w := 3) (th := th) (a1 := a1) (nC := nC) (a2 := a2) (a3 := a3) (a4 := a4) (a5 := a5) (a6 := a6) (a7 := a7) (a8 := a8) (a9 := a9) (nS := nS) (a10 := a10) (nM := nM) (a11 := a11) (pa := pa) (by omega) (by omega)) rfl (hP 0 _ rfl) (gV mM_X6_120 mI_X6_part mS_X6_part mN_X6 mC_X6_part) (by decide +kernel) rfl rfl ⟨Nat.le_of_ble_eq_true rfl, Nat.le_of_ble_eq_true rfl⟩ hG hP9 rfl hl.1 rfl (Nat.le_of_ble_eq_true rfl) dX6_local_39 ⟨Nat.le_of_ble_eq_true rfl, Nat.le_of_ble_eq_true rfl⟩) (fun r39 h39 => ?_)
  obtain rfl : r39 = (pa (13 * i + 3)) := h39
  refine tpi (y := pt 3) (hpa 3 (by decide) (by decide)) ?_
  refine lv_iconst (v := 1) hx hb dX6_local_42 (by decide) ?_
  refine lv_isub hx hb dX6_local_43 ?_
  refine lv_i2l hx hb dX6_local_44 rfl ?_
  refine lv_lload_n hx hb dX6_local_45 rfl (lv_at hl 0 rfl) ?_
  refine lv_aload_n hx hb dX6_local_46 rfl (lv_at hl 1 rfl) ?_
  refine lv_iload_n hx hb dX6_local_47 rfl (lv_at hl 2 rfl) ?_
  have hP9 := hP
  refine vp_callSi (pV (rest := [.long ((tickS len pt x).toInt64), .long (((pt 3) - 1).toInt64)]) (qc := (RX6, TX6, 15)) [.int (nI i)] 1 hC (m_length l D (pt := pt) (c0 := c0) (len := len) (mo := mo) (i := i) (th := th) (a1 := a1) (nC := nC) (a2 := a2) (a3 := a3) (a4 := a4) (a5 := a5) (a6 := a6) (a7 := a7) (a8 := a8) (a9 := a9) (nS := nS) (a10 := a10) (nM := nM) (a11 := a11) (ln := ln) (pa := pa) (by omega) (hpa) (hc0) (by omega) (hlq)) rfl (hP 0 _ rfl) (gV mM_X6_123 mI_X6_length mS_X6_length mN_X6 mC_X6_length) (by decide +kernel) rfl rfl ⟨Nat.le_of_ble_eq_true rfl, Nat.le_of_ble_eq_true rfl⟩ hG hP9 rfl hl.1 rfl (Nat.le_of_ble_eq_true rfl) dX6_local_48 ⟨Nat.le_of_ble_eq_true rfl, Nat.le_of_ble_eq_true rfl⟩) (fun r48 h48 => ?_)
  obtain rfl : len = r48 := Eq.symm h48
  refine lv_i2l hx hb dX6_local_51 rfl ?_
  refine lv_ldiv hx hb dX6_local_52 (fun h9 => by have := hO.l; have q := congrArg Int64.toInt h9; rw [Int32.toInt_toInt64, show (0 : Int64).toInt = 0 by decide] at q; omega) ?_
  refine va_mmin_long hx hb (by rw [hml]; exact hl.1.symm) hown (hts _ mM_X6_138) (hts _ mT_Lib_MathLoose_min_long_x) (hts _ mN__java_lang_Math_) (hts _ mC_Lib_MathLoose_min_long_x) (Nat.le_of_ble_eq_true rfl) (Nat.le_of_ble_eq_true rfl) (Nat.le_of_ble_eq_true rfl) (Nat.le_of_ble_eq_true rfl) dX6_local_53 ?_
  refine tpl (y := (roundS len pt x).toInt64) (hO.round hon.1 hx9) ?_
  refine lv_l2i hx hb dX6_local_56 rfl ?_
  refine tpi (y := roundS len pt x) (i64_back _) ?_
  refine lv_istore (lv' := [(5, .int (roundS len pt x)), (3, .long ((tickS len pt x).toInt64)), (0, .ref mo), (1, .int (nI i)), (2, .int x)]) hx hb dX6_local_57 hl (by decide) rfl (fun ls hl => ?_)
  refine lv_lload_n hx hb dX6_local_59 rfl (lv_at hl 1 rfl) ?_
  refine lv_l2i hx hb dX6_local_60 rfl ?_
  refine tpi (y := tickS len pt x) (i64_back _) ?_
  refine lv_iload hx hb dX6_local_61 (lv_at hl 0 rfl) ?_
  refine lv_aload_n hx hb dX6_local_63 rfl (lv_at hl 2 rfl) ?_
  refine lv_iload_n hx hb dX6_local_64 rfl (lv_at hl 3 rfl) ?_
  have hP9 := hP
  refine vp_callSi (pV (rest := [.int (roundS len pt x), .int (tickS len pt x)]) (qc := (RX6, TX6, 15)) [.int (nI i)] 1 hC (m_length l D (pt := pt) (c0 := c0) (len := len) (mo := mo) (i := i) (th := th) (a1 := a1) (nC := nC) (a2 := a2) (a3 := a3) (a4 := a4) (a5 := a5) (a6 := a6) (a7 := a7) (a8 := a8) (a9 := a9) (nS := nS) (a10 := a10) (nM := nM) (a11 := a11) (ln := ln) (pa := pa) (by omega) (hpa) (hc0) (by omega) (hlq)) rfl (hP 0 _ rfl) (gV mM_X6_123 mI_X6_length mS_X6_length mN_X6 mC_X6_length) (by decide +kernel) rfl rfl ⟨Nat.le_of_ble_eq_true rfl, Nat.le_of_ble_eq_true rfl⟩ hG hP9 rfl hl.1 rfl (Nat.le_of_ble_eq_true rfl) dX6_local_65 ⟨Nat.le_of_ble_eq_true rfl, Nat.le_of_ble_eq_true rfl⟩) (fun r65 h65 => ?_)
  obtain rfl : len = r65 := Eq.symm h65
  refine lv_imul hx hb dX6_local_68 ?_
  refine lv_isub hx hb dX6_local_69 ?_
  refine lv_istore (lv' := [(6, .int ((tickS len pt x) - ((roundS len pt x) * len))), (5, .int (roundS len pt x)), (3, .long ((tickS len pt x).toInt64)), (0, .ref mo), (1, .int (nI i)), (2, .int x)]) hx hb dX6_local_70 hl (by decide) rfl (fun ls hl => ?_)
  refine lv_aload_n hx hb dX6_local_72 rfl (lv_at hl 3 rfl) ?_
  refine lv_iload_n hx hb dX6_local_73 rfl (lv_at hl 4 rfl) ?_
  refine lv_iload hx hb dX6_local_74 (lv_at hl 1 rfl) ?_
  have hP9 := hP
  refine vp_callSi (pV (rest := []) (qc := (RX6, TX6, 15)) [.int (nI i), .int (roundS len pt x)] 2 hC (m_isBack l D (pt := pt) (c0 := c0) (len := len) (mo := mo) (i := i) (x := roundS len pt x) (th := th) (a1 := a1) (nC := nC) (a2 := a2) (a3 := a3) (a4 := a4) (a5 := a5) (a6 := a6) (a7 := a7) (a8 := a8) (a9 := a9) (nS := nS) (a10 := a10) (nM := nM) (a11 := a11) (ln := ln) (pa := pa) (by omega) (hpa) (hc0) (by omega) (hlq)) rfl (hP 0 _ rfl) (gV mM_X6_141 mI_X6_isBack mS_X6_isBack mN_X6 mC_X6_isBack) (by decide +kernel) rfl rfl ⟨Nat.le_of_ble_eq_true rfl, Nat.le_of_ble_eq_true rfl⟩ hG hP9 rfl hl.1 rfl (Nat.le_of_ble_eq_true rfl) dX6_local_76 ⟨Nat.le_of_ble_eq_true rfl, Nat.le_of_ble_eq_true rfl⟩) (fun r76 h76 => ?_)
  rcases h76 with ⟨rfl, hb76⟩ | ⟨rfl, hb76⟩
  · skip
    refine lv_if_eq (tgt := 93) hx hb dX6_local_79 (by decide) (fun h9 => absurd h9 (by decide)) (fun _ => ?_)
    refine lv_aload_n hx hb dX6_local_82 rfl (lv_at hl 3 rfl) ?_
    refine lv_iload_n hx hb dX6_local_83 rfl (lv_at hl 4 rfl) ?_
    have hP9 := hP
    refine vp_callSi (pV (rest := []) (qc := (RX6, TX6, 15)) [.int (nI i)] 1 hC (m_length l D (pt := pt) (c0 := c0) (len := len) (mo := mo) (i := i) (th := th) (a1 := a1) (nC := nC) (a2 := a2) (a3 := a3) (a4 := a4) (a5 := a5) (a6 := a6) (a7 := a7) (a8 := a8) (a9 := a9) (nS := nS) (a10 := a10) (nM := nM) (a11 := a11) (ln := ln) (pa := pa) (by omega) (hpa) (hc0) (by omega) (hlq)) rfl (hP 0 _ rfl) (gV mM_X6_123 mI_X6_length mS_X6_length mN_X6 mC_X6_length) (by decide +kernel) rfl rfl ⟨Nat.le_of_ble_eq_true rfl, Nat.le_of_ble_eq_true rfl⟩ hG hP9 rfl hl.1 rfl (Nat.le_of_ble_eq_true rfl) dX6_local_84 ⟨Nat.le_of_ble_eq_true rfl, Nat.le_of_ble_eq_true rfl⟩) (fun r84 h84 => ?_)
    obtain rfl : len = r84 := Eq.symm h84
    refine lv_iload hx hb dX6_local_87 (lv_at hl 0 rfl) ?_
    refine lv_isub hx hb dX6_local_89 ?_
    refine lv_goto (tgt := 95) hx hb dX6_local_90 (by decide) ?_
    refine Ri hx hb hr hlk ?_ dX6_local_95
    show _ = localS len pt x
    first | rw [localS, if_pos hb76] | rw [localS, if_neg hb76]
  · skip
    refine lv_if_eq (tgt := 93) hx hb dX6_local_79 (by decide) (fun _ => ?_) (fun h9 => (h9 (by decide)).elim)
    refine lv_iload hx hb dX6_local_93 (lv_at hl 0 rfl) ?_
    refine Ri hx hb hr hlk ?_ dX6_local_95
    show _ = localS len pt x
    first | rw [localS, if_pos hb76] | rw [localS, if_neg hb76]
set_option maxHeartbeats 400000 in
set_option maxRecDepth 100000 in
theorem m_strength (l : Launch) (D : va_G) {mo a1 a2 a3 a4 a5 a6 a7 a8 a9 a10 a11 nC nS nM : Nat} {th : Int32} {ln pa pt : Nat → Int32} {i c0 : Nat} {len : Int32} {x : Int32} (hi : i < 10) (hpa : ∀ w, w < 13 → ¬ w = 2 → pa (13 * i + w) = pt w) (hc0 : pa (13 * i) = nI c0) (hc6 : c0 < 6) (hlq : ln c0 = len) (hp : 0 < pt 5) (hO : sOK len pt) (hon : isOnS len pt x) (hx0 : 0 ≤ x.toInt) (hx9 : x.toInt ≤ 100300) : Met l yX6_strength (ws_ yX6_strength cX6_strength 7 (some .int)) ({ frames := 4, cells := 0, slots := 0, locals := 85 } : Room) (va_Pc [.ref mo, .int (nI i), .int x] (PW D [oO mo 6 [.int th, .ref a1, .int (nI nC), .ref a2, .ref a3, .ref a4, .ref a5, .ref a6, .ref a7, .ref a8, .ref a9, .int (nI nS), .ref a10, .int (nI nM), .ref a11], aI D a2 6 ln, aI D a10 130 pa])) (vp_Si (fun v => v = strS len pt x)) 0 0 (fun _ => False) := by
  refine Met.ofW (cc := cX6_strength) (maxL := 7) (ret := (some .int)) (by decide) rfl ?_
  intro p e s m args below meth c s₁ B hml hv
  obtain ⟨rfl, hG, hP⟩ := hv
  have hx := B.exec
  have hb := B.bytes
  have hr := B.returns
  have hts : ∀ w ∈ wsL_law, w.before _ s = true := fun w h => atoms_spec (ws := (ws_ yX6_strength cX6_strength 7 (some .int))) B.pre w (List.mem_cons_of_mem _ h)
  have hown : s.vm.findClass RX6 = some m.cls := findClass_of_methodNamed B.named
  have hlk := B.notSynchronized
  have hC : CallFix p m c cX6_strength 7 s _ wsL_law RX6 := ⟨hx, hb, hml, hown, hts⟩
  have hl := lv_entry ([.ref mo, .int (nI i), .int x]) (n := 7) (Nat.le_of_ble_eq_true rfl)
  rw [lg_entry_eq]
  generalize (lg_sl ([.ref mo, .int (nI i), .int x]) ++ List.replicate (7 - (lg_sl ([.ref mo, .int (nI i), .int x])).length) Slot.unset).toArray = ls at hl ⊢
  have hl : lv_has ls 7 [(0, .ref mo), (1, .int (nI i)), (2, .int x)] := hl
  refine lv_aload_n hx hb dX6_strength_0 rfl (lv_at hl 0 rfl) ?_
  refine lv_iload_n hx hb dX6_strength_1 rfl (lv_at hl 1 rfl) ?_
  refine lv_bipush (v := 8) hx hb dX6_strength_2 (by decide) ?_
  have hP9 := hP.sub (ws' := [oO mo 6 [.int th, .ref a1, .int (nI nC), .ref a2, .ref a3, .ref a4, .ref a5, .ref a6, .ref a7, .ref a8, .ref a9, .int (nI nS), .ref a10, .int (nI nM), .ref a11], aI D a10 130 pa]) [0, 2] rfl
  refine vp_callSi (pV (rest := []) (qc := (RX6, TX6, 15)) [.int (nI i), .int 8] 2 hC (m_part l D (mo := mo) (i := i) (w := 8) (th := th) (a1 := a1) (nC := nC) (a2 := a2) (a3 := a3) (a4 := a4) (a5 := a5) (a6 := a6) (a7 := a7) (a8 := a8) (a9 := a9) (nS := nS) (a10 := a10) (nM := nM) (a11 := a11) (pa := pa) (by omega) (by omega)) rfl (hP 0 _ rfl) (gV mM_X6_120 mI_X6_part mS_X6_part mN_X6 mC_X6_part) (by decide +kernel) rfl rfl ⟨Nat.le_of_ble_eq_true rfl, Nat.le_of_ble_eq_true rfl⟩ hG hP9 rfl hl.1 rfl (Nat.le_of_ble_eq_true rfl) dX6_strength_4 ⟨Nat.le_of_ble_eq_true rfl, Nat.le_of_ble_eq_true rfl⟩) (fun r4 h4 => ?_)
  obtain rfl : r4 = (pa (13 * i + 8)) := h4
  refine tpi (y := pt 8) (hpa 8 (by decide) (by decide)) ?_
  refine lv_istore_n (lv' := [(3, .int (pt 8)), (0, .ref mo), (1, .int (nI i)), (2, .int x)]) hx hb dX6_strength_7 rfl hl (by decide) rfl (fun ls hl => ?_)
  refine lv_iload_n hx hb dX6_strength_8 rfl (lv_at hl 3 rfl) ?_
  refine lv_aload_n hx hb dX6_strength_9 rfl (lv_at hl 1 rfl) ?_
  refine lv_iload_n hx hb dX6_strength_10 rfl (lv_at hl 2 rfl) ?_
  refine lv_iconst (v := 1) hx hb dX6_strength_11 (by decide) ?_
  have hP9 := hP.sub (ws' := [oO mo 6 [.int th, .ref a1, .int (nI nC), .ref a2, .ref a3, .ref a4, .ref a5, .ref a6, .ref a7, .ref a8, .ref a9, .int (nI nS), .ref a10, .int (nI nM), .ref a11], aI D a10 130 pa]) [0, 2] rfl
  refine vp_callSi (pV (rest := [.int x]) (qc := (RX6, TX6, 15)) [.int (nI i), .int 1] 2 hC (m_part l D (mo := mo) (i := i) (w := 1) (th := th) (a1 := a1) (nC := nC) (a2 := a2) (a3 := a3) (a4 := a4) (a5 := a5) (a6 := a6) (a7 := a7) (a8 := a8) (a9 := a9) (nS := nS) (a10 := a10) (nM := nM) (a11 := a11) (pa := pa) (by omega) (by omega)) rfl (hP 0 _ rfl) (gV mM_X6_120 mI_X6_part mS_X6_part mN_X6 mC_X6_part) (by decide +kernel) rfl rfl ⟨Nat.le_of_ble_eq_true rfl, Nat.le_of_ble_eq_true rfl⟩ hG hP9 rfl hl.1 rfl (Nat.le_of_ble_eq_true rfl) dX6_strength_12 ⟨Nat.le_of_ble_eq_true rfl, Nat.le_of_ble_eq_true rfl⟩) (fun r12 h12 => ?_)
  obtain rfl : r12 = (pa (13 * i + 1)) := h12
  refine tpi (y := pt 1) (hpa 1 (by decide) (by decide)) ?_
  refine lv_isub hx hb dX6_strength_15 ?_
  refine lv_istore (lv' := [(4, .int (x - (pt 1))), (3, .int (pt 8)), (0, .ref mo), (1, .int (nI i)), (2, .int x)]) hx hb dX6_strength_16 hl (by decide) rfl (fun ls hl => ?_)
  refine lv_aload_n hx hb dX6_strength_18 rfl (lv_at hl 2 rfl) ?_
  refine lv_iload_n hx hb dX6_strength_19 rfl (lv_at hl 3 rfl) ?_
  have hP9 := hP
  refine vp_callSi (pV (rest := []) (qc := (RX6, TX6, 15)) [.int (nI i)] 1 hC (m_endOf l D (pt := pt) (c0 := c0) (len := len) (mo := mo) (i := i) (th := th) (a1 := a1) (nC := nC) (a2 := a2) (a3 := a3) (a4 := a4) (a5 := a5) (a6 := a6) (a7 := a7) (a8 := a8) (a9 := a9) (nS := nS) (a10 := a10) (nM := nM) (a11 := a11) (ln := ln) (pa := pa) (by omega) (hpa) (hc0) (by omega) (hlq) (hp)) rfl (hP 0 _ rfl) (gV mM_X6_132 mI_X6_endOf mS_X6_endOf mN_X6 mC_X6_endOf) (by decide +kernel) rfl rfl ⟨Nat.le_of_ble_eq_true rfl, Nat.le_of_ble_eq_true rfl⟩ hG hP9 rfl hl.1 rfl (Nat.le_of_ble_eq_true rfl) dX6_strength_20 ⟨Nat.le_of_ble_eq_true rfl, Nat.le_of_ble_eq_true rfl⟩) (fun r20 h20 => ?_)
  obtain rfl : r20 = (endS len pt) := h20
  refine lv_iload_n hx hb dX6_strength_23 rfl (lv_at hl 4 rfl) ?_
  refine lv_isub hx hb dX6_strength_24 ?_
  refine lv_istore (lv' := [(5, .int ((endS len pt) - x)), (4, .int (x - (pt 1))), (3, .int (pt 8)), (0, .ref mo), (1, .int (nI i)), (2, .int x)]) hx hb dX6_strength_25 hl (by decide) rfl (fun ls hl => ?_)
  refine lv_iload_n hx hb dX6_strength_27 rfl (lv_at hl 2 rfl) ?_
  refine lv_istore (lv' := [(6, .int (pt 8)), (5, .int ((endS len pt) - x)), (4, .int (x - (pt 1))), (3, .int (pt 8)), (0, .ref mo), (1, .int (nI i)), (2, .int x)]) hx hb dX6_strength_28 hl (by decide) rfl (fun ls hl => ?_)
  refine lv_iload hx hb dX6_strength_30 (lv_at hl 2 rfl) ?_
  refine lv_aload_n hx hb dX6_strength_32 rfl (lv_at hl 4 rfl) ?_
  refine lv_iload_n hx hb dX6_strength_33 rfl (lv_at hl 5 rfl) ?_
  refine lv_bipush (v := 11) hx hb dX6_strength_34 (by decide) ?_
  have hP9 := hP.sub (ws' := [oO mo 6 [.int th, .ref a1, .int (nI nC), .ref a2, .ref a3, .ref a4, .ref a5, .ref a6, .ref a7, .ref a8, .ref a9, .int (nI nS), .ref a10, .int (nI nM), .ref a11], aI D a10 130 pa]) [0, 2] rfl
  refine vp_callSi (pV (rest := [.int (x - (pt 1))]) (qc := (RX6, TX6, 15)) [.int (nI i), .int 11] 2 hC (m_part l D (mo := mo) (i := i) (w := 11) (th := th) (a1 := a1) (nC := nC) (a2 := a2) (a3 := a3) (a4 := a4) (a5 := a5) (a6 := a6) (a7 := a7) (a8 := a8) (a9 := a9) (nS := nS) (a10 := a10) (nM := nM) (a11 := a11) (pa := pa) (by omega) (by omega)) rfl (hP 0 _ rfl) (gV mM_X6_120 mI_X6_part mS_X6_part mN_X6 mC_X6_part) (by decide +kernel) rfl rfl ⟨Nat.le_of_ble_eq_true rfl, Nat.le_of_ble_eq_true rfl⟩ hG hP9 rfl hl.1 rfl (Nat.le_of_ble_eq_true rfl) dX6_strength_36 ⟨Nat.le_of_ble_eq_true rfl, Nat.le_of_ble_eq_true rfl⟩) (fun r36 h36 => ?_)
  obtain rfl : r36 = (pa (13 * i + 11)) := h36
  refine tpi (y := pt 11) (hpa 11 (by decide) (by decide)) ?_
  refine lv_icmp_ge (tgt := 66) hx hb dX6_strength_39 (by decide) (fun c39 => ?_) (fun c39 => ?_)
  · skip
    have hE1 : ∀ w : Int32, (¬ pt 11 ≤ x - pt 1 ∧ w = minI (pt 8) (rnd (pt 8 * (x - pt 1)).toInt64 (pt 11).toInt64)) ∨ (pt 11 ≤ x - pt 1 ∧ w = pt 8) → w = str1 pt x := fun w h => by
      rcases h with ⟨h, rfl⟩ | ⟨h, rfl⟩
      · rw [str1, if_pos (Int32.not_le.mp h)]
      · rw [str1, if_neg (Int32.not_lt.mpr h)]
    refine lv_aload_n hx hb dX6_strength_66 rfl (lv_at hl 4 rfl) ?_
    refine lv_iload_n hx hb dX6_strength_67 rfl (lv_at hl 5 rfl) ?_
    refine lv_bipush (v := 10) hx hb dX6_strength_68 (by decide) ?_
    have hP9 := hP.sub (ws' := [oO mo 6 [.int th, .ref a1, .int (nI nC), .ref a2, .ref a3, .ref a4, .ref a5, .ref a6, .ref a7, .ref a8, .ref a9, .int (nI nS), .ref a10, .int (nI nM), .ref a11], aI D a10 130 pa]) [0, 2] rfl
    refine vp_callSi (pV (rest := []) (qc := (RX6, TX6, 15)) [.int (nI i), .int 10] 2 hC (m_part l D (mo := mo) (i := i) (w := 10) (th := th) (a1 := a1) (nC := nC) (a2 := a2) (a3 := a3) (a4 := a4) (a5 := a5) (a6 := a6) (a7 := a7) (a8 := a8) (a9 := a9) (nS := nS) (a10 := a10) (nM := nM) (a11 := a11) (pa := pa) (by omega) (by omega)) rfl (hP 0 _ rfl) (gV mM_X6_120 mI_X6_part mS_X6_part mN_X6 mC_X6_part) (by decide +kernel) rfl rfl ⟨Nat.le_of_ble_eq_true rfl, Nat.le_of_ble_eq_true rfl⟩ hG hP9 rfl hl.1 rfl (Nat.le_of_ble_eq_true rfl) dX6_strength_70 ⟨Nat.le_of_ble_eq_true rfl, Nat.le_of_ble_eq_true rfl⟩) (fun r70 h70 => ?_)
    obtain rfl : r70 = (pa (13 * i + 10)) := h70
    refine tpi (y := pt 10) (hpa 10 (by decide) (by decide)) ?_
    refine lv_if_ne (tgt := 112) hx hb dX6_strength_73 (by decide) (fun c73 => ?_) (fun c73 => ?_)
    · skip
      refine lv_iload hx hb dX6_strength_112 (lv_at hl 0 rfl) ?_
      refine Ri hx hb hr hlk ?_ dX6_strength_114
      show _ = strS len pt x
      rw [strS, if_neg (fun h => c73 h.1), ← hE1 _ (Or.inr ⟨c39, rfl⟩)]
    · skip
      refine lv_iload hx hb dX6_strength_76 (lv_at hl 1 rfl) ?_
      refine lv_aload_n hx hb dX6_strength_78 rfl (lv_at hl 4 rfl) ?_
      refine lv_iload_n hx hb dX6_strength_79 rfl (lv_at hl 5 rfl) ?_
      refine lv_bipush (v := 12) hx hb dX6_strength_80 (by decide) ?_
      have hP9 := hP.sub (ws' := [oO mo 6 [.int th, .ref a1, .int (nI nC), .ref a2, .ref a3, .ref a4, .ref a5, .ref a6, .ref a7, .ref a8, .ref a9, .int (nI nS), .ref a10, .int (nI nM), .ref a11], aI D a10 130 pa]) [0, 2] rfl
      refine vp_callSi (pV (rest := [.int ((endS len pt) - x)]) (qc := (RX6, TX6, 15)) [.int (nI i), .int 12] 2 hC (m_part l D (mo := mo) (i := i) (w := 12) (th := th) (a1 := a1) (nC := nC) (a2 := a2) (a3 := a3) (a4 := a4) (a5 := a5) (a6 := a6) (a7 := a7) (a8 := a8) (a9 := a9) (nS := nS) (a10 := a10) (nM := nM) (a11 := a11) (pa := pa) (by omega) (by omega)) rfl (hP 0 _ rfl) (gV mM_X6_120 mI_X6_part mS_X6_part mN_X6 mC_X6_part) (by decide +kernel) rfl rfl ⟨Nat.le_of_ble_eq_true rfl, Nat.le_of_ble_eq_true rfl⟩ hG hP9 rfl hl.1 rfl (Nat.le_of_ble_eq_true rfl) dX6_strength_82 ⟨Nat.le_of_ble_eq_true rfl, Nat.le_of_ble_eq_true rfl⟩) (fun r82 h82 => ?_)
      obtain rfl : r82 = (pa (13 * i + 12)) := h82
      refine tpi (y := pt 12) (hpa 12 (by decide) (by decide)) ?_
      refine lv_icmp_ge (tgt := 112) hx hb dX6_strength_85 (by decide) (fun c85 => ?_) (fun c85 => ?_)
      · skip
        refine lv_iload hx hb dX6_strength_112 (lv_at hl 0 rfl) ?_
        refine Ri hx hb hr hlk ?_ dX6_strength_114
        show _ = strS len pt x
        rw [strS, if_neg (fun h => absurd c85 (Int32.not_le.mpr h.2)), ← hE1 _ (Or.inr ⟨c39, rfl⟩)]
      · skip
        have c85 := Int32.not_le.mp c85
        refine lv_iload hx hb dX6_strength_88 (lv_at hl 0 rfl) ?_
        refine lv_iload_n hx hb dX6_strength_90 rfl (lv_at hl 3 rfl) ?_
        refine lv_i2l hx hb dX6_strength_91 rfl ?_
        refine lv_iload hx hb dX6_strength_92 (lv_at hl 1 rfl) ?_
        refine lv_i2l hx hb dX6_strength_94 rfl ?_
        refine lv_lmul hx hb dX6_strength_95 ?_
        refine lv_aload_n hx hb dX6_strength_96 rfl (lv_at hl 4 rfl) ?_
        refine lv_iload_n hx hb dX6_strength_97 rfl (lv_at hl 5 rfl) ?_
        refine lv_bipush (v := 12) hx hb dX6_strength_98 (by decide) ?_
        have hP9 := hP.sub (ws' := [oO mo 6 [.int th, .ref a1, .int (nI nC), .ref a2, .ref a3, .ref a4, .ref a5, .ref a6, .ref a7, .ref a8, .ref a9, .int (nI nS), .ref a10, .int (nI nM), .ref a11], aI D a10 130 pa]) [0, 2] rfl
        refine vp_callSi (pV (rest := [.long (((pt 8).toInt64) * (((endS len pt) - x).toInt64)), .int (pt 8)]) (qc := (RX6, TX6, 15)) [.int (nI i), .int 12] 2 hC (m_part l D (mo := mo) (i := i) (w := 12) (th := th) (a1 := a1) (nC := nC) (a2 := a2) (a3 := a3) (a4 := a4) (a5 := a5) (a6 := a6) (a7 := a7) (a8 := a8) (a9 := a9) (nS := nS) (a10 := a10) (nM := nM) (a11 := a11) (pa := pa) (by omega) (by omega)) rfl (hP 0 _ rfl) (gV mM_X6_120 mI_X6_part mS_X6_part mN_X6 mC_X6_part) (by decide +kernel) rfl rfl ⟨Nat.le_of_ble_eq_true rfl, Nat.le_of_ble_eq_true rfl⟩ hG hP9 rfl hl.1 rfl (Nat.le_of_ble_eq_true rfl) dX6_strength_100 ⟨Nat.le_of_ble_eq_true rfl, Nat.le_of_ble_eq_true rfl⟩) (fun r100 h100 => ?_)
        obtain rfl : r100 = (pa (13 * i + 12)) := h100
        refine tpi (y := pt 12) (hpa 12 (by decide) (by decide)) ?_
        refine lv_i2l hx hb dX6_strength_103 rfl ?_
        have hP9 : va_P D cls [] s.heap := fun k q h => by simp at h
        refine vp_callSi (pS (rest := [.int (pt 8)]) [.long (((pt 8).toInt64) * (((endS len pt) - x).toInt64)), .long ((pt 12).toInt64)] 2 hC (m_rounded l D (x := ((pt 8).toInt64) * (((endS len pt) - x).toInt64)) (y := (pt 12).toInt64) ((dp1 (hO.left hon hx0 c73 c85).2).2)) (gS mM_X6_89 mT_X6_rounded mN_X6 mC_X6_rounded) (by decide +kernel) rfl rfl ⟨Nat.le_of_ble_eq_true rfl, Nat.le_of_ble_eq_true rfl⟩ hG hP9 rfl hl.1 rfl (Nat.le_of_ble_eq_true rfl) dX6_strength_104 ⟨Nat.le_of_ble_eq_true rfl, Nat.le_of_ble_eq_true rfl⟩) (fun r104 h104 => ?_)
        obtain rfl : r104 = (rnd (((pt 8).toInt64) * (((endS len pt) - x).toInt64)) ((pt 12).toInt64)) := h104
        refine va_mmin hx hb (by rw [hml]; exact hl.1.symm) hown (hts _ mM_X6_144) (hts _ mT_Lib_Math_min_name) (hts _ mN__java_lang_Math_) (hts _ mC_Lib_Math_min_name) (Nat.le_of_ble_eq_true rfl) (Nat.le_of_ble_eq_true rfl) (Nat.le_of_ble_eq_true rfl) (Nat.le_of_ble_eq_true rfl) dX6_strength_107 ?_
        refine tpi (y := minI (pt 8) (rnd (pt 8 * (endS len pt - x)).toInt64 (pt 12).toInt64)) (by rw [(hO.left hon hx0 c73 c85).1]; rfl) ?_
        refine lv_istore (lv' := [(6, .int (minI (pt 8) (rnd (pt 8 * (endS len pt - x)).toInt64 (pt 12).toInt64))), (5, .int ((endS len pt) - x)), (4, .int (x - (pt 1))), (3, .int (pt 8)), (0, .ref mo), (1, .int (nI i)), (2, .int x)]) hx hb dX6_strength_110 hl (by decide) rfl (fun ls hl => ?_)
        refine lv_iload hx hb dX6_strength_112 (lv_at hl 0 rfl) ?_
        refine Ri hx hb hr hlk ?_ dX6_strength_114
        show _ = strS len pt x
        rw [strS, if_pos (And.intro c73 c85), ← hE1 _ (Or.inr ⟨c39, rfl⟩)]
  · skip
    have c39 := Int32.not_le.mp c39
    refine lv_iload hx hb dX6_strength_42 (lv_at hl 0 rfl) ?_
    refine lv_iload_n hx hb dX6_strength_44 rfl (lv_at hl 3 rfl) ?_
    refine lv_i2l hx hb dX6_strength_45 rfl ?_
    refine lv_iload hx hb dX6_strength_46 (lv_at hl 2 rfl) ?_
    refine lv_i2l hx hb dX6_strength_48 rfl ?_
    refine lv_lmul hx hb dX6_strength_49 ?_
    refine lv_aload_n hx hb dX6_strength_50 rfl (lv_at hl 4 rfl) ?_
    refine lv_iload_n hx hb dX6_strength_51 rfl (lv_at hl 5 rfl) ?_
    refine lv_bipush (v := 11) hx hb dX6_strength_52 (by decide) ?_
    have hP9 := hP.sub (ws' := [oO mo 6 [.int th, .ref a1, .int (nI nC), .ref a2, .ref a3, .ref a4, .ref a5, .ref a6, .ref a7, .ref a8, .ref a9, .int (nI nS), .ref a10, .int (nI nM), .ref a11], aI D a10 130 pa]) [0, 2] rfl
    refine vp_callSi (pV (rest := [.long (((pt 8).toInt64) * ((x - (pt 1)).toInt64)), .int (pt 8)]) (qc := (RX6, TX6, 15)) [.int (nI i), .int 11] 2 hC (m_part l D (mo := mo) (i := i) (w := 11) (th := th) (a1 := a1) (nC := nC) (a2 := a2) (a3 := a3) (a4 := a4) (a5 := a5) (a6 := a6) (a7 := a7) (a8 := a8) (a9 := a9) (nS := nS) (a10 := a10) (nM := nM) (a11 := a11) (pa := pa) (by omega) (by omega)) rfl (hP 0 _ rfl) (gV mM_X6_120 mI_X6_part mS_X6_part mN_X6 mC_X6_part) (by decide +kernel) rfl rfl ⟨Nat.le_of_ble_eq_true rfl, Nat.le_of_ble_eq_true rfl⟩ hG hP9 rfl hl.1 rfl (Nat.le_of_ble_eq_true rfl) dX6_strength_54 ⟨Nat.le_of_ble_eq_true rfl, Nat.le_of_ble_eq_true rfl⟩) (fun r54 h54 => ?_)
    obtain rfl : r54 = (pa (13 * i + 11)) := h54
    refine tpi (y := pt 11) (hpa 11 (by decide) (by decide)) ?_
    refine lv_i2l hx hb dX6_strength_57 rfl ?_
    have hP9 : va_P D cls [] s.heap := fun k q h => by simp at h
    refine vp_callSi (pS (rest := [.int (pt 8)]) [.long (((pt 8).toInt64) * ((x - (pt 1)).toInt64)), .long ((pt 11).toInt64)] 2 hC (m_rounded l D (x := ((pt 8).toInt64) * ((x - (pt 1)).toInt64)) (y := (pt 11).toInt64) ((dp1 ((hO.fades hx0 hx9 hon).1 c39)).2)) (gS mM_X6_89 mT_X6_rounded mN_X6 mC_X6_rounded) (by decide +kernel) rfl rfl ⟨Nat.le_of_ble_eq_true rfl, Nat.le_of_ble_eq_true rfl⟩ hG hP9 rfl hl.1 rfl (Nat.le_of_ble_eq_true rfl) dX6_strength_58 ⟨Nat.le_of_ble_eq_true rfl, Nat.le_of_ble_eq_true rfl⟩) (fun r58 h58 => ?_)
    obtain rfl : r58 = (rnd (((pt 8).toInt64) * ((x - (pt 1)).toInt64)) ((pt 11).toInt64)) := h58
    refine va_mmin hx hb (by rw [hml]; exact hl.1.symm) hown (hts _ mM_X6_144) (hts _ mT_Lib_Math_min_name) (hts _ mN__java_lang_Math_) (hts _ mC_Lib_Math_min_name) (Nat.le_of_ble_eq_true rfl) (Nat.le_of_ble_eq_true rfl) (Nat.le_of_ble_eq_true rfl) (Nat.le_of_ble_eq_true rfl) dX6_strength_61 ?_
    refine tpi (y := minI (pt 8) (rnd (pt 8 * (x - pt 1)).toInt64 (pt 11).toInt64)) (by rw [hO.since hon hx9]; rfl) ?_
    refine lv_istore (lv' := [(6, .int (minI (pt 8) (rnd (pt 8 * (x - pt 1)).toInt64 (pt 11).toInt64))), (5, .int ((endS len pt) - x)), (4, .int (x - (pt 1))), (3, .int (pt 8)), (0, .ref mo), (1, .int (nI i)), (2, .int x)]) hx hb dX6_strength_64 hl (by decide) rfl (fun ls hl => ?_)
    have hE1 : ∀ w : Int32, (¬ pt 11 ≤ x - pt 1 ∧ w = minI (pt 8) (rnd (pt 8 * (x - pt 1)).toInt64 (pt 11).toInt64)) ∨ (pt 11 ≤ x - pt 1 ∧ w = pt 8) → w = str1 pt x := fun w h => by
      rcases h with ⟨h, rfl⟩ | ⟨h, rfl⟩
      · rw [str1, if_pos (Int32.not_le.mp h)]
      · rw [str1, if_neg (Int32.not_lt.mpr h)]
    refine lv_aload_n hx hb dX6_strength_66 rfl (lv_at hl 4 rfl) ?_
    refine lv_iload_n hx hb dX6_strength_67 rfl (lv_at hl 5 rfl) ?_
    refine lv_bipush (v := 10) hx hb dX6_strength_68 (by decide) ?_
    have hP9 := hP.sub (ws' := [oO mo 6 [.int th, .ref a1, .int (nI nC), .ref a2, .ref a3, .ref a4, .ref a5, .ref a6, .ref a7, .ref a8, .ref a9, .int (nI nS), .ref a10, .int (nI nM), .ref a11], aI D a10 130 pa]) [0, 2] rfl
    refine vp_callSi (pV (rest := []) (qc := (RX6, TX6, 15)) [.int (nI i), .int 10] 2 hC (m_part l D (mo := mo) (i := i) (w := 10) (th := th) (a1 := a1) (nC := nC) (a2 := a2) (a3 := a3) (a4 := a4) (a5 := a5) (a6 := a6) (a7 := a7) (a8 := a8) (a9 := a9) (nS := nS) (a10 := a10) (nM := nM) (a11 := a11) (pa := pa) (by omega) (by omega)) rfl (hP 0 _ rfl) (gV mM_X6_120 mI_X6_part mS_X6_part mN_X6 mC_X6_part) (by decide +kernel) rfl rfl ⟨Nat.le_of_ble_eq_true rfl, Nat.le_of_ble_eq_true rfl⟩ hG hP9 rfl hl.1 rfl (Nat.le_of_ble_eq_true rfl) dX6_strength_70 ⟨Nat.le_of_ble_eq_true rfl, Nat.le_of_ble_eq_true rfl⟩) (fun r70 h70 => ?_)
    obtain rfl : r70 = (pa (13 * i + 10)) := h70
    refine tpi (y := pt 10) (hpa 10 (by decide) (by decide)) ?_
    refine lv_if_ne (tgt := 112) hx hb dX6_strength_73 (by decide) (fun c73 => ?_) (fun c73 => ?_)
    · skip
      refine lv_iload hx hb dX6_strength_112 (lv_at hl 0 rfl) ?_
      refine Ri hx hb hr hlk ?_ dX6_strength_114
      show _ = strS len pt x
      rw [strS, if_neg (fun h => c73 h.1), ← hE1 _ (Or.inl ⟨Int32.not_le.mpr c39, rfl⟩)]
    · skip
      refine lv_iload hx hb dX6_strength_76 (lv_at hl 1 rfl) ?_
      refine lv_aload_n hx hb dX6_strength_78 rfl (lv_at hl 4 rfl) ?_
      refine lv_iload_n hx hb dX6_strength_79 rfl (lv_at hl 5 rfl) ?_
      refine lv_bipush (v := 12) hx hb dX6_strength_80 (by decide) ?_
      have hP9 := hP.sub (ws' := [oO mo 6 [.int th, .ref a1, .int (nI nC), .ref a2, .ref a3, .ref a4, .ref a5, .ref a6, .ref a7, .ref a8, .ref a9, .int (nI nS), .ref a10, .int (nI nM), .ref a11], aI D a10 130 pa]) [0, 2] rfl
      refine vp_callSi (pV (rest := [.int ((endS len pt) - x)]) (qc := (RX6, TX6, 15)) [.int (nI i), .int 12] 2 hC (m_part l D (mo := mo) (i := i) (w := 12) (th := th) (a1 := a1) (nC := nC) (a2 := a2) (a3 := a3) (a4 := a4) (a5 := a5) (a6 := a6) (a7 := a7) (a8 := a8) (a9 := a9) (nS := nS) (a10 := a10) (nM := nM) (a11 := a11) (pa := pa) (by omega) (by omega)) rfl (hP 0 _ rfl) (gV mM_X6_120 mI_X6_part mS_X6_part mN_X6 mC_X6_part) (by decide +kernel) rfl rfl ⟨Nat.le_of_ble_eq_true rfl, Nat.le_of_ble_eq_true rfl⟩ hG hP9 rfl hl.1 rfl (Nat.le_of_ble_eq_true rfl) dX6_strength_82 ⟨Nat.le_of_ble_eq_true rfl, Nat.le_of_ble_eq_true rfl⟩) (fun r82 h82 => ?_)
      obtain rfl : r82 = (pa (13 * i + 12)) := h82
      refine tpi (y := pt 12) (hpa 12 (by decide) (by decide)) ?_
      refine lv_icmp_ge (tgt := 112) hx hb dX6_strength_85 (by decide) (fun c85 => ?_) (fun c85 => ?_)
      · skip
        refine lv_iload hx hb dX6_strength_112 (lv_at hl 0 rfl) ?_
        refine Ri hx hb hr hlk ?_ dX6_strength_114
        show _ = strS len pt x
        rw [strS, if_neg (fun h => absurd c85 (Int32.not_le.mpr h.2)), ← hE1 _ (Or.inl ⟨Int32.not_le.mpr c39, rfl⟩)]
      · skip
        have c85 := Int32.not_le.mp c85
        refine lv_iload hx hb dX6_strength_88 (lv_at hl 0 rfl) ?_
        refine lv_iload_n hx hb dX6_strength_90 rfl (lv_at hl 3 rfl) ?_
        refine lv_i2l hx hb dX6_strength_91 rfl ?_
        refine lv_iload hx hb dX6_strength_92 (lv_at hl 1 rfl) ?_
        refine lv_i2l hx hb dX6_strength_94 rfl ?_
        refine lv_lmul hx hb dX6_strength_95 ?_
        refine lv_aload_n hx hb dX6_strength_96 rfl (lv_at hl 4 rfl) ?_
        refine lv_iload_n hx hb dX6_strength_97 rfl (lv_at hl 5 rfl) ?_
        refine lv_bipush (v := 12) hx hb dX6_strength_98 (by decide) ?_
        have hP9 := hP.sub (ws' := [oO mo 6 [.int th, .ref a1, .int (nI nC), .ref a2, .ref a3, .ref a4, .ref a5, .ref a6, .ref a7, .ref a8, .ref a9, .int (nI nS), .ref a10, .int (nI nM), .ref a11], aI D a10 130 pa]) [0, 2] rfl
        refine vp_callSi (pV (rest := [.long (((pt 8).toInt64) * (((endS len pt) - x).toInt64)), .int (minI (pt 8) (rnd (pt 8 * (x - pt 1)).toInt64 (pt 11).toInt64))]) (qc := (RX6, TX6, 15)) [.int (nI i), .int 12] 2 hC (m_part l D (mo := mo) (i := i) (w := 12) (th := th) (a1 := a1) (nC := nC) (a2 := a2) (a3 := a3) (a4 := a4) (a5 := a5) (a6 := a6) (a7 := a7) (a8 := a8) (a9 := a9) (nS := nS) (a10 := a10) (nM := nM) (a11 := a11) (pa := pa) (by omega) (by omega)) rfl (hP 0 _ rfl) (gV mM_X6_120 mI_X6_part mS_X6_part mN_X6 mC_X6_part) (by decide +kernel) rfl rfl ⟨Nat.le_of_ble_eq_true rfl, Nat.le_of_ble_eq_true rfl⟩ hG hP9 rfl hl.1 rfl (Nat.le_of_ble_eq_true rfl) dX6_strength_100 ⟨Nat.le_of_ble_eq_true rfl, Nat.le_of_ble_eq_true rfl⟩) (fun r100 h100 => ?_)
        obtain rfl : r100 = (pa (13 * i + 12)) := h100
        refine tpi (y := pt 12) (hpa 12 (by decide) (by decide)) ?_
        refine lv_i2l hx hb dX6_strength_103 rfl ?_
        have hP9 : va_P D cls [] s.heap := fun k q h => by simp at h
        refine vp_callSi (pS (rest := [.int (minI (pt 8) (rnd (pt 8 * (x - pt 1)).toInt64 (pt 11).toInt64))]) [.long (((pt 8).toInt64) * (((endS len pt) - x).toInt64)), .long ((pt 12).toInt64)] 2 hC (m_rounded l D (x := ((pt 8).toInt64) * (((endS len pt) - x).toInt64)) (y := (pt 12).toInt64) ((dp1 (hO.left hon hx0 c73 c85).2).2)) (gS mM_X6_89 mT_X6_rounded mN_X6 mC_X6_rounded) (by decide +kernel) rfl rfl ⟨Nat.le_of_ble_eq_true rfl, Nat.le_of_ble_eq_true rfl⟩ hG hP9 rfl hl.1 rfl (Nat.le_of_ble_eq_true rfl) dX6_strength_104 ⟨Nat.le_of_ble_eq_true rfl, Nat.le_of_ble_eq_true rfl⟩) (fun r104 h104 => ?_)
        obtain rfl : r104 = (rnd (((pt 8).toInt64) * (((endS len pt) - x).toInt64)) ((pt 12).toInt64)) := h104
        refine va_mmin hx hb (by rw [hml]; exact hl.1.symm) hown (hts _ mM_X6_144) (hts _ mT_Lib_Math_min_name) (hts _ mN__java_lang_Math_) (hts _ mC_Lib_Math_min_name) (Nat.le_of_ble_eq_true rfl) (Nat.le_of_ble_eq_true rfl) (Nat.le_of_ble_eq_true rfl) (Nat.le_of_ble_eq_true rfl) dX6_strength_107 ?_
        refine tpi (y := minI (minI (pt 8) (rnd (pt 8 * (x - pt 1)).toInt64 (pt 11).toInt64)) (rnd (pt 8 * (endS len pt - x)).toInt64 (pt 12).toInt64)) (by rw [(hO.left hon hx0 c73 c85).1]; rfl) ?_
        refine lv_istore (lv' := [(6, .int (minI (minI (pt 8) (rnd (pt 8 * (x - pt 1)).toInt64 (pt 11).toInt64)) (rnd (pt 8 * (endS len pt - x)).toInt64 (pt 12).toInt64))), (5, .int ((endS len pt) - x)), (4, .int (x - (pt 1))), (3, .int (pt 8)), (0, .ref mo), (1, .int (nI i)), (2, .int x)]) hx hb dX6_strength_110 hl (by decide) rfl (fun ls hl => ?_)
        refine lv_iload hx hb dX6_strength_112 (lv_at hl 0 rfl) ?_
        refine Ri hx hb hr hlk ?_ dX6_strength_114
        show _ = strS len pt x
        rw [strS, if_pos (And.intro c73 c85), ← hE1 _ (Or.inl ⟨Int32.not_le.mpr c39, rfl⟩)]
set_option maxHeartbeats 400000 in
set_option maxRecDepth 100000 in
theorem m_eased (l : Launch) (D : va_G) {u0 v0 e0 z : Int32} {xx : Int64} (hz : dOK z) : Met l yX6_eased (ws_ yX6_eased cX6_eased 9 (some .int)) ({ frames := 2, cells := 0, slots := 0, locals := 48 } : Room) (va_Pc [.int u0, .int v0, .int e0, .long xx, .long z.toInt64] (PW D [])) (vp_Si (fun v => v = ezed u0 (v0.toInt64 - u0.toInt64) e0 xx z.toInt64)) 0 0 (fun _ => False) := by
  refine Met.ofW (cc := cX6_eased) (maxL := 9) (ret := (some .int)) (by decide) rfl ?_
  intro p e s m args below meth c s₁ B hml hv
  obtain ⟨rfl, hG, hP⟩ := hv
  have hx := B.exec
  have hb := B.bytes
  have hr := B.returns
  have hts : ∀ w ∈ wsL_law, w.before _ s = true := fun w h => atoms_spec (ws := (ws_ yX6_eased cX6_eased 9 (some .int))) B.pre w (List.mem_cons_of_mem _ h)
  have hown : s.vm.findClass RX6 = some m.cls := findClass_of_methodNamed B.named
  have hlk := B.notSynchronized
  have hC : CallFix p m c cX6_eased 9 s _ wsL_law RX6 := ⟨hx, hb, hml, hown, hts⟩
  have hl := lv_entry ([.int u0, .int v0, .int e0, .long xx, .long z.toInt64]) (n := 9) (Nat.le_of_ble_eq_true rfl)
  rw [lg_entry_eq]
  generalize (lg_sl ([.int u0, .int v0, .int e0, .long xx, .long z.toInt64]) ++ List.replicate (9 - (lg_sl ([.int u0, .int v0, .int e0, .long xx, .long z.toInt64])).length) Slot.unset).toArray = ls at hl ⊢
  have hl : lv_has ls 9 [(0, .int u0), (1, .int v0), (2, .int e0), (3, .long xx), (5, .long z.toInt64)] := hl
  refine lv_iload_n hx hb dX6_eased_0 rfl (lv_at hl 1 rfl) ?_
  refine lv_i2l hx hb dX6_eased_1 rfl ?_
  refine lv_iload_n hx hb dX6_eased_2 rfl (lv_at hl 0 rfl) ?_
  refine lv_i2l hx hb dX6_eased_3 rfl ?_
  refine lv_lsub hx hb dX6_eased_4 ?_
  refine lv_lstore (lv' := [(7, .long (v0.toInt64 - u0.toInt64)), (0, .int u0), (1, .int v0), (2, .int e0), (3, .long xx), (5, .long z.toInt64)]) hx hb dX6_eased_5 hl (by decide) rfl (fun ls hl => ?_)
  refine lv_iload_n hx hb dX6_eased_7 rfl (lv_at hl 3 rfl) ?_
  refine lv_if_ne (tgt := 13) hx hb dX6_eased_8 (by decide) (fun c8 => ?_) (fun c8 => ?_)
  · skip
    refine lv_iload_n hx hb dX6_eased_13 rfl (lv_at hl 3 rfl) ?_
    refine lv_iconst (v := 1) hx hb dX6_eased_14 (by decide) ?_
    refine lv_icmp_ne (tgt := 30) hx hb dX6_eased_15 (by decide) (fun c15 => ?_) (fun c15 => ?_)
    · skip
      refine lv_iload_n hx hb dX6_eased_30 rfl (lv_at hl 3 rfl) ?_
      refine lv_iconst (v := 2) hx hb dX6_eased_31 (by decide) ?_
      refine lv_icmp_ne (tgt := 52) hx hb dX6_eased_32 (by decide) (fun c32 => ?_) (fun c32 => ?_)
      · skip
        refine lv_iload_n hx hb dX6_eased_52 rfl (lv_at hl 3 rfl) ?_
        refine lv_iconst (v := 3) hx hb dX6_eased_53 (by decide) ?_
        refine lv_icmp_ne (tgt := 81) hx hb dX6_eased_54 (by decide) (fun c54 => ?_) (fun c54 => ?_)
        · skip
          refine lv_iload_n hx hb dX6_eased_81 rfl (lv_at hl 1 rfl) ?_
          refine lv_lload hx hb dX6_eased_82 (lv_at hl 0 rfl) ?_
          refine lv_lload_n hx hb dX6_eased_84 rfl (lv_at hl 4 rfl) ?_
          refine lv_lmul hx hb dX6_eased_85 ?_
          refine lv_lload_n hx hb dX6_eased_86 rfl (lv_at hl 4 rfl) ?_
          refine lv_lmul hx hb dX6_eased_87 ?_
          refine lv_ldc2 hx hb hown (hts _ mH_X6_93) dX6_eased_88 ?_
          refine lv_lload hx hb dX6_eased_91 (lv_at hl 5 rfl) ?_
          refine lv_lmul hx hb dX6_eased_93 ?_
          refine lv_ldc2 hx hb hown (hts _ mH_X6_58) dX6_eased_94 ?_
          refine lv_lload_n hx hb dX6_eased_97 rfl (lv_at hl 4 rfl) ?_
          refine lv_lmul hx hb dX6_eased_98 ?_
          refine lv_lsub hx hb dX6_eased_99 ?_
          refine lv_lmul hx hb dX6_eased_100 ?_
          refine lv_lload hx hb dX6_eased_101 (lv_at hl 5 rfl) ?_
          refine lv_lload hx hb dX6_eased_103 (lv_at hl 5 rfl) ?_
          refine lv_lmul hx hb dX6_eased_105 ?_
          refine lv_lload hx hb dX6_eased_106 (lv_at hl 5 rfl) ?_
          refine lv_lmul hx hb dX6_eased_108 ?_
          have hP9 : va_P D cls [] s.heap := fun k q h => by simp at h
          refine vp_callSi (pS (rest := [.int u0]) [.long ((((v0.toInt64 - u0.toInt64) * xx) * xx) * ((3 * z.toInt64) - (2 * xx))), .long ((z.toInt64 * z.toInt64) * z.toInt64)] 2 hC (m_rounded l D (x := (((v0.toInt64 - u0.toInt64) * xx) * xx) * ((3 * z.toInt64) - (2 * xx))) (y := (z.toInt64 * z.toInt64) * z.toInt64) ((dp3 hz).2)) (gS mM_X6_89 mT_X6_rounded mN_X6 mC_X6_rounded) (by decide +kernel) rfl rfl ⟨Nat.le_of_ble_eq_true rfl, Nat.le_of_ble_eq_true rfl⟩ hG hP9 rfl hl.1 rfl (Nat.le_of_ble_eq_true rfl) dX6_eased_109 ⟨Nat.le_of_ble_eq_true rfl, Nat.le_of_ble_eq_true rfl⟩) (fun r109 h109 => ?_)
          obtain rfl : r109 = (rnd ((((v0.toInt64 - u0.toInt64) * xx) * xx) * ((3 * z.toInt64) - (2 * xx))) ((z.toInt64 * z.toInt64) * z.toInt64)) := h109
          refine lv_iadd hx hb dX6_eased_112 ?_
          refine Ri hx hb hr hlk ?_ dX6_eased_113
          show _ = ezed _ _ _ _ _
          rw [ezed, if_neg c8, if_neg c15, if_neg c32, if_neg c54]
        · skip
          refine lv_iload_n hx hb dX6_eased_57 rfl (lv_at hl 1 rfl) ?_
          refine lv_lload hx hb dX6_eased_58 (lv_at hl 0 rfl) ?_
          refine lv_lload_n hx hb dX6_eased_60 rfl (lv_at hl 4 rfl) ?_
          refine lv_lmul hx hb dX6_eased_61 ?_
          refine lv_ldc2 hx hb hown (hts _ mH_X6_58) dX6_eased_62 ?_
          refine lv_lload hx hb dX6_eased_65 (lv_at hl 5 rfl) ?_
          refine lv_lmul hx hb dX6_eased_67 ?_
          refine lv_lload_n hx hb dX6_eased_68 rfl (lv_at hl 4 rfl) ?_
          refine lv_lsub hx hb dX6_eased_69 ?_
          refine lv_lmul hx hb dX6_eased_70 ?_
          refine lv_lload hx hb dX6_eased_71 (lv_at hl 5 rfl) ?_
          refine lv_lload hx hb dX6_eased_73 (lv_at hl 5 rfl) ?_
          refine lv_lmul hx hb dX6_eased_75 ?_
          have hP9 : va_P D cls [] s.heap := fun k q h => by simp at h
          refine vp_callSi (pS (rest := [.int u0]) [.long (((v0.toInt64 - u0.toInt64) * xx) * ((2 * z.toInt64) - xx)), .long (z.toInt64 * z.toInt64)] 2 hC (m_rounded l D (x := ((v0.toInt64 - u0.toInt64) * xx) * ((2 * z.toInt64) - xx)) (y := z.toInt64 * z.toInt64) ((dp2 hz).2)) (gS mM_X6_89 mT_X6_rounded mN_X6 mC_X6_rounded) (by decide +kernel) rfl rfl ⟨Nat.le_of_ble_eq_true rfl, Nat.le_of_ble_eq_true rfl⟩ hG hP9 rfl hl.1 rfl (Nat.le_of_ble_eq_true rfl) dX6_eased_76 ⟨Nat.le_of_ble_eq_true rfl, Nat.le_of_ble_eq_true rfl⟩) (fun r76 h76 => ?_)
          obtain rfl : r76 = (rnd (((v0.toInt64 - u0.toInt64) * xx) * ((2 * z.toInt64) - xx)) (z.toInt64 * z.toInt64)) := h76
          refine lv_iadd hx hb dX6_eased_79 ?_
          refine Ri hx hb hr hlk ?_ dX6_eased_80
          show _ = ezed _ _ _ _ _
          rw [ezed, if_neg c8, if_neg c15, if_neg c32, if_pos c54]
      · skip
        refine lv_iload_n hx hb dX6_eased_35 rfl (lv_at hl 1 rfl) ?_
        refine lv_lload hx hb dX6_eased_36 (lv_at hl 0 rfl) ?_
        refine lv_lload_n hx hb dX6_eased_38 rfl (lv_at hl 4 rfl) ?_
        refine lv_lmul hx hb dX6_eased_39 ?_
        refine lv_lload_n hx hb dX6_eased_40 rfl (lv_at hl 4 rfl) ?_
        refine lv_lmul hx hb dX6_eased_41 ?_
        refine lv_lload hx hb dX6_eased_42 (lv_at hl 5 rfl) ?_
        refine lv_lload hx hb dX6_eased_44 (lv_at hl 5 rfl) ?_
        refine lv_lmul hx hb dX6_eased_46 ?_
        have hP9 : va_P D cls [] s.heap := fun k q h => by simp at h
        refine vp_callSi (pS (rest := [.int u0]) [.long (((v0.toInt64 - u0.toInt64) * xx) * xx), .long (z.toInt64 * z.toInt64)] 2 hC (m_rounded l D (x := ((v0.toInt64 - u0.toInt64) * xx) * xx) (y := z.toInt64 * z.toInt64) ((dp2 hz).2)) (gS mM_X6_89 mT_X6_rounded mN_X6 mC_X6_rounded) (by decide +kernel) rfl rfl ⟨Nat.le_of_ble_eq_true rfl, Nat.le_of_ble_eq_true rfl⟩ hG hP9 rfl hl.1 rfl (Nat.le_of_ble_eq_true rfl) dX6_eased_47 ⟨Nat.le_of_ble_eq_true rfl, Nat.le_of_ble_eq_true rfl⟩) (fun r47 h47 => ?_)
        obtain rfl : r47 = (rnd (((v0.toInt64 - u0.toInt64) * xx) * xx) (z.toInt64 * z.toInt64)) := h47
        refine lv_iadd hx hb dX6_eased_50 ?_
        refine Ri hx hb hr hlk ?_ dX6_eased_51
        show _ = ezed _ _ _ _ _
        rw [ezed, if_neg c8, if_neg c15, if_pos c32]
    · skip
      refine lv_iload_n hx hb dX6_eased_18 rfl (lv_at hl 1 rfl) ?_
      refine lv_lload hx hb dX6_eased_19 (lv_at hl 0 rfl) ?_
      refine lv_lload_n hx hb dX6_eased_21 rfl (lv_at hl 4 rfl) ?_
      refine lv_lmul hx hb dX6_eased_22 ?_
      refine lv_lload hx hb dX6_eased_23 (lv_at hl 5 rfl) ?_
      have hP9 : va_P D cls [] s.heap := fun k q h => by simp at h
      refine vp_callSi (pS (rest := [.int u0]) [.long ((v0.toInt64 - u0.toInt64) * xx), .long z.toInt64] 2 hC (m_rounded l D (x := (v0.toInt64 - u0.toInt64) * xx) (y := z.toInt64) ((dp1 hz).2)) (gS mM_X6_89 mT_X6_rounded mN_X6 mC_X6_rounded) (by decide +kernel) rfl rfl ⟨Nat.le_of_ble_eq_true rfl, Nat.le_of_ble_eq_true rfl⟩ hG hP9 rfl hl.1 rfl (Nat.le_of_ble_eq_true rfl) dX6_eased_25 ⟨Nat.le_of_ble_eq_true rfl, Nat.le_of_ble_eq_true rfl⟩) (fun r25 h25 => ?_)
      obtain rfl : r25 = (rnd ((v0.toInt64 - u0.toInt64) * xx) z.toInt64) := h25
      refine lv_iadd hx hb dX6_eased_28 ?_
      refine Ri hx hb hr hlk ?_ dX6_eased_29
      show _ = ezed _ _ _ _ _
      rw [ezed, if_neg c8, if_pos c15]
  · skip
    refine lv_iload_n hx hb dX6_eased_11 rfl (lv_at hl 1 rfl) ?_
    refine Ri hx hb hr hlk ?_ dX6_eased_12
    show _ = ezed _ _ _ _ _
    rw [ezed, if_pos c8]
set_option maxHeartbeats 400000 in
set_option maxRecDepth 100000 in
theorem m_worth (l : Launch) (D : va_G) {mo a1 a2 a3 a4 a5 a6 a7 a8 a9 a10 a11 nC nS nM : Nat} {th : Int32} {ks tm wo ea ft fv fe : Nat → Int32} {k0 n : Nat} {x : Int32} (h24 : k0 < 24) (h0 : 0 < n) (h16 : n ≤ 16) (hks : ks k0 = nI n) (htm : ∀ k, k < n → tm (16 * k0 + k) = ft k) (hwo : ∀ k, k < n → wo (16 * k0 + k) = fv k) (hea : ∀ k, k < n → ea (16 * k0 + k) = fe k) (hT : tOK ft n) (hV : ∀ k, k < n → -10000 ≤ (fv k).toInt ∧ (fv k).toInt ≤ 10000) : Met l yX6_worth (ws_ yX6_worth cX6_worth 6 (some .int)) ({ frames := 3, cells := 0, slots := 0, locals := 76 } : Room) (va_Pc [.ref mo, .int (nI k0), .int x] (PW D [oO mo 6 [.int th, .ref a1, .int (nI nC), .ref a2, .ref a3, .ref a4, .ref a5, .ref a6, .ref a7, .ref a8, .ref a9, .int (nI nS), .ref a10, .int (nI nM), .ref a11], aI D a3 24 ks, aI D a4 384 tm, aI D a5 384 wo, aI D a6 384 ea])) (vp_Si (fun v => v = evT n ft fv fe x)) 0 0 (fun _ => False) := by
  refine Met.ofW (cc := cX6_worth) (maxL := 6) (ret := (some .int)) (by decide) rfl ?_
  intro p e s m args below meth c s₁ B hml hv
  obtain ⟨rfl, hG, hP⟩ := hv
  have hx := B.exec
  have hb := B.bytes
  have hr := B.returns
  have hts : ∀ w ∈ wsL_law, w.before _ s = true := fun w h => atoms_spec (ws := (ws_ yX6_worth cX6_worth 6 (some .int))) B.pre w (List.mem_cons_of_mem _ h)
  have hown : s.vm.findClass RX6 = some m.cls := findClass_of_methodNamed B.named
  have hlk := B.notSynchronized
  have hC : CallFix p m c cX6_worth 6 s _ wsL_law RX6 := ⟨hx, hb, hml, hown, hts⟩
  have hl := lv_entry ([.ref mo, .int (nI k0), .int x]) (n := 6) (Nat.le_of_ble_eq_true rfl)
  rw [lg_entry_eq]
  generalize (lg_sl ([.ref mo, .int (nI k0), .int x]) ++ List.replicate (6 - (lg_sl ([.ref mo, .int (nI k0), .int x])).length) Slot.unset).toArray = ls at hl ⊢
  have hl : lv_has ls 6 [(0, .ref mo), (1, .int (nI k0)), (2, .int x)] := hl
  refine lv_iload_n hx hb dX6_worth_0 rfl (lv_at hl 1 rfl) ?_
  have hP9 : va_P D cls [] s.heap := fun k q h => by simp at h
  refine vp_callSi (pS (rest := []) [.int (nI k0)] 1 hC (m_row l D (j := k0) ) (gS mM_X6_78 mT_X6_row mN_X6 mC_X6_row) (by decide +kernel) rfl rfl ⟨Nat.le_of_ble_eq_true rfl, Nat.le_of_ble_eq_true rfl⟩ hG hP9 rfl hl.1 rfl (Nat.le_of_ble_eq_true rfl) dX6_worth_1 ⟨Nat.le_of_ble_eq_true rfl, Nat.le_of_ble_eq_true rfl⟩) (fun r1 h1 => ?_)
  obtain rfl : r1 = (nI (16 * k0)) := h1
  refine lv_istore_n (lv' := [(3, .int (nI (16 * k0))), (0, .ref mo), (1, .int (nI k0)), (2, .int x)]) hx hb dX6_worth_4 rfl hl (by decide) rfl (fun ls hl => ?_)
  refine lv_iload_n hx hb dX6_worth_5 rfl (lv_at hl 0 rfl) ?_
  refine lv_aload_n hx hb dX6_worth_6 rfl (lv_at hl 1 rfl) ?_
  refine va_get (D := D) (ci := 6) (v := .ref a3) (C := RX6) (T := TX6) (N := 15) hx hb hts inlX6 hown hG.K hP 0 rfl rfl 4 (by decide) (hts _ mF_X6_16) (fun _ h9 => h9) rfl dX6_worth_7 ?_
  refine lv_iload_n hx hb dX6_worth_10 rfl (lv_at hl 2 rfl) ?_
  refine ild (n := 24) (j := k0) hx hb hG hP 1 rfl (by omega) (by omega) dX6_worth_11 ?_
  refine tpi (y := nI n) (hks) ?_
  refine lv_iadd hx hb dX6_worth_12 ?_
  refine tpi (y := nI ((16 * k0) + n)) (nI_add (16 * k0) n) ?_
  refine lv_iconst (v := 1) hx hb dX6_worth_13 (by decide) ?_
  refine lv_isub hx hb dX6_worth_14 ?_
  refine tpi (y := nI (((16 * k0) + n) - 1)) (pk_sub (a := ((16 * k0) + n)) (b := 1) (by omega)) ?_
  refine lv_istore (lv' := [(4, .int (nI (((16 * k0) + n) - 1))), (3, .int (nI (16 * k0))), (0, .ref mo), (1, .int (nI k0)), (2, .int x)]) hx hb dX6_worth_15 hl (by decide) rfl (fun ls hl => ?_)
  refine lv_iload_n hx hb dX6_worth_17 rfl (lv_at hl 4 rfl) ?_
  refine lv_aload_n hx hb dX6_worth_18 rfl (lv_at hl 2 rfl) ?_
  refine va_get (D := D) (ci := 6) (v := .ref a4) (C := RX6) (T := TX6) (N := 15) hx hb hts inlX6 hown hG.K hP 0 rfl rfl 5 (by decide) (hts _ mF_X6_19) (fun _ h9 => h9) rfl dX6_worth_19 ?_
  refine lv_iload_n hx hb dX6_worth_22 rfl (lv_at hl 1 rfl) ?_
  refine ild (n := 384) (j := 16 * k0) hx hb hG hP 2 rfl (by omega) (by omega) dX6_worth_23 ?_
  refine tpi (y := ft 0) (htm 0 h0) ?_
  refine lv_icmp_gt (tgt := 34) hx hb dX6_worth_24 (by decide) (fun c24 => ?_) (fun c24 => ?_)
  · skip
    refine lv_iload_n hx hb dX6_worth_34 rfl (lv_at hl 4 rfl) ?_
    refine lv_aload_n hx hb dX6_worth_35 rfl (lv_at hl 2 rfl) ?_
    refine va_get (D := D) (ci := 6) (v := .ref a4) (C := RX6) (T := TX6) (N := 15) hx hb hts inlX6 hown hG.K hP 0 rfl rfl 5 (by decide) (hts _ mF_X6_19) (fun _ h9 => h9) rfl dX6_worth_36 ?_
    refine lv_iload hx hb dX6_worth_39 (lv_at hl 0 rfl) ?_
    refine ild (n := 384) (j := ((16 * k0) + n) - 1) hx hb hG hP 2 rfl (by omega) (by omega) dX6_worth_41 ?_
    refine tpi (y := ft (n - 1)) (by rw [Nat.add_sub_assoc h0]; exact htm (n - 1) (by omega)) ?_
    refine lv_icmp_lt (tgt := 53) hx hb dX6_worth_42 (by decide) (fun c42 => ?_) (fun c42 => ?_)
    · skip
      refine lv_iload_n hx hb dX6_worth_53 rfl (lv_at hl 1 rfl) ?_
      refine lv_istore (lv' := [(5, .int (nI (16 * k0))), (4, .int (nI (((16 * k0) + n) - 1))), (3, .int (nI (16 * k0))), (0, .ref mo), (1, .int (nI k0)), (2, .int x)]) hx hb dX6_worth_54 hl (by decide) rfl (fun ls hl => ?_)
      have loop56 : ∀ (d9 : Nat) (k : Nat), (n - k) < d9 → (k + 1 < n) → (ft k ≤ x) → ∀ (ls : Array Slot), lv_has ls 6 [(0, .ref mo), (1, .int (nI k0)), (2, .int x), (3, .int (nI (16 * k0))), (4, .int (nI (16 * k0 + n - 1))), (5, .int (nI (16 * k0 + k)))] → W p l e ({ frames := 3, cells := 0, slots := 0, locals := 76 } : Room) s m ([.ref mo, .int (nI k0), .int x] : List Value).toArray below meth c s.heap [] 0 0 (MQ below (vp_Si (fun v => v = evT n ft fv fe x)) ([.ref mo, .int (nI k0), .int x] : List Value).toArray s 0 0 (fun _ => False)) (F0 m 56 ls []) := by
        intro d9
        induction d9 with
        | zero => intro k hd; exact absurd hd (Nat.not_lt_zero _)
        | succ d9 ih56 =>
          intro k hd56 hk1 hk2 ls hl
          refine lv_aload_n hx hb dX6_worth_56 rfl (lv_at hl 0 rfl) ?_
          refine va_get (D := D) (ci := 6) (v := .ref a4) (C := RX6) (T := TX6) (N := 15) hx hb hts inlX6 hown hG.K hP 0 rfl rfl 5 (by decide) (hts _ mF_X6_19) (fun _ h9 => h9) rfl dX6_worth_57 ?_
          refine lv_iload hx hb dX6_worth_60 (lv_at hl 5 rfl) ?_
          refine lv_iconst (v := 1) hx hb dX6_worth_62 (by decide) ?_
          refine lv_iadd hx hb dX6_worth_63 ?_
          refine tpi (y := nI ((16 * k0 + k) + 1)) (nI_add (16 * k0 + k) 1) ?_
          refine ild (n := 384) (j := (16 * k0 + k) + 1) hx hb hG hP 2 rfl (by omega) (by omega) dX6_worth_64 ?_
          refine tpi (y := ft (k + 1)) (htm (k + 1) (by omega)) ?_
          refine lv_iload_n hx hb dX6_worth_65 rfl (lv_at hl 2 rfl) ?_
          refine lv_icmp_gt (tgt := 75) hx hb dX6_worth_66 (by decide) (fun c66 => ?_) (fun c66 => ?_)
          · skip
            refine lv_aload_n hx hb dX6_worth_75 rfl (lv_at hl 0 rfl) ?_
            refine va_get (D := D) (ci := 6) (v := .ref a5) (C := RX6) (T := TX6) (N := 15) hx hb hts inlX6 hown hG.K hP 0 rfl rfl 6 (by decide) (hts _ mF_X6_22) (fun _ h9 => h9) rfl dX6_worth_76 ?_
            refine lv_iload hx hb dX6_worth_79 (lv_at hl 5 rfl) ?_
            refine ild (n := 384) (j := 16 * k0 + k) hx hb hG hP 3 rfl (by omega) (by omega) dX6_worth_81 ?_
            refine tpi (y := fv k) (hwo k (by omega)) ?_
            refine lv_aload_n hx hb dX6_worth_82 rfl (lv_at hl 0 rfl) ?_
            refine va_get (D := D) (ci := 6) (v := .ref a5) (C := RX6) (T := TX6) (N := 15) hx hb hts inlX6 hown hG.K hP 0 rfl rfl 6 (by decide) (hts _ mF_X6_22) (fun _ h9 => h9) rfl dX6_worth_83 ?_
            refine lv_iload hx hb dX6_worth_86 (lv_at hl 5 rfl) ?_
            refine lv_iconst (v := 1) hx hb dX6_worth_88 (by decide) ?_
            refine lv_iadd hx hb dX6_worth_89 ?_
            refine tpi (y := nI ((16 * k0 + k) + 1)) (nI_add (16 * k0 + k) 1) ?_
            refine ild (n := 384) (j := (16 * k0 + k) + 1) hx hb hG hP 3 rfl (by omega) (by omega) dX6_worth_90 ?_
            refine tpi (y := fv (k + 1)) (hwo (k + 1) (by omega)) ?_
            refine lv_aload_n hx hb dX6_worth_91 rfl (lv_at hl 0 rfl) ?_
            refine va_get (D := D) (ci := 6) (v := .ref a6) (C := RX6) (T := TX6) (N := 15) hx hb hts inlX6 hown hG.K hP 0 rfl rfl 7 (by decide) (hts _ mF_X6_25) (fun _ h9 => h9) rfl dX6_worth_92 ?_
            refine lv_iload hx hb dX6_worth_95 (lv_at hl 5 rfl) ?_
            refine ild (n := 384) (j := 16 * k0 + k) hx hb hG hP 4 rfl (by omega) (by omega) dX6_worth_97 ?_
            refine tpi (y := fe k) (hea k (by omega)) ?_
            refine lv_iload_n hx hb dX6_worth_98 rfl (lv_at hl 2 rfl) ?_
            refine lv_aload_n hx hb dX6_worth_99 rfl (lv_at hl 0 rfl) ?_
            refine va_get (D := D) (ci := 6) (v := .ref a4) (C := RX6) (T := TX6) (N := 15) hx hb hts inlX6 hown hG.K hP 0 rfl rfl 5 (by decide) (hts _ mF_X6_19) (fun _ h9 => h9) rfl dX6_worth_100 ?_
            refine lv_iload hx hb dX6_worth_103 (lv_at hl 5 rfl) ?_
            refine ild (n := 384) (j := 16 * k0 + k) hx hb hG hP 2 rfl (by omega) (by omega) dX6_worth_105 ?_
            refine tpi (y := ft k) (htm k (by omega)) ?_
            refine lv_isub hx hb dX6_worth_106 ?_
            refine lv_i2l hx hb dX6_worth_107 rfl ?_
            refine lv_aload_n hx hb dX6_worth_108 rfl (lv_at hl 0 rfl) ?_
            refine va_get (D := D) (ci := 6) (v := .ref a4) (C := RX6) (T := TX6) (N := 15) hx hb hts inlX6 hown hG.K hP 0 rfl rfl 5 (by decide) (hts _ mF_X6_19) (fun _ h9 => h9) rfl dX6_worth_109 ?_
            refine lv_iload hx hb dX6_worth_112 (lv_at hl 5 rfl) ?_
            refine lv_iconst (v := 1) hx hb dX6_worth_114 (by decide) ?_
            refine lv_iadd hx hb dX6_worth_115 ?_
            refine tpi (y := nI ((16 * k0 + k) + 1)) (nI_add (16 * k0 + k) 1) ?_
            refine ild (n := 384) (j := (16 * k0 + k) + 1) hx hb hG hP 2 rfl (by omega) (by omega) dX6_worth_116 ?_
            refine tpi (y := ft (k + 1)) (htm (k + 1) (by omega)) ?_
            refine lv_aload_n hx hb dX6_worth_117 rfl (lv_at hl 0 rfl) ?_
            refine va_get (D := D) (ci := 6) (v := .ref a4) (C := RX6) (T := TX6) (N := 15) hx hb hts inlX6 hown hG.K hP 0 rfl rfl 5 (by decide) (hts _ mF_X6_19) (fun _ h9 => h9) rfl dX6_worth_118 ?_
            refine lv_iload hx hb dX6_worth_121 (lv_at hl 5 rfl) ?_
            refine ild (n := 384) (j := 16 * k0 + k) hx hb hG hP 2 rfl (by omega) (by omega) dX6_worth_123 ?_
            refine tpi (y := ft k) (htm k (by omega)) ?_
            refine lv_isub hx hb dX6_worth_124 ?_
            refine lv_i2l hx hb dX6_worth_125 rfl ?_
            have hP9 : va_P D cls [] s.heap := fun k q h => by simp at h
            refine vp_callSi (pS (rest := []) [.int (fv k), .int (fv (k + 1)), .int (fe k), .long ((x - (ft k)).toInt64), .long (((ft (k + 1)) - (ft k)).toInt64)] 5 hC (m_eased l D (z := ft (k + 1) - ft k) (u0 := fv k) (v0 := fv (k + 1)) (e0 := fe k) (xx := (x - (ft k)).toInt64) (hT.d (by omega) hk1)) (gS mM_X6_95 mT_X6_eased mN_X6 mC_X6_eased) (by decide +kernel) rfl rfl ⟨Nat.le_of_ble_eq_true rfl, Nat.le_of_ble_eq_true rfl⟩ hG hP9 rfl hl.1 rfl (Nat.le_of_ble_eq_true rfl) dX6_worth_126 ⟨Nat.le_of_ble_eq_true rfl, Nat.le_of_ble_eq_true rfl⟩) (fun r126 h126 => ?_)
            obtain rfl : r126 = (ezed (fv k) ((fv (k + 1)).toInt64 - (fv k).toInt64) (fe k) ((x - (ft k)).toInt64) (ft (k + 1) - ft k).toInt64) := h126
            refine Ri hx hb hr hlk ?_ dX6_worth_129
            show _ = evT n ft fv fe x
            rw [ev_mid hT hk1 hk2 c66, vb, i64_sub (a := fv (k + 1)) (b := fv k) (by have := hV k (by omega); have := hV (k + 1) hk1; omega) (by have := hV k (by omega); have := hV (k + 1) hk1; omega)]
          · skip
            refine lv_iinc (v := nI (16 * k0 + k + 1)) (lv' := [(5, .int (nI (16 * k0 + k + 1))), (0, .ref mo), (1, .int (nI k0)), (2, .int x), (3, .int (nI (16 * k0))), (4, .int (nI (16 * k0 + n - 1)))]) hx hb dX6_worth_69 hl (k := 5) rfl (nI_1 _) (by decide) rfl (fun ls hl => ?_)
            refine lv_goto (tgt := 56) hx hb dX6_worth_72 (by decide) ?_
            exact ih56 (k + 1) (by omega) (Nat.lt_of_not_le (fun h9 => by
                  have e9 : n - 1 = k + 1 := by omega
                  rw [e9] at c42
                  exact absurd c42 c66)) (Int32.not_lt.mp c66) _ (lv_sub hl [1, 2, 3, 4, 5, 0] rfl)
      exact loop56 _ 0 (Nat.lt_succ_self _) (Nat.lt_of_not_le (fun h9 => by
            have e9 : n - 1 = 0 := by omega
            rw [e9] at c42
            rw [fa_lt] at c42 c24
            omega)) (by rw [fa_le]; rw [fa_lt] at c24; omega) _ (lv_sub hl [3, 4, 5, 2, 1, 0] rfl)
    · skip
      refine lv_aload_n hx hb dX6_worth_45 rfl (lv_at hl 2 rfl) ?_
      refine va_get (D := D) (ci := 6) (v := .ref a5) (C := RX6) (T := TX6) (N := 15) hx hb hts inlX6 hown hG.K hP 0 rfl rfl 6 (by decide) (hts _ mF_X6_22) (fun _ h9 => h9) rfl dX6_worth_46 ?_
      refine lv_iload hx hb dX6_worth_49 (lv_at hl 0 rfl) ?_
      refine ild (n := 384) (j := ((16 * k0) + n) - 1) hx hb hG hP 3 rfl (by omega) (by omega) dX6_worth_51 ?_
      refine tpi (y := fv (n - 1)) (by rw [Nat.add_sub_assoc h0]; exact hwo (n - 1) (by omega)) ?_
      refine Ri hx hb hr hlk ?_ dX6_worth_52
      exact (ev_last h0 c42).symm
  · skip
    refine lv_aload_n hx hb dX6_worth_27 rfl (lv_at hl 2 rfl) ?_
    refine va_get (D := D) (ci := 6) (v := .ref a5) (C := RX6) (T := TX6) (N := 15) hx hb hts inlX6 hown hG.K hP 0 rfl rfl 6 (by decide) (hts _ mF_X6_22) (fun _ h9 => h9) rfl dX6_worth_28 ?_
    refine lv_iload_n hx hb dX6_worth_31 rfl (lv_at hl 1 rfl) ?_
    refine ild (n := 384) (j := 16 * k0) hx hb hG hP 3 rfl (by omega) (by omega) dX6_worth_32 ?_
    refine tpi (y := fv 0) (hwo 0 h0) ?_
    refine Ri hx hb hr hlk ?_ dX6_worth_33
    exact (ev_first hT h0 c24).symm
