/-- the times of a clip's keys below a place are stretched -/
def rtF (f : Nat → Int32) (n : Nat → Nat) (i : Nat) (p1 q1 : Int32) (k : Nat) : Nat → Int32 := fun x => if 64 * i ≤ x ∧ x < k ∧ x % 16 < n (x / 16 - 4 * i) then f x * p1 / q1 else f x
theorem rtF_0 {f : Nat → Int32} {n : Nat → Nat} {i : Nat} {p1 q1 : Int32} : rtF f n i p1 q1 (16 * (4 * i)) = f := by
  funext x
  rw [rtF, if_neg (fun h => by omega)]
theorem rtF_at {f : Nat → Int32} {n : Nat → Nat} {i : Nat} {p1 q1 : Int32} {k : Nat} : rtF f n i p1 q1 k k = f k := if_neg (fun h => by omega)
theorem rtF_step {f : Nat → Int32} {n : Nat → Nat} {i t r k : Nat} {p1 q1 : Int32} (h16 : n t ≤ 16) (hr : r < n t) (hk : k = 16 * (4 * i + t) + r) : upd (rtF f n i p1 q1 k) k (f k * p1 / q1) = rtF f n i p1 q1 (k + 1) := by
  have e1 : k / 16 - 4 * i = t := by omega
  apply upd_eq
  · rw [rtF, if_pos ⟨by omega, by omega, by rw [e1]; omega⟩]
  · intro x hx
    rw [rtF, rtF]
    by_cases e : 64 * i ≤ x ∧ x < k ∧ x % 16 < n (x / 16 - 4 * i)
    · rw [if_pos e, if_pos ⟨e.1, by omega, e.2.2⟩]
    · rw [if_neg e, if_neg (fun z => e ⟨z.1, by omega, z.2.2⟩)]
theorem rtF_row {f : Nat → Int32} {n : Nat → Nat} {i t : Nat} {p1 q1 : Int32} (h16 : n t ≤ 16) : rtF f n i p1 q1 (16 * (4 * i + (t + 1))) = rtF f n i p1 q1 (16 * (4 * i + t) + n t) := by
  funext x
  rw [rtF, rtF]
  by_cases e : 64 * i ≤ x ∧ x < 16 * (4 * i + t) + n t ∧ x % 16 < n (x / 16 - 4 * i)
  · rw [if_pos e, if_pos ⟨e.1, by omega, e.2.2⟩]
  · rw [if_neg e, if_neg (fun z => e ⟨z.1, Nat.lt_of_not_le (fun z2 => by
      have e1 : x / 16 - 4 * i = t := by omega
      have z3 := z.2.2
      rw [e1] at z3
      omega), z.2.2⟩)]
/-- the times of a clip's cues below a place are stretched -/
def qtF (f : Nat → Int32) (i : Nat) (p1 q1 : Int32) (k : Nat) : Nat → Int32 := fun x => if 8 * i ≤ x ∧ x < k then f x * p1 / q1 else f x
theorem qtF_0 {f : Nat → Int32} {i : Nat} {p1 q1 : Int32} : qtF f i p1 q1 (8 * i) = f := by
  funext x
  rw [qtF, if_neg (fun h => by omega)]
theorem qtF_at {f : Nat → Int32} {i k : Nat} {p1 q1 : Int32} : qtF f i p1 q1 k k = f k := if_neg (fun h => by omega)
theorem qtF_step {f : Nat → Int32} {i k : Nat} {p1 q1 : Int32} (hk : 8 * i ≤ k) : upd (qtF f i p1 q1 k) k (f k * p1 / q1) = qtF f i p1 q1 (k + 1) := by
  apply upd_eq
  · rw [qtF, if_pos ⟨hk, by omega⟩]
  · intro x hx
    rw [qtF, qtF]
    by_cases e : 8 * i ≤ x ∧ x < k
    · rw [if_pos e, if_pos ⟨e.1, by omega⟩]
    · rw [if_neg e, if_neg (fun z => e ⟨z.1, by omega⟩)]
set_option maxHeartbeats 400000 in
set_option maxRecDepth 100000 in
theorem m_retime_1 (l : Launch) (D : va_G) {mo a1 a2 a3 a4 a5 a6 a7 a8 a9 a10 a11 nC nS nM : Nat} {th : Int32} {x p1 q1 : Int32} (hz0 : Nat) (hn : nC ≤ 6) (hxx : x < 0 ∨ nI nC ≤ x) : Met l yX6_retime (ws_ yX6_retime cX6_retime 8 (some .int)) ({ frames := 2, cells := 0, slots := 0, locals := 43 } : Room) (va_Pc [.ref mo, .int x, .int p1, .int q1] (SW D [oO mo 6 [.int th, .ref a1, .int (nI nC), .ref a2, .ref a3, .ref a4, .ref a5, .ref a6, .ref a7, .ref a8, .ref a9, .int (nI nS), .ref a10, .int (nI nM), .ref a11]] hz0)) (va_Qi (fun v _ => v = 0) (AT D (va_A [oO mo 6 [.int th, .ref a1, .int (nI nC), .ref a2, .ref a3, .ref a4, .ref a5, .ref a6, .ref a7, .ref a8, .ref a9, .int (nI nS), .ref a10, .int (nI nM), .ref a11]] hz0) (fun _ : Unit => [oO mo 6 [.int 1, .ref a1, .int (nI nC), .ref a2, .ref a3, .ref a4, .ref a5, .ref a6, .ref a7, .ref a8, .ref a9, .int (nI nS), .ref a10, .int (nI nM), .ref a11]])) (va_A [oO mo 6 [.int th, .ref a1, .int (nI nC), .ref a2, .ref a3, .ref a4, .ref a5, .ref a6, .ref a7, .ref a8, .ref a9, .int (nI nS), .ref a10, .int (nI nM), .ref a11]] hz0)) 0 0 (va_A [oO mo 6 [.int th, .ref a1, .int (nI nC), .ref a2, .ref a3, .ref a4, .ref a5, .ref a6, .ref a7, .ref a8, .ref a9, .int (nI nS), .ref a10, .int (nI nM), .ref a11]] hz0) := by
  refine Met.ofW (cc := cX6_retime) (maxL := 8) (ret := (some .int)) (by decide) rfl ?_
  intro p e s m args below meth c s₁ B hml hv
  obtain ⟨rfl, hsz, hG, hP, hD0⟩ := hv
  have hx := B.exec
  have hb := B.bytes
  have hr := B.returns
  have hts : ∀ w ∈ wsL_law, w.before _ s = true := fun w h => atoms_spec (ws := (ws_ yX6_retime cX6_retime 8 (some .int))) B.pre w (List.mem_cons_of_mem _ h)
  have hown : s.vm.findClass RX6 = some m.cls := findClass_of_methodNamed B.named
  have hlk := B.notSynchronized
  have hC : CallFix p m c cX6_retime 8 s _ wsL_law RX6 := ⟨hx, hb, hml, hown, hts⟩
  subst hsz
  have hD := hD0.self (sz := s.heap.size)
  generalize hAe : va_A [oO mo 6 [.int th, .ref a1, .int (nI nC), .ref a2, .ref a3, .ref a4, .ref a5, .ref a6, .ref a7, .ref a8, .ref a9, .int (nI nS), .ref a10, .int (nI nM), .ref a11]] s.heap.size = A at hD ⊢
  have hA : ∀ q : Nat, s.heap.size ≤ q → A q := fun q h => by rw [← hAe]; exact Or.inr h
  have hS : va_S A s.heap s.heap [] := va_S.rf
  obtain ⟨H, hHe⟩ : ∃ H, H = s.heap := ⟨_, rfl⟩
  rw [← hHe] at hP
  have hS : va_S A s.heap H [] := by rw [hHe]; exact hS
  have hl := lv_entry ([.ref mo, .int x, .int p1, .int q1]) (n := 8) (Nat.le_of_ble_eq_true rfl)
  rw [lg_entry_eq]
  generalize (lg_sl ([.ref mo, .int x, .int p1, .int q1]) ++ List.replicate (8 - (lg_sl ([.ref mo, .int x, .int p1, .int q1])).length) Slot.unset).toArray = ls at hl ⊢
  have hl : lv_has ls 8 [(0, .ref mo), (1, .int x), (2, .int p1), (3, .int q1)] := hl
  rw [← hHe]
  refine lv_aload_n hx hb dX6_retime_0 rfl (lv_at hl 0 rfl) ?_
  refine lv_iconst (v := 0) hx hb dX6_retime_1 (by decide) ?_
  refine va_put (D := D) (ci := 6) (v := .int 0) (ty := .int) (C := RX6) (T := TX6) (N := 15) hx hb hts inlX6 tyX6 tyX6_ok nmX6 hown hG.K hP hD hS 0 rfl rfl 0 (by decide) (hts _ mF_X6_43) (fun _ h9 => h9) rfl (by decide +kernel) rfl rfl (Nat.le_of_ble_eq_true rfl) dX6_retime_2 (fun H locs hP hD hS => ?_)
  have hP : va_P D cls [oO mo 6 [.int 0, .ref a1, .int (nI nC), .ref a2, .ref a3, .ref a4, .ref a5, .ref a6, .ref a7, .ref a8, .ref a9, .int (nI nS), .ref a10, .int (nI nM), .ref a11]] H := hP
  have hD : va_D A [oO mo 6 [.int 0, .ref a1, .int (nI nC), .ref a2, .ref a3, .ref a4, .ref a5, .ref a6, .ref a7, .ref a8, .ref a9, .int (nI nS), .ref a10, .int (nI nM), .ref a11]] := hD
  refine lv_aload_n hx hb dX6_retime_5 rfl (lv_at hl 0 rfl) ?_
  refine lv_iload_n hx hb dX6_retime_6 rfl (lv_at hl 1 rfl) ?_
  have hP9 := hP
  refine vp_callSi (pV (rest := []) (qc := (RX6, TX6, 15)) [.int x] 1 hC (m_isClip_no l D (mo := mo) (x := x) (th := 0) (a1 := a1) (nC := nC) (a2 := a2) (a3 := a3) (a4 := a4) (a5 := a5) (a6 := a6) (a7 := a7) (a8 := a8) (a9 := a9) (nS := nS) (a10 := a10) (nM := nM) (a11 := a11) (by omega) (hxx)) rfl (hP 0 _ rfl) (gV mM_X6_54 mI_X6_isClip mS_X6_isClip mN_X6 mC_X6_isClip) (by decide +kernel) rfl rfl ⟨Nat.le_of_ble_eq_true rfl, Nat.le_of_ble_eq_true rfl⟩ hG hP9 rfl hl.1 rfl (Nat.le_of_ble_eq_true rfl) dX6_retime_7 ⟨Nat.le_of_ble_eq_true rfl, Nat.le_of_ble_eq_true rfl⟩) (fun r7 h7 => ?_)
  obtain rfl : r7 = 0 := h7
  refine lv_if_ne (tgt := 19) hx hb dX6_retime_10 (by decide) (fun h9 => (h9 (by decide)).elim) (fun _ => ?_)
  refine lv_aload_n hx hb dX6_retime_13 rfl (lv_at hl 0 rfl) ?_
  refine lv_iconst (v := 1) hx hb dX6_retime_14 (by decide) ?_
  have hP9 := hP.sub (ws' := [oO mo 6 [.int 0, .ref a1, .int (nI nC), .ref a2, .ref a3, .ref a4, .ref a5, .ref a6, .ref a7, .ref a8, .ref a9, .int (nI nS), .ref a10, .int (nI nM), .ref a11]]) [0] rfl
  have hD9 := (hD.sub (ws' := [oO mo 6 [.int 0, .ref a1, .int (nI nC), .ref a2, .ref a3, .ref a4, .ref a5, .ref a6, .ref a7, .ref a8, .ref a9, .int (nI nS), .ref a10, .int (nI nM), .ref a11]]) [0] (by decide) rfl).weaken (B := fun _ => True) (fun _ _ _ _ => trivial)
  refine ki (wr := []) (rV (rest := []) (qc := (RX6, TX6, 15)) [.int 1] 1 0 0 hC (m_no l D (mo := mo) (x := 1) (th := 0) (a1 := a1) (nC := nC) (a2 := a2) (a3 := a3) (a4 := a4) (a5 := a5) (a6 := a6) (a7 := a7) (a8 := a8) (a9 := a9) (nS := nS) (a10 := a10) (nM := nM) (a11 := a11) (hz0 := H.size) ) rfl (hP 0 _ rfl) (gV mM_X6_66 mI_X6_no mS_X6_no mN_X6 mC_X6_no) (by decide +kernel) rfl rfl ⟨Nat.le_of_ble_eq_true rfl, Nat.le_of_ble_eq_true rfl⟩ hG hP9 hD9 rfl hl.1 rfl (Nat.le_of_ble_eq_true rfl) dX6_retime_15 ⟨Nat.le_of_ble_eq_true rfl, Nat.le_of_ble_eq_true rfl⟩) hP hD hS hA [0] [] rfl rfl (by decide) (by decide) (fun r15 u15 H locs h15 hP hD hS hz hfr => ?_)
  have hP : va_P D cls [oO mo 6 [.int 1, .ref a1, .int (nI nC), .ref a2, .ref a3, .ref a4, .ref a5, .ref a6, .ref a7, .ref a8, .ref a9, .int (nI nS), .ref a10, .int (nI nM), .ref a11]] H := hP
  have hD : va_D A [oO mo 6 [.int 1, .ref a1, .int (nI nC), .ref a2, .ref a3, .ref a4, .ref a5, .ref a6, .ref a7, .ref a8, .ref a9, .int (nI nS), .ref a10, .int (nI nM), .ref a11]] := hD
  obtain rfl : r15 = 0 := h15
  refine Wi () hx hb hr hlk ?_ hP hD hS (Nat.le_of_ble_eq_true rfl) (by first | exact Nat.le_of_ble_eq_true rfl | exact Nat.le_of_eq (Nat.zero_add _)) dX6_retime_18
  exact rfl
set_option maxHeartbeats 400000 in
set_option maxRecDepth 100000 in
theorem m_retime_2 (l : Launch) (D : va_G) {mo a1 a2 a3 a4 a5 a6 a7 a8 a9 a10 a11 nC nS nM : Nat} {th : Int32} {i : Nat} {p1 q1 : Int32} (hz0 : Nat) (hn : nC ≤ 6) (hi : i < nC) (h : ¬ (((1 : Int32) ≤ p1 ∧ p1 ≤ 20) ∧ ((1 : Int32) ≤ q1 ∧ q1 ≤ 20))) : Met l yX6_retime (ws_ yX6_retime cX6_retime 8 (some .int)) ({ frames := 2, cells := 0, slots := 0, locals := 43 } : Room) (va_Pc [.ref mo, .int (nI i), .int p1, .int q1] (SW D [oO mo 6 [.int th, .ref a1, .int (nI nC), .ref a2, .ref a3, .ref a4, .ref a5, .ref a6, .ref a7, .ref a8, .ref a9, .int (nI nS), .ref a10, .int (nI nM), .ref a11]] hz0)) (va_Qi (fun v _ => v = 0) (AT D (va_A [oO mo 6 [.int th, .ref a1, .int (nI nC), .ref a2, .ref a3, .ref a4, .ref a5, .ref a6, .ref a7, .ref a8, .ref a9, .int (nI nS), .ref a10, .int (nI nM), .ref a11]] hz0) (fun _ : Unit => [oO mo 6 [.int 2, .ref a1, .int (nI nC), .ref a2, .ref a3, .ref a4, .ref a5, .ref a6, .ref a7, .ref a8, .ref a9, .int (nI nS), .ref a10, .int (nI nM), .ref a11]])) (va_A [oO mo 6 [.int th, .ref a1, .int (nI nC), .ref a2, .ref a3, .ref a4, .ref a5, .ref a6, .ref a7, .ref a8, .ref a9, .int (nI nS), .ref a10, .int (nI nM), .ref a11]] hz0)) 0 0 (va_A [oO mo 6 [.int th, .ref a1, .int (nI nC), .ref a2, .ref a3, .ref a4, .ref a5, .ref a6, .ref a7, .ref a8, .ref a9, .int (nI nS), .ref a10, .int (nI nM), .ref a11]] hz0) := by
  refine Met.ofW (cc := cX6_retime) (maxL := 8) (ret := (some .int)) (by decide) rfl ?_
  intro p e s m args below meth c s₁ B hml hv
  obtain ⟨rfl, hsz, hG, hP, hD0⟩ := hv
  have hx := B.exec
  have hb := B.bytes
  have hr := B.returns
  have hts : ∀ w ∈ wsL_law, w.before _ s = true := fun w h => atoms_spec (ws := (ws_ yX6_retime cX6_retime 8 (some .int))) B.pre w (List.mem_cons_of_mem _ h)
  have hown : s.vm.findClass RX6 = some m.cls := findClass_of_methodNamed B.named
  have hlk := B.notSynchronized
  have hC : CallFix p m c cX6_retime 8 s _ wsL_law RX6 := ⟨hx, hb, hml, hown, hts⟩
  subst hsz
  have hD := hD0.self (sz := s.heap.size)
  generalize hAe : va_A [oO mo 6 [.int th, .ref a1, .int (nI nC), .ref a2, .ref a3, .ref a4, .ref a5, .ref a6, .ref a7, .ref a8, .ref a9, .int (nI nS), .ref a10, .int (nI nM), .ref a11]] s.heap.size = A at hD ⊢
  have hA : ∀ q : Nat, s.heap.size ≤ q → A q := fun q h => by rw [← hAe]; exact Or.inr h
  have hS : va_S A s.heap s.heap [] := va_S.rf
  obtain ⟨H, hHe⟩ : ∃ H, H = s.heap := ⟨_, rfl⟩
  rw [← hHe] at hP
  have hS : va_S A s.heap H [] := by rw [hHe]; exact hS
  have hl := lv_entry ([.ref mo, .int (nI i), .int p1, .int q1]) (n := 8) (Nat.le_of_ble_eq_true rfl)
  rw [lg_entry_eq]
  generalize (lg_sl ([.ref mo, .int (nI i), .int p1, .int q1]) ++ List.replicate (8 - (lg_sl ([.ref mo, .int (nI i), .int p1, .int q1])).length) Slot.unset).toArray = ls at hl ⊢
  have hl : lv_has ls 8 [(0, .ref mo), (1, .int (nI i)), (2, .int p1), (3, .int q1)] := hl
  rw [← hHe]
  refine lv_aload_n hx hb dX6_retime_0 rfl (lv_at hl 0 rfl) ?_
  refine lv_iconst (v := 0) hx hb dX6_retime_1 (by decide) ?_
  refine va_put (D := D) (ci := 6) (v := .int 0) (ty := .int) (C := RX6) (T := TX6) (N := 15) hx hb hts inlX6 tyX6 tyX6_ok nmX6 hown hG.K hP hD hS 0 rfl rfl 0 (by decide) (hts _ mF_X6_43) (fun _ h9 => h9) rfl (by decide +kernel) rfl rfl (Nat.le_of_ble_eq_true rfl) dX6_retime_2 (fun H locs hP hD hS => ?_)
  have hP : va_P D cls [oO mo 6 [.int 0, .ref a1, .int (nI nC), .ref a2, .ref a3, .ref a4, .ref a5, .ref a6, .ref a7, .ref a8, .ref a9, .int (nI nS), .ref a10, .int (nI nM), .ref a11]] H := hP
  have hD : va_D A [oO mo 6 [.int 0, .ref a1, .int (nI nC), .ref a2, .ref a3, .ref a4, .ref a5, .ref a6, .ref a7, .ref a8, .ref a9, .int (nI nS), .ref a10, .int (nI nM), .ref a11]] := hD
  refine lv_aload_n hx hb dX6_retime_5 rfl (lv_at hl 0 rfl) ?_
  refine lv_iload_n hx hb dX6_retime_6 rfl (lv_at hl 1 rfl) ?_
  have hP9 := hP
  refine vp_callSi (pV (rest := []) (qc := (RX6, TX6, 15)) [.int (nI i)] 1 hC (m_isClip l D (mo := mo) (i := i) (th := 0) (a1 := a1) (nC := nC) (a2 := a2) (a3 := a3) (a4 := a4) (a5 := a5) (a6 := a6) (a7 := a7) (a8 := a8) (a9 := a9) (nS := nS) (a10 := a10) (nM := nM) (a11 := a11) (by omega) (by omega)) rfl (hP 0 _ rfl) (gV mM_X6_54 mI_X6_isClip mS_X6_isClip mN_X6 mC_X6_isClip) (by decide +kernel) rfl rfl ⟨Nat.le_of_ble_eq_true rfl, Nat.le_of_ble_eq_true rfl⟩ hG hP9 rfl hl.1 rfl (Nat.le_of_ble_eq_true rfl) dX6_retime_7 ⟨Nat.le_of_ble_eq_true rfl, Nat.le_of_ble_eq_true rfl⟩) (fun r7 h7 => ?_)
  obtain rfl : r7 = 1 := h7
  refine lv_if_ne (tgt := 19) hx hb dX6_retime_10 (by decide) (fun _ => ?_) (fun h9 => absurd h9 (by decide))
  refine lv_iload_n hx hb dX6_retime_19 rfl (lv_at hl 2 rfl) ?_
  refine lv_iconst (v := 1) hx hb dX6_retime_20 (by decide) ?_
  refine lv_bipush (v := 20) hx hb dX6_retime_21 (by decide) ?_
  have hP9 : va_P D cls [] H := fun k q h => by simp at h
  refine vp_callSi (pS (rest := []) [.int p1, .int 1, .int 20] 3 hC (m_isIn l D (x := p1) (a := 1) (b := 20) ) (gS mM_X6_50 mT_X6_isIn mN_X6 mC_X6_isIn) (by decide +kernel) rfl rfl ⟨Nat.le_of_ble_eq_true rfl, Nat.le_of_ble_eq_true rfl⟩ hG hP9 rfl hl.1 rfl (Nat.le_of_ble_eq_true rfl) dX6_retime_23 ⟨Nat.le_of_ble_eq_true rfl, Nat.le_of_ble_eq_true rfl⟩) (fun r23 h23 => ?_)
  rcases h23 with ⟨rfl, hb23⟩ | ⟨rfl, hb23⟩
  · skip
    refine lv_if_eq (tgt := 39) hx hb dX6_retime_26 (by decide) (fun h9 => absurd h9 (by decide)) (fun _ => ?_)
    refine lv_iload_n hx hb dX6_retime_29 rfl (lv_at hl 3 rfl) ?_
    refine lv_iconst (v := 1) hx hb dX6_retime_30 (by decide) ?_
    refine lv_bipush (v := 20) hx hb dX6_retime_31 (by decide) ?_
    have hP9 : va_P D cls [] H := fun k q h => by simp at h
    refine vp_callSi (pS (rest := []) [.int q1, .int 1, .int 20] 3 hC (m_isIn l D (x := q1) (a := 1) (b := 20) ) (gS mM_X6_50 mT_X6_isIn mN_X6 mC_X6_isIn) (by decide +kernel) rfl rfl ⟨Nat.le_of_ble_eq_true rfl, Nat.le_of_ble_eq_true rfl⟩ hG hP9 rfl hl.1 rfl (Nat.le_of_ble_eq_true rfl) dX6_retime_33 ⟨Nat.le_of_ble_eq_true rfl, Nat.le_of_ble_eq_true rfl⟩) (fun r33 h33 => ?_)
    rcases h33 with ⟨rfl, hb33⟩ | ⟨rfl, hb33⟩
    · exact absurd hb33 (fun h9 => h ⟨hb23, h9⟩)
    refine lv_if_ne (tgt := 45) hx hb dX6_retime_36 (by decide) (fun h9 => (h9 (by decide)).elim) (fun _ => ?_)
    refine lv_aload_n hx hb dX6_retime_39 rfl (lv_at hl 0 rfl) ?_
    refine lv_iconst (v := 2) hx hb dX6_retime_40 (by decide) ?_
    have hP9 := hP.sub (ws' := [oO mo 6 [.int 0, .ref a1, .int (nI nC), .ref a2, .ref a3, .ref a4, .ref a5, .ref a6, .ref a7, .ref a8, .ref a9, .int (nI nS), .ref a10, .int (nI nM), .ref a11]]) [0] rfl
    have hD9 := (hD.sub (ws' := [oO mo 6 [.int 0, .ref a1, .int (nI nC), .ref a2, .ref a3, .ref a4, .ref a5, .ref a6, .ref a7, .ref a8, .ref a9, .int (nI nS), .ref a10, .int (nI nM), .ref a11]]) [0] (by decide) rfl).weaken (B := fun _ => True) (fun _ _ _ _ => trivial)
    refine ki (wr := []) (rV (rest := []) (qc := (RX6, TX6, 15)) [.int 2] 1 0 0 hC (m_no l D (mo := mo) (x := 2) (th := 0) (a1 := a1) (nC := nC) (a2 := a2) (a3 := a3) (a4 := a4) (a5 := a5) (a6 := a6) (a7 := a7) (a8 := a8) (a9 := a9) (nS := nS) (a10 := a10) (nM := nM) (a11 := a11) (hz0 := H.size) ) rfl (hP 0 _ rfl) (gV mM_X6_66 mI_X6_no mS_X6_no mN_X6 mC_X6_no) (by decide +kernel) rfl rfl ⟨Nat.le_of_ble_eq_true rfl, Nat.le_of_ble_eq_true rfl⟩ hG hP9 hD9 rfl hl.1 rfl (Nat.le_of_ble_eq_true rfl) dX6_retime_41 ⟨Nat.le_of_ble_eq_true rfl, Nat.le_of_ble_eq_true rfl⟩) hP hD hS hA [0] [] rfl rfl (by decide) (by decide) (fun r41 u41 H locs h41 hP hD hS hz hfr => ?_)
    have hP : va_P D cls [oO mo 6 [.int 2, .ref a1, .int (nI nC), .ref a2, .ref a3, .ref a4, .ref a5, .ref a6, .ref a7, .ref a8, .ref a9, .int (nI nS), .ref a10, .int (nI nM), .ref a11]] H := hP
    have hD : va_D A [oO mo 6 [.int 2, .ref a1, .int (nI nC), .ref a2, .ref a3, .ref a4, .ref a5, .ref a6, .ref a7, .ref a8, .ref a9, .int (nI nS), .ref a10, .int (nI nM), .ref a11]] := hD
    obtain rfl : r41 = 0 := h41
    refine Wi () hx hb hr hlk ?_ hP hD hS (Nat.le_of_ble_eq_true rfl) (by first | exact Nat.le_of_ble_eq_true rfl | exact Nat.le_of_eq (Nat.zero_add _)) dX6_retime_44
    exact rfl
  · skip
    refine lv_if_eq (tgt := 39) hx hb dX6_retime_26 (by decide) (fun _ => ?_) (fun h9 => (h9 (by decide)).elim)
    refine lv_aload_n hx hb dX6_retime_39 rfl (lv_at hl 0 rfl) ?_
    refine lv_iconst (v := 2) hx hb dX6_retime_40 (by decide) ?_
    have hP9 := hP.sub (ws' := [oO mo 6 [.int 0, .ref a1, .int (nI nC), .ref a2, .ref a3, .ref a4, .ref a5, .ref a6, .ref a7, .ref a8, .ref a9, .int (nI nS), .ref a10, .int (nI nM), .ref a11]]) [0] rfl
    have hD9 := (hD.sub (ws' := [oO mo 6 [.int 0, .ref a1, .int (nI nC), .ref a2, .ref a3, .ref a4, .ref a5, .ref a6, .ref a7, .ref a8, .ref a9, .int (nI nS), .ref a10, .int (nI nM), .ref a11]]) [0] (by decide) rfl).weaken (B := fun _ => True) (fun _ _ _ _ => trivial)
    refine ki (wr := []) (rV (rest := []) (qc := (RX6, TX6, 15)) [.int 2] 1 0 0 hC (m_no l D (mo := mo) (x := 2) (th := 0) (a1 := a1) (nC := nC) (a2 := a2) (a3 := a3) (a4 := a4) (a5 := a5) (a6 := a6) (a7 := a7) (a8 := a8) (a9 := a9) (nS := nS) (a10 := a10) (nM := nM) (a11 := a11) (hz0 := H.size) ) rfl (hP 0 _ rfl) (gV mM_X6_66 mI_X6_no mS_X6_no mN_X6 mC_X6_no) (by decide +kernel) rfl rfl ⟨Nat.le_of_ble_eq_true rfl, Nat.le_of_ble_eq_true rfl⟩ hG hP9 hD9 rfl hl.1 rfl (Nat.le_of_ble_eq_true rfl) dX6_retime_41 ⟨Nat.le_of_ble_eq_true rfl, Nat.le_of_ble_eq_true rfl⟩) hP hD hS hA [0] [] rfl rfl (by decide) (by decide) (fun r41 u41 H locs h41 hP hD hS hz hfr => ?_)
    have hP : va_P D cls [oO mo 6 [.int 2, .ref a1, .int (nI nC), .ref a2, .ref a3, .ref a4, .ref a5, .ref a6, .ref a7, .ref a8, .ref a9, .int (nI nS), .ref a10, .int (nI nM), .ref a11]] H := hP
    have hD : va_D A [oO mo 6 [.int 2, .ref a1, .int (nI nC), .ref a2, .ref a3, .ref a4, .ref a5, .ref a6, .ref a7, .ref a8, .ref a9, .int (nI nS), .ref a10, .int (nI nM), .ref a11]] := hD
    obtain rfl : r41 = 0 := h41
    refine Wi () hx hb hr hlk ?_ hP hD hS (Nat.le_of_ble_eq_true rfl) (by first | exact Nat.le_of_ble_eq_true rfl | exact Nat.le_of_eq (Nat.zero_add _)) dX6_retime_44
    exact rfl
set_option maxHeartbeats 400000 in
set_option maxRecDepth 100000 in
theorem m_retime_3a (l : Launch) (D : va_G) {mo a1 a2 a3 a4 a5 a6 a7 a8 a9 a10 a11 nC nS nM : Nat} {th : Int32} {ln ks tm : Nat → Int32} {i : Nat} {n : Nat → Nat} {p1 q1 : Int32} (hz0 : Nat) (hn : nC ≤ 6) (hi : i < nC) (h : ((1 : Int32) ≤ p1 ∧ p1 ≤ 20) ∧ ((1 : Int32) ≤ q1 ∧ q1 ≤ 20)) (hth : ¬ ((1 : Int32) ≤ ln i * p1 / q1 ∧ ln i * p1 / q1 ≤ 2000)) (hks : ∀ t, t < 4 → ks (4 * i + t) = nI (n t)) (h16 : ∀ t, t < 4 → n t ≤ 16) : Met l yX6_retime (ws_ yX6_retime cX6_retime 8 (some .int)) ({ frames := 2, cells := 0, slots := 0, locals := 43 } : Room) (va_Pc [.ref mo, .int (nI i), .int p1, .int q1] (SW D [oO mo 6 [.int th, .ref a1, .int (nI nC), .ref a2, .ref a3, .ref a4, .ref a5, .ref a6, .ref a7, .ref a8, .ref a9, .int (nI nS), .ref a10, .int (nI nM), .ref a11], aI D a2 6 ln, aI D a3 24 ks, aI D a4 384 tm] hz0)) (va_Qi (fun v _ => v = 0) (AT D (va_A [oO mo 6 [.int th, .ref a1, .int (nI nC), .ref a2, .ref a3, .ref a4, .ref a5, .ref a6, .ref a7, .ref a8, .ref a9, .int (nI nS), .ref a10, .int (nI nM), .ref a11], aI D a2 6 ln, aI D a3 24 ks, aI D a4 384 tm] hz0) (fun _ : Unit => [oO mo 6 [.int 3, .ref a1, .int (nI nC), .ref a2, .ref a3, .ref a4, .ref a5, .ref a6, .ref a7, .ref a8, .ref a9, .int (nI nS), .ref a10, .int (nI nM), .ref a11], aI D a2 6 ln, aI D a3 24 ks, aI D a4 384 tm])) (va_A [oO mo 6 [.int th, .ref a1, .int (nI nC), .ref a2, .ref a3, .ref a4, .ref a5, .ref a6, .ref a7, .ref a8, .ref a9, .int (nI nS), .ref a10, .int (nI nM), .ref a11], aI D a2 6 ln, aI D a3 24 ks, aI D a4 384 tm] hz0)) 0 0 (va_A [oO mo 6 [.int th, .ref a1, .int (nI nC), .ref a2, .ref a3, .ref a4, .ref a5, .ref a6, .ref a7, .ref a8, .ref a9, .int (nI nS), .ref a10, .int (nI nM), .ref a11], aI D a2 6 ln, aI D a3 24 ks, aI D a4 384 tm] hz0) := by
  refine Met.ofW (cc := cX6_retime) (maxL := 8) (ret := (some .int)) (by decide) rfl ?_
  intro p e s m args below meth c s₁ B hml hv
  obtain ⟨rfl, hsz, hG, hP, hD0⟩ := hv
  have hx := B.exec
  have hb := B.bytes
  have hr := B.returns
  have hts : ∀ w ∈ wsL_law, w.before _ s = true := fun w h => atoms_spec (ws := (ws_ yX6_retime cX6_retime 8 (some .int))) B.pre w (List.mem_cons_of_mem _ h)
  have hown : s.vm.findClass RX6 = some m.cls := findClass_of_methodNamed B.named
  have hlk := B.notSynchronized
  have hC : CallFix p m c cX6_retime 8 s _ wsL_law RX6 := ⟨hx, hb, hml, hown, hts⟩
  subst hsz
  have hD := hD0.self (sz := s.heap.size)
  generalize hAe : va_A [oO mo 6 [.int th, .ref a1, .int (nI nC), .ref a2, .ref a3, .ref a4, .ref a5, .ref a6, .ref a7, .ref a8, .ref a9, .int (nI nS), .ref a10, .int (nI nM), .ref a11], aI D a2 6 ln, aI D a3 24 ks, aI D a4 384 tm] s.heap.size = A at hD ⊢
  have hA : ∀ q : Nat, s.heap.size ≤ q → A q := fun q h => by rw [← hAe]; exact Or.inr h
  have hS : va_S A s.heap s.heap [] := va_S.rf
  obtain ⟨H, hHe⟩ : ∃ H, H = s.heap := ⟨_, rfl⟩
  rw [← hHe] at hP
  have hS : va_S A s.heap H [] := by rw [hHe]; exact hS
  have hl := lv_entry ([.ref mo, .int (nI i), .int p1, .int q1]) (n := 8) (Nat.le_of_ble_eq_true rfl)
  rw [lg_entry_eq]
  generalize (lg_sl ([.ref mo, .int (nI i), .int p1, .int q1]) ++ List.replicate (8 - (lg_sl ([.ref mo, .int (nI i), .int p1, .int q1])).length) Slot.unset).toArray = ls at hl ⊢
  have hl : lv_has ls 8 [(0, .ref mo), (1, .int (nI i)), (2, .int p1), (3, .int q1)] := hl
  rw [← hHe]
  refine lv_aload_n hx hb dX6_retime_0 rfl (lv_at hl 0 rfl) ?_
  refine lv_iconst (v := 0) hx hb dX6_retime_1 (by decide) ?_
  refine va_put (D := D) (ci := 6) (v := .int 0) (ty := .int) (C := RX6) (T := TX6) (N := 15) hx hb hts inlX6 tyX6 tyX6_ok nmX6 hown hG.K hP hD hS 0 rfl rfl 0 (by decide) (hts _ mF_X6_43) (fun _ h9 => h9) rfl (by decide +kernel) rfl rfl (Nat.le_of_ble_eq_true rfl) dX6_retime_2 (fun H locs hP hD hS => ?_)
  have hP : va_P D cls [oO mo 6 [.int 0, .ref a1, .int (nI nC), .ref a2, .ref a3, .ref a4, .ref a5, .ref a6, .ref a7, .ref a8, .ref a9, .int (nI nS), .ref a10, .int (nI nM), .ref a11], aI D a2 6 ln, aI D a3 24 ks, aI D a4 384 tm] H := hP
  have hD : va_D A [oO mo 6 [.int 0, .ref a1, .int (nI nC), .ref a2, .ref a3, .ref a4, .ref a5, .ref a6, .ref a7, .ref a8, .ref a9, .int (nI nS), .ref a10, .int (nI nM), .ref a11], aI D a2 6 ln, aI D a3 24 ks, aI D a4 384 tm] := hD
  refine lv_aload_n hx hb dX6_retime_5 rfl (lv_at hl 0 rfl) ?_
  refine lv_iload_n hx hb dX6_retime_6 rfl (lv_at hl 1 rfl) ?_
  have hP9 := hP.sub (ws' := [oO mo 6 [.int 0, .ref a1, .int (nI nC), .ref a2, .ref a3, .ref a4, .ref a5, .ref a6, .ref a7, .ref a8, .ref a9, .int (nI nS), .ref a10, .int (nI nM), .ref a11]]) [0] rfl
  refine vp_callSi (pV (rest := []) (qc := (RX6, TX6, 15)) [.int (nI i)] 1 hC (m_isClip l D (mo := mo) (i := i) (th := 0) (a1 := a1) (nC := nC) (a2 := a2) (a3 := a3) (a4 := a4) (a5 := a5) (a6 := a6) (a7 := a7) (a8 := a8) (a9 := a9) (nS := nS) (a10 := a10) (nM := nM) (a11 := a11) (by omega) (by omega)) rfl (hP 0 _ rfl) (gV mM_X6_54 mI_X6_isClip mS_X6_isClip mN_X6 mC_X6_isClip) (by decide +kernel) rfl rfl ⟨Nat.le_of_ble_eq_true rfl, Nat.le_of_ble_eq_true rfl⟩ hG hP9 rfl hl.1 rfl (Nat.le_of_ble_eq_true rfl) dX6_retime_7 ⟨Nat.le_of_ble_eq_true rfl, Nat.le_of_ble_eq_true rfl⟩) (fun r7 h7 => ?_)
  obtain rfl : r7 = 1 := h7
  refine lv_if_ne (tgt := 19) hx hb dX6_retime_10 (by decide) (fun _ => ?_) (fun h9 => absurd h9 (by decide))
  refine lv_iload_n hx hb dX6_retime_19 rfl (lv_at hl 2 rfl) ?_
  refine lv_iconst (v := 1) hx hb dX6_retime_20 (by decide) ?_
  refine lv_bipush (v := 20) hx hb dX6_retime_21 (by decide) ?_
  have hP9 : va_P D cls [] H := fun k q h => by simp at h
  refine vp_callSi (pS (rest := []) [.int p1, .int 1, .int 20] 3 hC (m_isIn l D (x := p1) (a := 1) (b := 20) ) (gS mM_X6_50 mT_X6_isIn mN_X6 mC_X6_isIn) (by decide +kernel) rfl rfl ⟨Nat.le_of_ble_eq_true rfl, Nat.le_of_ble_eq_true rfl⟩ hG hP9 rfl hl.1 rfl (Nat.le_of_ble_eq_true rfl) dX6_retime_23 ⟨Nat.le_of_ble_eq_true rfl, Nat.le_of_ble_eq_true rfl⟩) (fun r23 h23 => ?_)
  rcases h23 with ⟨rfl, hb23⟩ | ⟨rfl, hb23⟩
  rotate_left
  · exact absurd (h.1) hb23
  refine lv_if_eq (tgt := 39) hx hb dX6_retime_26 (by decide) (fun h9 => absurd h9 (by decide)) (fun _ => ?_)
  refine lv_iload_n hx hb dX6_retime_29 rfl (lv_at hl 3 rfl) ?_
  refine lv_iconst (v := 1) hx hb dX6_retime_30 (by decide) ?_
  refine lv_bipush (v := 20) hx hb dX6_retime_31 (by decide) ?_
  have hP9 : va_P D cls [] H := fun k q h => by simp at h
  refine vp_callSi (pS (rest := []) [.int q1, .int 1, .int 20] 3 hC (m_isIn l D (x := q1) (a := 1) (b := 20) ) (gS mM_X6_50 mT_X6_isIn mN_X6 mC_X6_isIn) (by decide +kernel) rfl rfl ⟨Nat.le_of_ble_eq_true rfl, Nat.le_of_ble_eq_true rfl⟩ hG hP9 rfl hl.1 rfl (Nat.le_of_ble_eq_true rfl) dX6_retime_33 ⟨Nat.le_of_ble_eq_true rfl, Nat.le_of_ble_eq_true rfl⟩) (fun r33 h33 => ?_)
  rcases h33 with ⟨rfl, hb33⟩ | ⟨rfl, hb33⟩
  rotate_left
  · exact absurd (h.2) hb33
  refine lv_if_ne (tgt := 45) hx hb dX6_retime_36 (by decide) (fun _ => ?_) (fun h9 => absurd h9 (by decide))
  refine lv_aload_n hx hb dX6_retime_45 rfl (lv_at hl 0 rfl) ?_
  refine va_get (D := D) (ci := 6) (v := .ref a2) (C := RX6) (T := TX6) (N := 15) hx hb hts inlX6 hown hG.K hP 0 rfl rfl 3 (by decide) (hts _ mF_X6_13) (fun _ h9 => h9) rfl dX6_retime_46 ?_
  refine lv_iload_n hx hb dX6_retime_49 rfl (lv_at hl 1 rfl) ?_
  refine ild (n := 6) (j := i) hx hb hG hP 1 rfl (by omega) (by omega) dX6_retime_50 ?_
  refine lv_iload_n hx hb dX6_retime_51 rfl (lv_at hl 2 rfl) ?_
  refine lv_imul hx hb dX6_retime_52 ?_
  refine lv_iload_n hx hb dX6_retime_53 rfl (lv_at hl 3 rfl) ?_
  refine lv_idiv hx hb dX6_retime_54 (fun h9 => by rw [h9] at h; exact absurd h.2.1 (by decide)) ?_
  refine lv_istore (lv' := [(4, .int (((ln i) * p1) / q1)), (0, .ref mo), (1, .int (nI i)), (2, .int p1), (3, .int q1)]) hx hb dX6_retime_55 hl (by decide) rfl (fun ls hl => ?_)
  refine lv_iload hx hb dX6_retime_57 (lv_at hl 0 rfl) ?_
  refine lv_iconst (v := 1) hx hb dX6_retime_59 (by decide) ?_
  refine lv_sipush (v := 2000) hx hb dX6_retime_60 (by decide) ?_
  have hP9 : va_P D cls [] H := fun k q h => by simp at h
  refine vp_callSi (pS (rest := []) [.int (((ln i) * p1) / q1), .int 1, .int 2000] 3 hC (m_isIn l D (x := ((ln i) * p1) / q1) (a := 1) (b := 2000) ) (gS mM_X6_50 mT_X6_isIn mN_X6 mC_X6_isIn) (by decide +kernel) rfl rfl ⟨Nat.le_of_ble_eq_true rfl, Nat.le_of_ble_eq_true rfl⟩ hG hP9 rfl hl.1 rfl (Nat.le_of_ble_eq_true rfl) dX6_retime_63 ⟨Nat.le_of_ble_eq_true rfl, Nat.le_of_ble_eq_true rfl⟩) (fun r63 h63 => ?_)
  rcases h63 with ⟨rfl, hb63⟩ | ⟨rfl, hb63⟩
  · exact absurd hb63 (hth)
  refine lv_istore (lv' := [(5, .int 0), (4, .int (((ln i) * p1) / q1)), (0, .ref mo), (1, .int (nI i)), (2, .int p1), (3, .int q1)]) hx hb dX6_retime_66 hl (by decide) rfl (fun ls hl => ?_)
  refine lv_iconst (v := 4) hx hb dX6_retime_68 (by decide) ?_
  refine lv_iload_n hx hb dX6_retime_69 rfl (lv_at hl 3 rfl) ?_
  refine lv_imul hx hb dX6_retime_70 ?_
  refine tpi (y := nI (4 * i)) (pk_mul 4 i) ?_
  refine lv_istore (lv' := [(6, .int (nI (4 * i))), (5, .int 0), (4, .int (((ln i) * p1) / q1)), (0, .ref mo), (1, .int (nI i)), (2, .int p1), (3, .int q1)]) hx hb dX6_retime_71 hl (by decide) rfl (fun ls hl => ?_)
  have loop73 : ∀ (d9 : Nat) (t1 : Nat), (4 - t1) < d9 → (t1 ≤ 4) → ∀ (ls : Array Slot), lv_has ls 8 [(0, .ref mo), (1, .int (nI i)), (2, .int p1), (3, .int q1), (4, .int (ln i * p1 / q1)), (5, .int 0), (6, .int (nI (4 * i + t1)))] → W p l e ({ frames := 2, cells := 0, slots := 0, locals := 43 } : Room) s m ([.ref mo, .int (nI i), .int p1, .int q1] : List Value).toArray below meth c H locs 0 0 (MQ below (va_Qi (fun v _ => v = 0) (AT D A (fun _ : Unit => [oO mo 6 [.int 3, .ref a1, .int (nI nC), .ref a2, .ref a3, .ref a4, .ref a5, .ref a6, .ref a7, .ref a8, .ref a9, .int (nI nS), .ref a10, .int (nI nM), .ref a11], aI D a2 6 ln, aI D a3 24 ks, aI D a4 384 tm])) A) ([.ref mo, .int (nI i), .int p1, .int q1] : List Value).toArray s 0 0 A) (F0 m 73 ls []) := by
    intro d9
    induction d9 with
    | zero => intro t1 hd; exact absurd hd (Nat.not_lt_zero _)
    | succ d9 ih73 =>
      intro t1 hd73 ht1 ls hl
      refine lv_iload hx hb dX6_retime_73 (lv_at hl 6 rfl) ?_
      refine lv_iconst (v := 4) hx hb dX6_retime_75 (by decide) ?_
      refine lv_iload_n hx hb dX6_retime_76 rfl (lv_at hl 1 rfl) ?_
      refine lv_imul hx hb dX6_retime_77 ?_
      refine tpi (y := nI (4 * i)) (pk_mul 4 i) ?_
      refine lv_iconst (v := 4) hx hb dX6_retime_78 (by decide) ?_
      refine lv_iadd hx hb dX6_retime_79 ?_
      refine tpi (y := nI ((4 * i) + 4)) (nI_add (4 * i) 4) ?_
      refine lv_icmp_ge (tgt := 161) hx hb dX6_retime_80 (by decide) (fun c80 => ?_) (fun c80 => ?_)
      · skip
        have n80 := (nI_leI (a := (4 * i) + 4) (b := 4 * i + t1) (by omega) (by omega)).mp c80
        refine lv_iload hx hb dX6_retime_161 (lv_at hl 5 rfl) ?_
        refine lv_if_ne (tgt := 172) hx hb dX6_retime_163 (by decide) (fun h9 => (h9 (by decide)).elim) (fun _ => ?_)
        refine lv_aload_n hx hb dX6_retime_166 rfl (lv_at hl 0 rfl) ?_
        refine lv_iconst (v := 3) hx hb dX6_retime_167 (by decide) ?_
        have hP9 := hP.sub (ws' := [oO mo 6 [.int 0, .ref a1, .int (nI nC), .ref a2, .ref a3, .ref a4, .ref a5, .ref a6, .ref a7, .ref a8, .ref a9, .int (nI nS), .ref a10, .int (nI nM), .ref a11]]) [0] rfl
        have hD9 := (hD.sub (ws' := [oO mo 6 [.int 0, .ref a1, .int (nI nC), .ref a2, .ref a3, .ref a4, .ref a5, .ref a6, .ref a7, .ref a8, .ref a9, .int (nI nS), .ref a10, .int (nI nM), .ref a11]]) [0] (by decide) rfl).weaken (B := fun _ => True) (fun _ _ _ _ => trivial)
        refine ki (wr := [aI D a2 6 ln, aI D a3 24 ks, aI D a4 384 tm]) (rV (rest := []) (qc := (RX6, TX6, 15)) [.int 3] 1 0 0 hC (m_no l D (mo := mo) (x := 3) (th := 0) (a1 := a1) (nC := nC) (a2 := a2) (a3 := a3) (a4 := a4) (a5 := a5) (a6 := a6) (a7 := a7) (a8 := a8) (a9 := a9) (nS := nS) (a10 := a10) (nM := nM) (a11 := a11) (hz0 := H.size) ) rfl (hP 0 _ rfl) (gV mM_X6_66 mI_X6_no mS_X6_no mN_X6 mC_X6_no) (by decide +kernel) rfl rfl ⟨Nat.le_of_ble_eq_true rfl, Nat.le_of_ble_eq_true rfl⟩ hG hP9 hD9 rfl hl.1 rfl (Nat.le_of_ble_eq_true rfl) dX6_retime_168 ⟨Nat.le_of_ble_eq_true rfl, Nat.le_of_ble_eq_true rfl⟩) hP hD hS hA [0] [1, 2, 3] rfl rfl (by decide) (by decide) (fun r168 u168 H locs h168 hP hD hS hz hfr => ?_)
        have hP : va_P D cls [aI D a2 6 ln, aI D a3 24 ks, aI D a4 384 tm, oO mo 6 [.int 3, .ref a1, .int (nI nC), .ref a2, .ref a3, .ref a4, .ref a5, .ref a6, .ref a7, .ref a8, .ref a9, .int (nI nS), .ref a10, .int (nI nM), .ref a11]] H := hP
        have hD : va_D A [aI D a2 6 ln, aI D a3 24 ks, aI D a4 384 tm, oO mo 6 [.int 3, .ref a1, .int (nI nC), .ref a2, .ref a3, .ref a4, .ref a5, .ref a6, .ref a7, .ref a8, .ref a9, .int (nI nS), .ref a10, .int (nI nM), .ref a11]] := hD
        obtain rfl : r168 = 0 := h168
        refine Wi () hx hb hr hlk ?_ (hP.sub [3, 0, 1, 2] rfl) (hD.sub [3, 0, 1, 2] (by decide) rfl) hS (Nat.le_of_ble_eq_true rfl) (by first | exact Nat.le_of_ble_eq_true rfl | exact Nat.le_of_eq (Nat.zero_add _)) dX6_retime_171
        exact rfl
      · skip
        have n80 := mt (nI_leI (a := (4 * i) + 4) (b := 4 * i + t1) (by omega) (by omega)).mpr c80
        have h169 := h16 t1 (by omega)
        refine lv_iload hx hb dX6_retime_83 (lv_at hl 6 rfl) ?_
        have hP9 : va_P D cls [] H := fun k q h => by simp at h
        refine vp_callSi (pS (rest := []) [.int (nI (4 * i + t1))] 1 hC (m_row l D (j := 4 * i + t1) ) (gS mM_X6_78 mT_X6_row mN_X6 mC_X6_row) (by decide +kernel) rfl rfl ⟨Nat.le_of_ble_eq_true rfl, Nat.le_of_ble_eq_true rfl⟩ hG hP9 rfl hl.1 rfl (Nat.le_of_ble_eq_true rfl) dX6_retime_85 ⟨Nat.le_of_ble_eq_true rfl, Nat.le_of_ble_eq_true rfl⟩) (fun r85 h85 => ?_)
        obtain rfl : r85 = (nI (16 * (4 * i + t1))) := h85
        refine lv_istore (lv' := [(7, .int (nI (16 * (4 * i + t1)))), (0, .ref mo), (1, .int (nI i)), (2, .int p1), (3, .int q1), (4, .int (ln i * p1 / q1)), (5, .int 0), (6, .int (nI (4 * i + t1)))]) hx hb dX6_retime_88 hl (by decide) rfl (fun ls hl => ?_)
        have loop90 : ∀ (d9 : Nat) (r1 : Nat), (n t1 - r1) < d9 → (r1 ≤ 16) → ∀ (ls : Array Slot), lv_has ls 8 [(0, .ref mo), (1, .int (nI i)), (2, .int p1), (3, .int q1), (4, .int (ln i * p1 / q1)), (5, .int 0), (6, .int (nI (4 * i + t1))), (7, .int (nI (16 * (4 * i + t1) + r1)))] → W p l e ({ frames := 2, cells := 0, slots := 0, locals := 43 } : Room) s m ([.ref mo, .int (nI i), .int p1, .int q1] : List Value).toArray below meth c H locs 0 0 (MQ below (va_Qi (fun v _ => v = 0) (AT D A (fun _ : Unit => [oO mo 6 [.int 3, .ref a1, .int (nI nC), .ref a2, .ref a3, .ref a4, .ref a5, .ref a6, .ref a7, .ref a8, .ref a9, .int (nI nS), .ref a10, .int (nI nM), .ref a11], aI D a2 6 ln, aI D a3 24 ks, aI D a4 384 tm])) A) ([.ref mo, .int (nI i), .int p1, .int q1] : List Value).toArray s 0 0 A) (F0 m 90 ls []) := by
          intro d9
          induction d9 with
          | zero => intro r1 hd; exact absurd hd (Nat.not_lt_zero _)
          | succ d9 ih90 =>
            intro r1 hd90 hr1 ls hl
            have h169 := h16 t1 (by omega)
            refine lv_iload hx hb dX6_retime_90 (lv_at hl 7 rfl) ?_
            refine lv_iconst (v := 1) hx hb dX6_retime_92 (by decide) ?_
            refine lv_iadd hx hb dX6_retime_93 ?_
            refine tpi (y := nI ((16 * (4 * i + t1) + r1) + 1)) (nI_add (16 * (4 * i + t1) + r1) 1) ?_
            refine lv_iload hx hb dX6_retime_94 (lv_at hl 6 rfl) ?_
            have hP9 : va_P D cls [] H := fun k q h => by simp at h
            refine vp_callSi (pS (rest := [.int (nI ((16 * (4 * i + t1) + r1) + 1))]) [.int (nI (4 * i + t1))] 1 hC (m_row l D (j := 4 * i + t1) ) (gS mM_X6_78 mT_X6_row mN_X6 mC_X6_row) (by decide +kernel) rfl rfl ⟨Nat.le_of_ble_eq_true rfl, Nat.le_of_ble_eq_true rfl⟩ hG hP9 rfl hl.1 rfl (Nat.le_of_ble_eq_true rfl) dX6_retime_96 ⟨Nat.le_of_ble_eq_true rfl, Nat.le_of_ble_eq_true rfl⟩) (fun r96 h96 => ?_)
            obtain rfl : r96 = (nI (16 * (4 * i + t1))) := h96
            refine lv_aload_n hx hb dX6_retime_99 rfl (lv_at hl 0 rfl) ?_
            refine va_get (D := D) (ci := 6) (v := .ref a3) (C := RX6) (T := TX6) (N := 15) hx hb hts inlX6 hown hG.K hP 0 rfl rfl 4 (by decide) (hts _ mF_X6_16) (fun _ h9 => h9) rfl dX6_retime_100 ?_
            refine lv_iload hx hb dX6_retime_103 (lv_at hl 6 rfl) ?_
            refine ild (n := 24) (j := 4 * i + t1) hx hb hG hP 2 rfl (by omega) (by omega) dX6_retime_105 ?_
            refine tpi (y := nI (n t1)) (hks t1 (by omega)) ?_
            refine lv_iadd hx hb dX6_retime_106 ?_
            refine tpi (y := nI ((16 * (4 * i + t1)) + (n t1))) (nI_add (16 * (4 * i + t1)) (n t1)) ?_
            refine lv_icmp_ge (tgt := 155) hx hb dX6_retime_107 (by decide) (fun c107 => ?_) (fun c107 => ?_)
            · skip
              have n107 := (nI_leI (a := (16 * (4 * i + t1)) + (n t1)) (b := (16 * (4 * i + t1) + r1) + 1) (by omega) (by omega)).mp c107
              refine lv_iinc (v := nI (4 * i + t1 + 1)) (lv' := [(6, .int (nI (4 * i + t1 + 1))), (0, .ref mo), (1, .int (nI i)), (2, .int p1), (3, .int q1), (4, .int (ln i * p1 / q1)), (5, .int 0), (7, .int (nI (16 * (4 * i + t1) + r1)))]) hx hb dX6_retime_155 hl (k := 6) rfl (nI_1 _) (by decide) rfl (fun ls hl => ?_)
              refine lv_goto (tgt := 73) hx hb dX6_retime_158 (by decide) ?_
              exact ih73 (t1 + 1) (by omega) (by omega) _ (lv_sub hl [1, 2, 3, 4, 5, 6, 0] rfl)
            · skip
              have n107 := mt (nI_leI (a := (16 * (4 * i + t1)) + (n t1)) (b := (16 * (4 * i + t1) + r1) + 1) (by omega) (by omega)).mpr c107
              refine lv_iload hx hb dX6_retime_110 (lv_at hl 5 rfl) ?_
              refine lv_if_eq (tgt := 146) hx hb dX6_retime_112 (by decide) (fun _ => ?_) (fun h9 => (h9 (by decide)).elim)
              refine lv_iconst (v := 0) hx hb dX6_retime_146 (by decide) ?_
              refine lv_istore (lv' := [(5, .int 0), (0, .ref mo), (1, .int (nI i)), (2, .int p1), (3, .int q1), (4, .int (ln i * p1 / q1)), (6, .int (nI (4 * i + t1))), (7, .int (nI (16 * (4 * i + t1) + r1)))]) hx hb dX6_retime_147 hl (by decide) rfl (fun ls hl => ?_)
              refine lv_iinc (v := nI (16 * (4 * i + t1) + r1 + 1)) (lv' := [(7, .int (nI (16 * (4 * i + t1) + r1 + 1))), (5, .int 0), (0, .ref mo), (1, .int (nI i)), (2, .int p1), (3, .int q1), (4, .int (ln i * p1 / q1)), (6, .int (nI (4 * i + t1)))]) hx hb dX6_retime_149 hl (k := 7) rfl (nI_1 _) (by decide) rfl (fun ls hl => ?_)
              refine lv_goto (tgt := 90) hx hb dX6_retime_152 (by decide) ?_
              exact ih90 (r1 + 1) (by omega) (by omega) _ (lv_sub hl [2, 3, 4, 5, 6, 1, 7, 0] rfl)
        exact loop90 _ 0 (Nat.lt_succ_self _) (by omega) _ (lv_sub hl [1, 2, 3, 4, 5, 6, 7, 0] rfl)
  exact loop73 _ 0 (Nat.lt_succ_self _) (by omega) _ (lv_sub hl [3, 4, 5, 6, 2, 1, 0] rfl)
set_option maxHeartbeats 400000 in
set_option maxRecDepth 100000 in
theorem m_retime_3b (l : Launch) (D : va_G) {mo a1 a2 a3 a4 a5 a6 a7 a8 a9 a10 a11 nC nS nM : Nat} {th : Int32} {ln ks tm : Nat → Int32} {i : Nat} {n : Nat → Nat} {p1 q1 : Int32} {j0 k0 : Nat} (hz0 : Nat) (hn : nC ≤ 6) (hi : i < nC) (h : ((1 : Int32) ≤ p1 ∧ p1 ≤ 20) ∧ ((1 : Int32) ≤ q1 ∧ q1 ≤ 20)) (hth : (1 : Int32) ≤ ln i * p1 / q1 ∧ ln i * p1 / q1 ≤ 2000) (hks : ∀ t, t < 4 → ks (4 * i + t) = nI (n t)) (h16 : ∀ t, t < 4 → n t ≤ 16) (hj0 : j0 < 4) (hk0 : k0 + 1 < n j0) (hno : ¬ tm (16 * (4 * i + j0) + k0) * p1 / q1 < tm (16 * (4 * i + j0) + k0 + 1) * p1 / q1) : Met l yX6_retime (ws_ yX6_retime cX6_retime 8 (some .int)) ({ frames := 2, cells := 0, slots := 0, locals := 43 } : Room) (va_Pc [.ref mo, .int (nI i), .int p1, .int q1] (SW D [oO mo 6 [.int th, .ref a1, .int (nI nC), .ref a2, .ref a3, .ref a4, .ref a5, .ref a6, .ref a7, .ref a8, .ref a9, .int (nI nS), .ref a10, .int (nI nM), .ref a11], aI D a2 6 ln, aI D a3 24 ks, aI D a4 384 tm] hz0)) (va_Qi (fun v _ => v = 0) (AT D (va_A [oO mo 6 [.int th, .ref a1, .int (nI nC), .ref a2, .ref a3, .ref a4, .ref a5, .ref a6, .ref a7, .ref a8, .ref a9, .int (nI nS), .ref a10, .int (nI nM), .ref a11], aI D a2 6 ln, aI D a3 24 ks, aI D a4 384 tm] hz0) (fun _ : Unit => [oO mo 6 [.int 3, .ref a1, .int (nI nC), .ref a2, .ref a3, .ref a4, .ref a5, .ref a6, .ref a7, .ref a8, .ref a9, .int (nI nS), .ref a10, .int (nI nM), .ref a11], aI D a2 6 ln, aI D a3 24 ks, aI D a4 384 tm])) (va_A [oO mo 6 [.int th, .ref a1, .int (nI nC), .ref a2, .ref a3, .ref a4, .ref a5, .ref a6, .ref a7, .ref a8, .ref a9, .int (nI nS), .ref a10, .int (nI nM), .ref a11], aI D a2 6 ln, aI D a3 24 ks, aI D a4 384 tm] hz0)) 0 0 (va_A [oO mo 6 [.int th, .ref a1, .int (nI nC), .ref a2, .ref a3, .ref a4, .ref a5, .ref a6, .ref a7, .ref a8, .ref a9, .int (nI nS), .ref a10, .int (nI nM), .ref a11], aI D a2 6 ln, aI D a3 24 ks, aI D a4 384 tm] hz0) := by
  refine Met.ofW (cc := cX6_retime) (maxL := 8) (ret := (some .int)) (by decide) rfl ?_
  intro p e s m args below meth c s₁ B hml hv
  obtain ⟨rfl, hsz, hG, hP, hD0⟩ := hv
  have hx := B.exec
  have hb := B.bytes
  have hr := B.returns
  have hts : ∀ w ∈ wsL_law, w.before _ s = true := fun w h => atoms_spec (ws := (ws_ yX6_retime cX6_retime 8 (some .int))) B.pre w (List.mem_cons_of_mem _ h)
  have hown : s.vm.findClass RX6 = some m.cls := findClass_of_methodNamed B.named
  have hlk := B.notSynchronized
  have hC : CallFix p m c cX6_retime 8 s _ wsL_law RX6 := ⟨hx, hb, hml, hown, hts⟩
  subst hsz
  have hD := hD0.self (sz := s.heap.size)
  generalize hAe : va_A [oO mo 6 [.int th, .ref a1, .int (nI nC), .ref a2, .ref a3, .ref a4, .ref a5, .ref a6, .ref a7, .ref a8, .ref a9, .int (nI nS), .ref a10, .int (nI nM), .ref a11], aI D a2 6 ln, aI D a3 24 ks, aI D a4 384 tm] s.heap.size = A at hD ⊢
  have hA : ∀ q : Nat, s.heap.size ≤ q → A q := fun q h => by rw [← hAe]; exact Or.inr h
  have hS : va_S A s.heap s.heap [] := va_S.rf
  obtain ⟨H, hHe⟩ : ∃ H, H = s.heap := ⟨_, rfl⟩
  rw [← hHe] at hP
  have hS : va_S A s.heap H [] := by rw [hHe]; exact hS
  have hl := lv_entry ([.ref mo, .int (nI i), .int p1, .int q1]) (n := 8) (Nat.le_of_ble_eq_true rfl)
  rw [lg_entry_eq]
  generalize (lg_sl ([.ref mo, .int (nI i), .int p1, .int q1]) ++ List.replicate (8 - (lg_sl ([.ref mo, .int (nI i), .int p1, .int q1])).length) Slot.unset).toArray = ls at hl ⊢
  have hl : lv_has ls 8 [(0, .ref mo), (1, .int (nI i)), (2, .int p1), (3, .int q1)] := hl
  rw [← hHe]
  refine lv_aload_n hx hb dX6_retime_0 rfl (lv_at hl 0 rfl) ?_
  refine lv_iconst (v := 0) hx hb dX6_retime_1 (by decide) ?_
  refine va_put (D := D) (ci := 6) (v := .int 0) (ty := .int) (C := RX6) (T := TX6) (N := 15) hx hb hts inlX6 tyX6 tyX6_ok nmX6 hown hG.K hP hD hS 0 rfl rfl 0 (by decide) (hts _ mF_X6_43) (fun _ h9 => h9) rfl (by decide +kernel) rfl rfl (Nat.le_of_ble_eq_true rfl) dX6_retime_2 (fun H locs hP hD hS => ?_)
  have hP : va_P D cls [oO mo 6 [.int 0, .ref a1, .int (nI nC), .ref a2, .ref a3, .ref a4, .ref a5, .ref a6, .ref a7, .ref a8, .ref a9, .int (nI nS), .ref a10, .int (nI nM), .ref a11], aI D a2 6 ln, aI D a3 24 ks, aI D a4 384 tm] H := hP
  have hD : va_D A [oO mo 6 [.int 0, .ref a1, .int (nI nC), .ref a2, .ref a3, .ref a4, .ref a5, .ref a6, .ref a7, .ref a8, .ref a9, .int (nI nS), .ref a10, .int (nI nM), .ref a11], aI D a2 6 ln, aI D a3 24 ks, aI D a4 384 tm] := hD
  refine lv_aload_n hx hb dX6_retime_5 rfl (lv_at hl 0 rfl) ?_
  refine lv_iload_n hx hb dX6_retime_6 rfl (lv_at hl 1 rfl) ?_
  have hP9 := hP.sub (ws' := [oO mo 6 [.int 0, .ref a1, .int (nI nC), .ref a2, .ref a3, .ref a4, .ref a5, .ref a6, .ref a7, .ref a8, .ref a9, .int (nI nS), .ref a10, .int (nI nM), .ref a11]]) [0] rfl
  refine vp_callSi (pV (rest := []) (qc := (RX6, TX6, 15)) [.int (nI i)] 1 hC (m_isClip l D (mo := mo) (i := i) (th := 0) (a1 := a1) (nC := nC) (a2 := a2) (a3 := a3) (a4 := a4) (a5 := a5) (a6 := a6) (a7 := a7) (a8 := a8) (a9 := a9) (nS := nS) (a10 := a10) (nM := nM) (a11 := a11) (by omega) (by omega)) rfl (hP 0 _ rfl) (gV mM_X6_54 mI_X6_isClip mS_X6_isClip mN_X6 mC_X6_isClip) (by decide +kernel) rfl rfl ⟨Nat.le_of_ble_eq_true rfl, Nat.le_of_ble_eq_true rfl⟩ hG hP9 rfl hl.1 rfl (Nat.le_of_ble_eq_true rfl) dX6_retime_7 ⟨Nat.le_of_ble_eq_true rfl, Nat.le_of_ble_eq_true rfl⟩) (fun r7 h7 => ?_)
  obtain rfl : r7 = 1 := h7
  refine lv_if_ne (tgt := 19) hx hb dX6_retime_10 (by decide) (fun _ => ?_) (fun h9 => absurd h9 (by decide))
  refine lv_iload_n hx hb dX6_retime_19 rfl (lv_at hl 2 rfl) ?_
  refine lv_iconst (v := 1) hx hb dX6_retime_20 (by decide) ?_
  refine lv_bipush (v := 20) hx hb dX6_retime_21 (by decide) ?_
  have hP9 : va_P D cls [] H := fun k q h => by simp at h
  refine vp_callSi (pS (rest := []) [.int p1, .int 1, .int 20] 3 hC (m_isIn l D (x := p1) (a := 1) (b := 20) ) (gS mM_X6_50 mT_X6_isIn mN_X6 mC_X6_isIn) (by decide +kernel) rfl rfl ⟨Nat.le_of_ble_eq_true rfl, Nat.le_of_ble_eq_true rfl⟩ hG hP9 rfl hl.1 rfl (Nat.le_of_ble_eq_true rfl) dX6_retime_23 ⟨Nat.le_of_ble_eq_true rfl, Nat.le_of_ble_eq_true rfl⟩) (fun r23 h23 => ?_)
  rcases h23 with ⟨rfl, hb23⟩ | ⟨rfl, hb23⟩
  rotate_left
  · exact absurd (h.1) hb23
  refine lv_if_eq (tgt := 39) hx hb dX6_retime_26 (by decide) (fun h9 => absurd h9 (by decide)) (fun _ => ?_)
  refine lv_iload_n hx hb dX6_retime_29 rfl (lv_at hl 3 rfl) ?_
  refine lv_iconst (v := 1) hx hb dX6_retime_30 (by decide) ?_
  refine lv_bipush (v := 20) hx hb dX6_retime_31 (by decide) ?_
  have hP9 : va_P D cls [] H := fun k q h => by simp at h
  refine vp_callSi (pS (rest := []) [.int q1, .int 1, .int 20] 3 hC (m_isIn l D (x := q1) (a := 1) (b := 20) ) (gS mM_X6_50 mT_X6_isIn mN_X6 mC_X6_isIn) (by decide +kernel) rfl rfl ⟨Nat.le_of_ble_eq_true rfl, Nat.le_of_ble_eq_true rfl⟩ hG hP9 rfl hl.1 rfl (Nat.le_of_ble_eq_true rfl) dX6_retime_33 ⟨Nat.le_of_ble_eq_true rfl, Nat.le_of_ble_eq_true rfl⟩) (fun r33 h33 => ?_)
  rcases h33 with ⟨rfl, hb33⟩ | ⟨rfl, hb33⟩
  rotate_left
  · exact absurd (h.2) hb33
  refine lv_if_ne (tgt := 45) hx hb dX6_retime_36 (by decide) (fun _ => ?_) (fun h9 => absurd h9 (by decide))
  refine lv_aload_n hx hb dX6_retime_45 rfl (lv_at hl 0 rfl) ?_
  refine va_get (D := D) (ci := 6) (v := .ref a2) (C := RX6) (T := TX6) (N := 15) hx hb hts inlX6 hown hG.K hP 0 rfl rfl 3 (by decide) (hts _ mF_X6_13) (fun _ h9 => h9) rfl dX6_retime_46 ?_
  refine lv_iload_n hx hb dX6_retime_49 rfl (lv_at hl 1 rfl) ?_
  refine ild (n := 6) (j := i) hx hb hG hP 1 rfl (by omega) (by omega) dX6_retime_50 ?_
  refine lv_iload_n hx hb dX6_retime_51 rfl (lv_at hl 2 rfl) ?_
  refine lv_imul hx hb dX6_retime_52 ?_
  refine lv_iload_n hx hb dX6_retime_53 rfl (lv_at hl 3 rfl) ?_
  refine lv_idiv hx hb dX6_retime_54 (fun h9 => by rw [h9] at h; exact absurd h.2.1 (by decide)) ?_
  refine lv_istore (lv' := [(4, .int (((ln i) * p1) / q1)), (0, .ref mo), (1, .int (nI i)), (2, .int p1), (3, .int q1)]) hx hb dX6_retime_55 hl (by decide) rfl (fun ls hl => ?_)
  refine lv_iload hx hb dX6_retime_57 (lv_at hl 0 rfl) ?_
  refine lv_iconst (v := 1) hx hb dX6_retime_59 (by decide) ?_
  refine lv_sipush (v := 2000) hx hb dX6_retime_60 (by decide) ?_
  have hP9 : va_P D cls [] H := fun k q h => by simp at h
  refine vp_callSi (pS (rest := []) [.int (((ln i) * p1) / q1), .int 1, .int 2000] 3 hC (m_isIn l D (x := ((ln i) * p1) / q1) (a := 1) (b := 2000) ) (gS mM_X6_50 mT_X6_isIn mN_X6 mC_X6_isIn) (by decide +kernel) rfl rfl ⟨Nat.le_of_ble_eq_true rfl, Nat.le_of_ble_eq_true rfl⟩ hG hP9 rfl hl.1 rfl (Nat.le_of_ble_eq_true rfl) dX6_retime_63 ⟨Nat.le_of_ble_eq_true rfl, Nat.le_of_ble_eq_true rfl⟩) (fun r63 h63 => ?_)
  rcases h63 with ⟨rfl, hb63⟩ | ⟨rfl, hb63⟩
  rotate_left
  · exact absurd (hth) hb63
  refine lv_istore (lv' := [(5, .int 1), (4, .int (((ln i) * p1) / q1)), (0, .ref mo), (1, .int (nI i)), (2, .int p1), (3, .int q1)]) hx hb dX6_retime_66 hl (by decide) rfl (fun ls hl => ?_)
  refine lv_iconst (v := 4) hx hb dX6_retime_68 (by decide) ?_
  refine lv_iload_n hx hb dX6_retime_69 rfl (lv_at hl 3 rfl) ?_
  refine lv_imul hx hb dX6_retime_70 ?_
  refine tpi (y := nI (4 * i)) (pk_mul 4 i) ?_
  refine lv_istore (lv' := [(6, .int (nI (4 * i))), (5, .int 1), (4, .int (((ln i) * p1) / q1)), (0, .ref mo), (1, .int (nI i)), (2, .int p1), (3, .int q1)]) hx hb dX6_retime_71 hl (by decide) rfl (fun ls hl => ?_)
  have loop73 : ∀ (d9 : Nat) (t1 : Nat) (cv : Int32), (4 - t1) < d9 → (t1 ≤ 4) → (j0 < t1 → cv = 0) → ∀ (ls : Array Slot), lv_has ls 8 [(0, .ref mo), (1, .int (nI i)), (2, .int p1), (3, .int q1), (4, .int (ln i * p1 / q1)), (5, .int cv), (6, .int (nI (4 * i + t1)))] → W p l e ({ frames := 2, cells := 0, slots := 0, locals := 43 } : Room) s m ([.ref mo, .int (nI i), .int p1, .int q1] : List Value).toArray below meth c H locs 0 0 (MQ below (va_Qi (fun v _ => v = 0) (AT D A (fun _ : Unit => [oO mo 6 [.int 3, .ref a1, .int (nI nC), .ref a2, .ref a3, .ref a4, .ref a5, .ref a6, .ref a7, .ref a8, .ref a9, .int (nI nS), .ref a10, .int (nI nM), .ref a11], aI D a2 6 ln, aI D a3 24 ks, aI D a4 384 tm])) A) ([.ref mo, .int (nI i), .int p1, .int q1] : List Value).toArray s 0 0 A) (F0 m 73 ls []) := by
    intro d9
    induction d9 with
    | zero => intro t1 cv hd; exact absurd hd (Nat.not_lt_zero _)
    | succ d9 ih73 =>
      intro t1 cv hd73 ht1 hcv ls hl
      refine lv_iload hx hb dX6_retime_73 (lv_at hl 6 rfl) ?_
      refine lv_iconst (v := 4) hx hb dX6_retime_75 (by decide) ?_
      refine lv_iload_n hx hb dX6_retime_76 rfl (lv_at hl 1 rfl) ?_
      refine lv_imul hx hb dX6_retime_77 ?_
      refine tpi (y := nI (4 * i)) (pk_mul 4 i) ?_
      refine lv_iconst (v := 4) hx hb dX6_retime_78 (by decide) ?_
      refine lv_iadd hx hb dX6_retime_79 ?_
      refine tpi (y := nI ((4 * i) + 4)) (nI_add (4 * i) 4) ?_
      refine lv_icmp_ge (tgt := 161) hx hb dX6_retime_80 (by decide) (fun c80 => ?_) (fun c80 => ?_)
      · skip
        have n80 := (nI_leI (a := (4 * i) + 4) (b := 4 * i + t1) (by omega) (by omega)).mp c80
        refine lv_iload hx hb dX6_retime_161 (lv_at hl 5 rfl) ?_
        refine lv_if_ne (tgt := 172) hx hb dX6_retime_163 (by decide) (fun c163 => absurd (hcv (by omega)) c163) (fun c163 => ?_)
        refine lv_aload_n hx hb dX6_retime_166 rfl (lv_at hl 0 rfl) ?_
        refine lv_iconst (v := 3) hx hb dX6_retime_167 (by decide) ?_
        have hP9 := hP.sub (ws' := [oO mo 6 [.int 0, .ref a1, .int (nI nC), .ref a2, .ref a3, .ref a4, .ref a5, .ref a6, .ref a7, .ref a8, .ref a9, .int (nI nS), .ref a10, .int (nI nM), .ref a11]]) [0] rfl
        have hD9 := (hD.sub (ws' := [oO mo 6 [.int 0, .ref a1, .int (nI nC), .ref a2, .ref a3, .ref a4, .ref a5, .ref a6, .ref a7, .ref a8, .ref a9, .int (nI nS), .ref a10, .int (nI nM), .ref a11]]) [0] (by decide) rfl).weaken (B := fun _ => True) (fun _ _ _ _ => trivial)
        refine ki (wr := [aI D a2 6 ln, aI D a3 24 ks, aI D a4 384 tm]) (rV (rest := []) (qc := (RX6, TX6, 15)) [.int 3] 1 0 0 hC (m_no l D (mo := mo) (x := 3) (th := 0) (a1 := a1) (nC := nC) (a2 := a2) (a3 := a3) (a4 := a4) (a5 := a5) (a6 := a6) (a7 := a7) (a8 := a8) (a9 := a9) (nS := nS) (a10 := a10) (nM := nM) (a11 := a11) (hz0 := H.size) ) rfl (hP 0 _ rfl) (gV mM_X6_66 mI_X6_no mS_X6_no mN_X6 mC_X6_no) (by decide +kernel) rfl rfl ⟨Nat.le_of_ble_eq_true rfl, Nat.le_of_ble_eq_true rfl⟩ hG hP9 hD9 rfl hl.1 rfl (Nat.le_of_ble_eq_true rfl) dX6_retime_168 ⟨Nat.le_of_ble_eq_true rfl, Nat.le_of_ble_eq_true rfl⟩) hP hD hS hA [0] [1, 2, 3] rfl rfl (by decide) (by decide) (fun r168 u168 H locs h168 hP hD hS hz hfr => ?_)
        have hP : va_P D cls [aI D a2 6 ln, aI D a3 24 ks, aI D a4 384 tm, oO mo 6 [.int 3, .ref a1, .int (nI nC), .ref a2, .ref a3, .ref a4, .ref a5, .ref a6, .ref a7, .ref a8, .ref a9, .int (nI nS), .ref a10, .int (nI nM), .ref a11]] H := hP
        have hD : va_D A [aI D a2 6 ln, aI D a3 24 ks, aI D a4 384 tm, oO mo 6 [.int 3, .ref a1, .int (nI nC), .ref a2, .ref a3, .ref a4, .ref a5, .ref a6, .ref a7, .ref a8, .ref a9, .int (nI nS), .ref a10, .int (nI nM), .ref a11]] := hD
        obtain rfl : r168 = 0 := h168
        refine Wi () hx hb hr hlk ?_ (hP.sub [3, 0, 1, 2] rfl) (hD.sub [3, 0, 1, 2] (by decide) rfl) hS (Nat.le_of_ble_eq_true rfl) (by first | exact Nat.le_of_ble_eq_true rfl | exact Nat.le_of_eq (Nat.zero_add _)) dX6_retime_171
        exact rfl
      · skip
        have n80 := mt (nI_leI (a := (4 * i) + 4) (b := 4 * i + t1) (by omega) (by omega)).mpr c80
        have h169 := h16 t1 (by omega)
        refine lv_iload hx hb dX6_retime_83 (lv_at hl 6 rfl) ?_
        have hP9 : va_P D cls [] H := fun k q h => by simp at h
        refine vp_callSi (pS (rest := []) [.int (nI (4 * i + t1))] 1 hC (m_row l D (j := 4 * i + t1) ) (gS mM_X6_78 mT_X6_row mN_X6 mC_X6_row) (by decide +kernel) rfl rfl ⟨Nat.le_of_ble_eq_true rfl, Nat.le_of_ble_eq_true rfl⟩ hG hP9 rfl hl.1 rfl (Nat.le_of_ble_eq_true rfl) dX6_retime_85 ⟨Nat.le_of_ble_eq_true rfl, Nat.le_of_ble_eq_true rfl⟩) (fun r85 h85 => ?_)
        obtain rfl : r85 = (nI (16 * (4 * i + t1))) := h85
        refine lv_istore (lv' := [(7, .int (nI (16 * (4 * i + t1)))), (0, .ref mo), (1, .int (nI i)), (2, .int p1), (3, .int q1), (4, .int (ln i * p1 / q1)), (5, .int cv), (6, .int (nI (4 * i + t1)))]) hx hb dX6_retime_88 hl (by decide) rfl (fun ls hl => ?_)
        have loop90 : ∀ (d9 : Nat) (r1 : Nat) (cw : Int32), (n t1 - r1) < d9 → (r1 ≤ 16) → (j0 < t1 ∨ (j0 = t1 ∧ k0 < r1) → cw = 0) → ∀ (ls : Array Slot), lv_has ls 8 [(0, .ref mo), (1, .int (nI i)), (2, .int p1), (3, .int q1), (4, .int (ln i * p1 / q1)), (5, .int cw), (6, .int (nI (4 * i + t1))), (7, .int (nI (16 * (4 * i + t1) + r1)))] → W p l e ({ frames := 2, cells := 0, slots := 0, locals := 43 } : Room) s m ([.ref mo, .int (nI i), .int p1, .int q1] : List Value).toArray below meth c H locs 0 0 (MQ below (va_Qi (fun v _ => v = 0) (AT D A (fun _ : Unit => [oO mo 6 [.int 3, .ref a1, .int (nI nC), .ref a2, .ref a3, .ref a4, .ref a5, .ref a6, .ref a7, .ref a8, .ref a9, .int (nI nS), .ref a10, .int (nI nM), .ref a11], aI D a2 6 ln, aI D a3 24 ks, aI D a4 384 tm])) A) ([.ref mo, .int (nI i), .int p1, .int q1] : List Value).toArray s 0 0 A) (F0 m 90 ls []) := by
          intro d9
          induction d9 with
          | zero => intro r1 cw hd; exact absurd hd (Nat.not_lt_zero _)
          | succ d9 ih90 =>
            intro r1 cw hd90 hr1 hcw ls hl
            have h169 := h16 t1 (by omega)
            refine lv_iload hx hb dX6_retime_90 (lv_at hl 7 rfl) ?_
            refine lv_iconst (v := 1) hx hb dX6_retime_92 (by decide) ?_
            refine lv_iadd hx hb dX6_retime_93 ?_
            refine tpi (y := nI ((16 * (4 * i + t1) + r1) + 1)) (nI_add (16 * (4 * i + t1) + r1) 1) ?_
            refine lv_iload hx hb dX6_retime_94 (lv_at hl 6 rfl) ?_
            have hP9 : va_P D cls [] H := fun k q h => by simp at h
            refine vp_callSi (pS (rest := [.int (nI ((16 * (4 * i + t1) + r1) + 1))]) [.int (nI (4 * i + t1))] 1 hC (m_row l D (j := 4 * i + t1) ) (gS mM_X6_78 mT_X6_row mN_X6 mC_X6_row) (by decide +kernel) rfl rfl ⟨Nat.le_of_ble_eq_true rfl, Nat.le_of_ble_eq_true rfl⟩ hG hP9 rfl hl.1 rfl (Nat.le_of_ble_eq_true rfl) dX6_retime_96 ⟨Nat.le_of_ble_eq_true rfl, Nat.le_of_ble_eq_true rfl⟩) (fun r96 h96 => ?_)
            obtain rfl : r96 = (nI (16 * (4 * i + t1))) := h96
            refine lv_aload_n hx hb dX6_retime_99 rfl (lv_at hl 0 rfl) ?_
            refine va_get (D := D) (ci := 6) (v := .ref a3) (C := RX6) (T := TX6) (N := 15) hx hb hts inlX6 hown hG.K hP 0 rfl rfl 4 (by decide) (hts _ mF_X6_16) (fun _ h9 => h9) rfl dX6_retime_100 ?_
            refine lv_iload hx hb dX6_retime_103 (lv_at hl 6 rfl) ?_
            refine ild (n := 24) (j := 4 * i + t1) hx hb hG hP 2 rfl (by omega) (by omega) dX6_retime_105 ?_
            refine tpi (y := nI (n t1)) (hks t1 (by omega)) ?_
            refine lv_iadd hx hb dX6_retime_106 ?_
            refine tpi (y := nI ((16 * (4 * i + t1)) + (n t1))) (nI_add (16 * (4 * i + t1)) (n t1)) ?_
            refine lv_icmp_ge (tgt := 155) hx hb dX6_retime_107 (by decide) (fun c107 => ?_) (fun c107 => ?_)
            · skip
              have n107 := (nI_leI (a := (16 * (4 * i + t1)) + (n t1)) (b := (16 * (4 * i + t1) + r1) + 1) (by omega) (by omega)).mp c107
              refine lv_iinc (v := nI (4 * i + t1 + 1)) (lv' := [(6, .int (nI (4 * i + t1 + 1))), (0, .ref mo), (1, .int (nI i)), (2, .int p1), (3, .int q1), (4, .int (ln i * p1 / q1)), (5, .int cw), (7, .int (nI (16 * (4 * i + t1) + r1)))]) hx hb dX6_retime_155 hl (k := 6) rfl (nI_1 _) (by decide) rfl (fun ls hl => ?_)
              refine lv_goto (tgt := 73) hx hb dX6_retime_158 (by decide) ?_
              exact ih73 (t1 + 1) cw (by omega) (by omega) (fun h9 => hcw (by
                          rcases Nat.lt_or_ge j0 t1 with q9 | q9
                          · exact Or.inl q9
                          · have e9 : j0 = t1 := by omega
                            have k9 := hk0
                            rw [e9] at k9
                            exact Or.inr ⟨e9, by omega⟩)) _ (lv_sub hl [1, 2, 3, 4, 5, 6, 0] rfl)
            · skip
              have n107 := mt (nI_leI (a := (16 * (4 * i + t1)) + (n t1)) (b := (16 * (4 * i + t1) + r1) + 1) (by omega) (by omega)).mpr c107
              refine lv_iload hx hb dX6_retime_110 (lv_at hl 5 rfl) ?_
              refine lv_if_eq (tgt := 146) hx hb dX6_retime_112 (by decide) (fun c112 => ?_) (fun c112 => ?_)
              · skip
                refine lv_iconst (v := 0) hx hb dX6_retime_146 (by decide) ?_
                refine lv_istore (lv' := [(5, .int 0), (0, .ref mo), (1, .int (nI i)), (2, .int p1), (3, .int q1), (4, .int (ln i * p1 / q1)), (6, .int (nI (4 * i + t1))), (7, .int (nI (16 * (4 * i + t1) + r1)))]) hx hb dX6_retime_147 hl (by decide) rfl (fun ls hl => ?_)
                refine lv_iinc (v := nI (16 * (4 * i + t1) + r1 + 1)) (lv' := [(7, .int (nI (16 * (4 * i + t1) + r1 + 1))), (5, .int 0), (0, .ref mo), (1, .int (nI i)), (2, .int p1), (3, .int q1), (4, .int (ln i * p1 / q1)), (6, .int (nI (4 * i + t1)))]) hx hb dX6_retime_149 hl (k := 7) rfl (nI_1 _) (by decide) rfl (fun ls hl => ?_)
                refine lv_goto (tgt := 90) hx hb dX6_retime_152 (by decide) ?_
                exact ih90 (r1 + 1) 0 (by omega) (by omega) (fun _ => rfl) _ (lv_sub hl [2, 3, 4, 5, 6, 1, 7, 0] rfl)
              · skip
                refine lv_aload_n hx hb dX6_retime_115 rfl (lv_at hl 0 rfl) ?_
                refine va_get (D := D) (ci := 6) (v := .ref a4) (C := RX6) (T := TX6) (N := 15) hx hb hts inlX6 hown hG.K hP 0 rfl rfl 5 (by decide) (hts _ mF_X6_19) (fun _ h9 => h9) rfl dX6_retime_116 ?_
                refine lv_iload hx hb dX6_retime_119 (lv_at hl 7 rfl) ?_
                refine ild (n := 384) (j := 16 * (4 * i + t1) + r1) hx hb hG hP 3 rfl (by omega) (by omega) dX6_retime_121 ?_
                refine lv_iload_n hx hb dX6_retime_122 rfl (lv_at hl 2 rfl) ?_
                refine lv_imul hx hb dX6_retime_123 ?_
                refine lv_iload_n hx hb dX6_retime_124 rfl (lv_at hl 3 rfl) ?_
                refine lv_idiv hx hb dX6_retime_125 (fun h9 => by rw [h9] at h; exact absurd h.2.1 (by decide)) ?_
                refine lv_aload_n hx hb dX6_retime_126 rfl (lv_at hl 0 rfl) ?_
                refine va_get (D := D) (ci := 6) (v := .ref a4) (C := RX6) (T := TX6) (N := 15) hx hb hts inlX6 hown hG.K hP 0 rfl rfl 5 (by decide) (hts _ mF_X6_19) (fun _ h9 => h9) rfl dX6_retime_127 ?_
                refine lv_iload hx hb dX6_retime_130 (lv_at hl 7 rfl) ?_
                refine lv_iconst (v := 1) hx hb dX6_retime_132 (by decide) ?_
                refine lv_iadd hx hb dX6_retime_133 ?_
                refine tpi (y := nI ((16 * (4 * i + t1) + r1) + 1)) (nI_add (16 * (4 * i + t1) + r1) 1) ?_
                refine ild (n := 384) (j := (16 * (4 * i + t1) + r1) + 1) hx hb hG hP 3 rfl (by omega) (by omega) dX6_retime_134 ?_
                refine lv_iload_n hx hb dX6_retime_135 rfl (lv_at hl 2 rfl) ?_
                refine lv_imul hx hb dX6_retime_136 ?_
                refine lv_iload_n hx hb dX6_retime_137 rfl (lv_at hl 3 rfl) ?_
                refine lv_idiv hx hb dX6_retime_138 (fun h9 => by rw [h9] at h; exact absurd h.2.1 (by decide)) ?_
                refine lv_icmp_ge (tgt := 146) hx hb dX6_retime_139 (by decide) (fun c139 => ?_) (fun c139 => ?_)
                · skip
                  refine lv_iconst (v := 0) hx hb dX6_retime_146 (by decide) ?_
                  refine lv_istore (lv' := [(5, .int 0), (0, .ref mo), (1, .int (nI i)), (2, .int p1), (3, .int q1), (4, .int (ln i * p1 / q1)), (6, .int (nI (4 * i + t1))), (7, .int (nI (16 * (4 * i + t1) + r1)))]) hx hb dX6_retime_147 hl (by decide) rfl (fun ls hl => ?_)
                  refine lv_iinc (v := nI (16 * (4 * i + t1) + r1 + 1)) (lv' := [(7, .int (nI (16 * (4 * i + t1) + r1 + 1))), (5, .int 0), (0, .ref mo), (1, .int (nI i)), (2, .int p1), (3, .int q1), (4, .int (ln i * p1 / q1)), (6, .int (nI (4 * i + t1)))]) hx hb dX6_retime_149 hl (k := 7) rfl (nI_1 _) (by decide) rfl (fun ls hl => ?_)
                  refine lv_goto (tgt := 90) hx hb dX6_retime_152 (by decide) ?_
                  exact ih90 (r1 + 1) 0 (by omega) (by omega) (fun _ => rfl) _ (lv_sub hl [2, 3, 4, 5, 6, 1, 7, 0] rfl)
                · skip
                  refine lv_iconst (v := 1) hx hb dX6_retime_142 (by decide) ?_
                  refine lv_goto (tgt := 147) hx hb dX6_retime_143 (by decide) ?_
                  refine lv_istore (lv' := [(5, .int 1), (0, .ref mo), (1, .int (nI i)), (2, .int p1), (3, .int q1), (4, .int (ln i * p1 / q1)), (6, .int (nI (4 * i + t1))), (7, .int (nI (16 * (4 * i + t1) + r1)))]) hx hb dX6_retime_147 hl (by decide) rfl (fun ls hl => ?_)
                  refine lv_iinc (v := nI (16 * (4 * i + t1) + r1 + 1)) (lv' := [(7, .int (nI (16 * (4 * i + t1) + r1 + 1))), (5, .int 1), (0, .ref mo), (1, .int (nI i)), (2, .int p1), (3, .int q1), (4, .int (ln i * p1 / q1)), (6, .int (nI (4 * i + t1)))]) hx hb dX6_retime_149 hl (k := 7) rfl (nI_1 _) (by decide) rfl (fun ls hl => ?_)
                  refine lv_goto (tgt := 90) hx hb dX6_retime_152 (by decide) ?_
                  exact ih90 (r1 + 1) 1 (by omega) (by omega) (fun h9 => by
                                      by_cases q9 : j0 < t1 ∨ (j0 = t1 ∧ k0 < r1)
                                      · exact absurd (hcw q9) c112
                                      · exfalso
                                        have e1 : j0 = t1 := by omega
                                        have e2 : k0 = r1 := by omega
                                        rw [e1, e2] at hno
                                        exact hno (Int32.not_le.mp c139)) _ (lv_sub hl [2, 3, 4, 5, 6, 1, 7, 0] rfl)
        exact loop90 _ 0 cv (Nat.lt_succ_self _) (by omega) (fun h9 => hcv (by omega)) _ (lv_sub hl [1, 2, 3, 4, 5, 6, 7, 0] rfl)
  exact loop73 _ 0 1 (Nat.lt_succ_self _) (by omega) (fun h9 => by omega) _ (lv_sub hl [3, 4, 5, 6, 2, 1, 0] rfl)
set_option maxHeartbeats 400000 in
set_option maxRecDepth 100000 in
theorem m_retime (l : Launch) (D : va_G) {mo a1 a2 a3 a4 a5 a6 a7 a8 a9 a10 a11 nC nS nM : Nat} {th : Int32} {ln ks tm qs qt : Nat → Int32} {i d : Nat} {n : Nat → Nat} {p1 q1 : Int32} (hz0 : Nat) (hn : nC ≤ 6) (hi : i < nC) (h : ((1 : Int32) ≤ p1 ∧ p1 ≤ 20) ∧ ((1 : Int32) ≤ q1 ∧ q1 ≤ 20)) (hth : (1 : Int32) ≤ ln i * p1 / q1 ∧ ln i * p1 / q1 ≤ 2000) (hks : ∀ t, t < 4 → ks (4 * i + t) = nI (n t)) (h16 : ∀ t, t < 4 → n t ≤ 16) (hcan : ∀ t, t < 4 → ∀ k, k + 1 < n t → tm (16 * (4 * i + t) + k) * p1 / q1 < tm (16 * (4 * i + t) + k + 1) * p1 / q1) (hqs : qs i = nI d) (h8 : d ≤ 8) : Met l yX6_retime (ws_ yX6_retime cX6_retime 8 (some .int)) ({ frames := 2, cells := 0, slots := 0, locals := 43 } : Room) (va_Pc [.ref mo, .int (nI i), .int p1, .int q1] (SW D [oO mo 6 [.int th, .ref a1, .int (nI nC), .ref a2, .ref a3, .ref a4, .ref a5, .ref a6, .ref a7, .ref a8, .ref a9, .int (nI nS), .ref a10, .int (nI nM), .ref a11], aI D a2 6 ln, aI D a3 24 ks, aI D a4 384 tm, aI D a7 6 qs, aI D a8 48 qt] hz0)) (va_Qi (fun v _ => v = ln i * p1 / q1) (AT D (va_A [oO mo 6 [.int th, .ref a1, .int (nI nC), .ref a2, .ref a3, .ref a4, .ref a5, .ref a6, .ref a7, .ref a8, .ref a9, .int (nI nS), .ref a10, .int (nI nM), .ref a11], aI D a2 6 ln, aI D a3 24 ks, aI D a4 384 tm, aI D a7 6 qs, aI D a8 48 qt] hz0) (fun _ : Unit => [oO mo 6 [.int 0, .ref a1, .int (nI nC), .ref a2, .ref a3, .ref a4, .ref a5, .ref a6, .ref a7, .ref a8, .ref a9, .int (nI nS), .ref a10, .int (nI nM), .ref a11], aI D a2 6 (upd ln i (ln i * p1 / q1)), aI D a3 24 ks, aI D a4 384 (rtF tm n i p1 q1 (16 * (4 * i + 4))), aI D a7 6 qs, aI D a8 48 (qtF qt i p1 q1 (8 * i + d))])) (va_A [oO mo 6 [.int th, .ref a1, .int (nI nC), .ref a2, .ref a3, .ref a4, .ref a5, .ref a6, .ref a7, .ref a8, .ref a9, .int (nI nS), .ref a10, .int (nI nM), .ref a11], aI D a2 6 ln, aI D a3 24 ks, aI D a4 384 tm, aI D a7 6 qs, aI D a8 48 qt] hz0)) 0 0 (va_A [oO mo 6 [.int th, .ref a1, .int (nI nC), .ref a2, .ref a3, .ref a4, .ref a5, .ref a6, .ref a7, .ref a8, .ref a9, .int (nI nS), .ref a10, .int (nI nM), .ref a11], aI D a2 6 ln, aI D a3 24 ks, aI D a4 384 tm, aI D a7 6 qs, aI D a8 48 qt] hz0) := by
  refine Met.ofW (cc := cX6_retime) (maxL := 8) (ret := (some .int)) (by decide) rfl ?_
  intro p e s m args below meth c s₁ B hml hv
  obtain ⟨rfl, hsz, hG, hP, hD0⟩ := hv
  have hx := B.exec
  have hb := B.bytes
  have hr := B.returns
  have hts : ∀ w ∈ wsL_law, w.before _ s = true := fun w h => atoms_spec (ws := (ws_ yX6_retime cX6_retime 8 (some .int))) B.pre w (List.mem_cons_of_mem _ h)
  have hown : s.vm.findClass RX6 = some m.cls := findClass_of_methodNamed B.named
  have hlk := B.notSynchronized
  have hC : CallFix p m c cX6_retime 8 s _ wsL_law RX6 := ⟨hx, hb, hml, hown, hts⟩
  subst hsz
  have hD := hD0.self (sz := s.heap.size)
  generalize hAe : va_A [oO mo 6 [.int th, .ref a1, .int (nI nC), .ref a2, .ref a3, .ref a4, .ref a5, .ref a6, .ref a7, .ref a8, .ref a9, .int (nI nS), .ref a10, .int (nI nM), .ref a11], aI D a2 6 ln, aI D a3 24 ks, aI D a4 384 tm, aI D a7 6 qs, aI D a8 48 qt] s.heap.size = A at hD ⊢
  have hA : ∀ q : Nat, s.heap.size ≤ q → A q := fun q h => by rw [← hAe]; exact Or.inr h
  have hS : va_S A s.heap s.heap [] := va_S.rf
  obtain ⟨H, hHe⟩ : ∃ H, H = s.heap := ⟨_, rfl⟩
  rw [← hHe] at hP
  have hS : va_S A s.heap H [] := by rw [hHe]; exact hS
  have hl := lv_entry ([.ref mo, .int (nI i), .int p1, .int q1]) (n := 8) (Nat.le_of_ble_eq_true rfl)
  rw [lg_entry_eq]
  generalize (lg_sl ([.ref mo, .int (nI i), .int p1, .int q1]) ++ List.replicate (8 - (lg_sl ([.ref mo, .int (nI i), .int p1, .int q1])).length) Slot.unset).toArray = ls at hl ⊢
  have hl : lv_has ls 8 [(0, .ref mo), (1, .int (nI i)), (2, .int p1), (3, .int q1)] := hl
  rw [← hHe]
  refine lv_aload_n hx hb dX6_retime_0 rfl (lv_at hl 0 rfl) ?_
  refine lv_iconst (v := 0) hx hb dX6_retime_1 (by decide) ?_
  refine va_put (D := D) (ci := 6) (v := .int 0) (ty := .int) (C := RX6) (T := TX6) (N := 15) hx hb hts inlX6 tyX6 tyX6_ok nmX6 hown hG.K hP hD hS 0 rfl rfl 0 (by decide) (hts _ mF_X6_43) (fun _ h9 => h9) rfl (by decide +kernel) rfl rfl (Nat.le_of_ble_eq_true rfl) dX6_retime_2 (fun H locs hP hD hS => ?_)
  have hP : va_P D cls [oO mo 6 [.int 0, .ref a1, .int (nI nC), .ref a2, .ref a3, .ref a4, .ref a5, .ref a6, .ref a7, .ref a8, .ref a9, .int (nI nS), .ref a10, .int (nI nM), .ref a11], aI D a2 6 ln, aI D a3 24 ks, aI D a4 384 tm, aI D a7 6 qs, aI D a8 48 qt] H := hP
  have hD : va_D A [oO mo 6 [.int 0, .ref a1, .int (nI nC), .ref a2, .ref a3, .ref a4, .ref a5, .ref a6, .ref a7, .ref a8, .ref a9, .int (nI nS), .ref a10, .int (nI nM), .ref a11], aI D a2 6 ln, aI D a3 24 ks, aI D a4 384 tm, aI D a7 6 qs, aI D a8 48 qt] := hD
  refine lv_aload_n hx hb dX6_retime_5 rfl (lv_at hl 0 rfl) ?_
  refine lv_iload_n hx hb dX6_retime_6 rfl (lv_at hl 1 rfl) ?_
  have hP9 := hP.sub (ws' := [oO mo 6 [.int 0, .ref a1, .int (nI nC), .ref a2, .ref a3, .ref a4, .ref a5, .ref a6, .ref a7, .ref a8, .ref a9, .int (nI nS), .ref a10, .int (nI nM), .ref a11]]) [0] rfl
  refine vp_callSi (pV (rest := []) (qc := (RX6, TX6, 15)) [.int (nI i)] 1 hC (m_isClip l D (mo := mo) (i := i) (th := 0) (a1 := a1) (nC := nC) (a2 := a2) (a3 := a3) (a4 := a4) (a5 := a5) (a6 := a6) (a7 := a7) (a8 := a8) (a9 := a9) (nS := nS) (a10 := a10) (nM := nM) (a11 := a11) (by omega) (by omega)) rfl (hP 0 _ rfl) (gV mM_X6_54 mI_X6_isClip mS_X6_isClip mN_X6 mC_X6_isClip) (by decide +kernel) rfl rfl ⟨Nat.le_of_ble_eq_true rfl, Nat.le_of_ble_eq_true rfl⟩ hG hP9 rfl hl.1 rfl (Nat.le_of_ble_eq_true rfl) dX6_retime_7 ⟨Nat.le_of_ble_eq_true rfl, Nat.le_of_ble_eq_true rfl⟩) (fun r7 h7 => ?_)
  obtain rfl : r7 = 1 := h7
  refine lv_if_ne (tgt := 19) hx hb dX6_retime_10 (by decide) (fun _ => ?_) (fun h9 => absurd h9 (by decide))
  refine lv_iload_n hx hb dX6_retime_19 rfl (lv_at hl 2 rfl) ?_
  refine lv_iconst (v := 1) hx hb dX6_retime_20 (by decide) ?_
  refine lv_bipush (v := 20) hx hb dX6_retime_21 (by decide) ?_
  have hP9 : va_P D cls [] H := fun k q h => by simp at h
  refine vp_callSi (pS (rest := []) [.int p1, .int 1, .int 20] 3 hC (m_isIn l D (x := p1) (a := 1) (b := 20) ) (gS mM_X6_50 mT_X6_isIn mN_X6 mC_X6_isIn) (by decide +kernel) rfl rfl ⟨Nat.le_of_ble_eq_true rfl, Nat.le_of_ble_eq_true rfl⟩ hG hP9 rfl hl.1 rfl (Nat.le_of_ble_eq_true rfl) dX6_retime_23 ⟨Nat.le_of_ble_eq_true rfl, Nat.le_of_ble_eq_true rfl⟩) (fun r23 h23 => ?_)
  rcases h23 with ⟨rfl, hb23⟩ | ⟨rfl, hb23⟩
  rotate_left
  · exact absurd (h.1) hb23
  refine lv_if_eq (tgt := 39) hx hb dX6_retime_26 (by decide) (fun h9 => absurd h9 (by decide)) (fun _ => ?_)
  refine lv_iload_n hx hb dX6_retime_29 rfl (lv_at hl 3 rfl) ?_
  refine lv_iconst (v := 1) hx hb dX6_retime_30 (by decide) ?_
  refine lv_bipush (v := 20) hx hb dX6_retime_31 (by decide) ?_
  have hP9 : va_P D cls [] H := fun k q h => by simp at h
  refine vp_callSi (pS (rest := []) [.int q1, .int 1, .int 20] 3 hC (m_isIn l D (x := q1) (a := 1) (b := 20) ) (gS mM_X6_50 mT_X6_isIn mN_X6 mC_X6_isIn) (by decide +kernel) rfl rfl ⟨Nat.le_of_ble_eq_true rfl, Nat.le_of_ble_eq_true rfl⟩ hG hP9 rfl hl.1 rfl (Nat.le_of_ble_eq_true rfl) dX6_retime_33 ⟨Nat.le_of_ble_eq_true rfl, Nat.le_of_ble_eq_true rfl⟩) (fun r33 h33 => ?_)
  rcases h33 with ⟨rfl, hb33⟩ | ⟨rfl, hb33⟩
  rotate_left
  · exact absurd (h.2) hb33
  refine lv_if_ne (tgt := 45) hx hb dX6_retime_36 (by decide) (fun _ => ?_) (fun h9 => absurd h9 (by decide))
  refine lv_aload_n hx hb dX6_retime_45 rfl (lv_at hl 0 rfl) ?_
  refine va_get (D := D) (ci := 6) (v := .ref a2) (C := RX6) (T := TX6) (N := 15) hx hb hts inlX6 hown hG.K hP 0 rfl rfl 3 (by decide) (hts _ mF_X6_13) (fun _ h9 => h9) rfl dX6_retime_46 ?_
  refine lv_iload_n hx hb dX6_retime_49 rfl (lv_at hl 1 rfl) ?_
  refine ild (n := 6) (j := i) hx hb hG hP 1 rfl (by omega) (by omega) dX6_retime_50 ?_
  refine lv_iload_n hx hb dX6_retime_51 rfl (lv_at hl 2 rfl) ?_
  refine lv_imul hx hb dX6_retime_52 ?_
  refine lv_iload_n hx hb dX6_retime_53 rfl (lv_at hl 3 rfl) ?_
  refine lv_idiv hx hb dX6_retime_54 (fun h9 => by rw [h9] at h; exact absurd h.2.1 (by decide)) ?_
  refine lv_istore (lv' := [(4, .int (((ln i) * p1) / q1)), (0, .ref mo), (1, .int (nI i)), (2, .int p1), (3, .int q1)]) hx hb dX6_retime_55 hl (by decide) rfl (fun ls hl => ?_)
  refine lv_iload hx hb dX6_retime_57 (lv_at hl 0 rfl) ?_
  refine lv_iconst (v := 1) hx hb dX6_retime_59 (by decide) ?_
  refine lv_sipush (v := 2000) hx hb dX6_retime_60 (by decide) ?_
  have hP9 : va_P D cls [] H := fun k q h => by simp at h
  refine vp_callSi (pS (rest := []) [.int (((ln i) * p1) / q1), .int 1, .int 2000] 3 hC (m_isIn l D (x := ((ln i) * p1) / q1) (a := 1) (b := 2000) ) (gS mM_X6_50 mT_X6_isIn mN_X6 mC_X6_isIn) (by decide +kernel) rfl rfl ⟨Nat.le_of_ble_eq_true rfl, Nat.le_of_ble_eq_true rfl⟩ hG hP9 rfl hl.1 rfl (Nat.le_of_ble_eq_true rfl) dX6_retime_63 ⟨Nat.le_of_ble_eq_true rfl, Nat.le_of_ble_eq_true rfl⟩) (fun r63 h63 => ?_)
  rcases h63 with ⟨rfl, hb63⟩ | ⟨rfl, hb63⟩
  rotate_left
  · exact absurd (hth) hb63
  refine lv_istore (lv' := [(5, .int 1), (4, .int (((ln i) * p1) / q1)), (0, .ref mo), (1, .int (nI i)), (2, .int p1), (3, .int q1)]) hx hb dX6_retime_66 hl (by decide) rfl (fun ls hl => ?_)
  refine lv_iconst (v := 4) hx hb dX6_retime_68 (by decide) ?_
  refine lv_iload_n hx hb dX6_retime_69 rfl (lv_at hl 3 rfl) ?_
  refine lv_imul hx hb dX6_retime_70 ?_
  refine tpi (y := nI (4 * i)) (pk_mul 4 i) ?_
  refine lv_istore (lv' := [(6, .int (nI (4 * i))), (5, .int 1), (4, .int (((ln i) * p1) / q1)), (0, .ref mo), (1, .int (nI i)), (2, .int p1), (3, .int q1)]) hx hb dX6_retime_71 hl (by decide) rfl (fun ls hl => ?_)
  have loop73 : ∀ (d9 : Nat) (t1 : Nat), (4 - t1) < d9 → (t1 ≤ 4) → ∀ (ls : Array Slot), lv_has ls 8 [(0, .ref mo), (1, .int (nI i)), (2, .int p1), (3, .int q1), (4, .int (ln i * p1 / q1)), (5, .int 1), (6, .int (nI (4 * i + t1)))] → W p l e ({ frames := 2, cells := 0, slots := 0, locals := 43 } : Room) s m ([.ref mo, .int (nI i), .int p1, .int q1] : List Value).toArray below meth c H locs 0 0 (MQ below (va_Qi (fun v _ => v = ln i * p1 / q1) (AT D A (fun _ : Unit => [oO mo 6 [.int 0, .ref a1, .int (nI nC), .ref a2, .ref a3, .ref a4, .ref a5, .ref a6, .ref a7, .ref a8, .ref a9, .int (nI nS), .ref a10, .int (nI nM), .ref a11], aI D a2 6 (upd ln i (ln i * p1 / q1)), aI D a3 24 ks, aI D a4 384 (rtF tm n i p1 q1 (16 * (4 * i + 4))), aI D a7 6 qs, aI D a8 48 (qtF qt i p1 q1 (8 * i + d))])) A) ([.ref mo, .int (nI i), .int p1, .int q1] : List Value).toArray s 0 0 A) (F0 m 73 ls []) := by
    intro d9
    induction d9 with
    | zero => intro t1 hd; exact absurd hd (Nat.not_lt_zero _)
    | succ d9 ih73 =>
      intro t1 hd73 ht1 ls hl
      refine lv_iload hx hb dX6_retime_73 (lv_at hl 6 rfl) ?_
      refine lv_iconst (v := 4) hx hb dX6_retime_75 (by decide) ?_
      refine lv_iload_n hx hb dX6_retime_76 rfl (lv_at hl 1 rfl) ?_
      refine lv_imul hx hb dX6_retime_77 ?_
      refine tpi (y := nI (4 * i)) (pk_mul 4 i) ?_
      refine lv_iconst (v := 4) hx hb dX6_retime_78 (by decide) ?_
      refine lv_iadd hx hb dX6_retime_79 ?_
      refine tpi (y := nI ((4 * i) + 4)) (nI_add (4 * i) 4) ?_
      refine lv_icmp_ge (tgt := 161) hx hb dX6_retime_80 (by decide) (fun c80 => ?_) (fun c80 => ?_)
      · skip
        have n80 := (nI_leI (a := (4 * i) + 4) (b := 4 * i + t1) (by omega) (by omega)).mp c80
        refine lv_iload hx hb dX6_retime_161 (lv_at hl 5 rfl) ?_
        refine lv_if_ne (tgt := 172) hx hb dX6_retime_163 (by decide) (fun _ => ?_) (fun h9 => absurd h9 (by decide))
        refine lv_iconst (v := 4) hx hb dX6_retime_172 (by decide) ?_
        refine lv_iload_n hx hb dX6_retime_173 rfl (lv_at hl 1 rfl) ?_
        refine lv_imul hx hb dX6_retime_174 ?_
        refine tpi (y := nI (4 * i)) (pk_mul 4 i) ?_
        refine lv_istore (lv' := [(6, .int (nI (4 * i))), (0, .ref mo), (1, .int (nI i)), (2, .int p1), (3, .int q1), (4, .int (ln i * p1 / q1)), (5, .int 1)]) hx hb dX6_retime_175 hl (by decide) rfl (fun ls hl => ?_)
        have loop177 : ∀ (d9 : Nat) (t2 : Nat), (4 - t2) < d9 → (t2 ≤ 4) → ∀ (H : Heap) (locs : List Loc) (ls : Array Slot), va_P D cls [oO mo 6 [.int 0, .ref a1, .int (nI nC), .ref a2, .ref a3, .ref a4, .ref a5, .ref a6, .ref a7, .ref a8, .ref a9, .int (nI nS), .ref a10, .int (nI nM), .ref a11], aI D a2 6 ln, aI D a3 24 ks, aI D a4 384 (rtF tm n i p1 q1 (16 * (4 * i + t2))), aI D a7 6 qs, aI D a8 48 qt] H → va_D A [oO mo 6 [.int 0, .ref a1, .int (nI nC), .ref a2, .ref a3, .ref a4, .ref a5, .ref a6, .ref a7, .ref a8, .ref a9, .int (nI nS), .ref a10, .int (nI nM), .ref a11], aI D a2 6 ln, aI D a3 24 ks, aI D a4 384 (rtF tm n i p1 q1 (16 * (4 * i + t2))), aI D a7 6 qs, aI D a8 48 qt] → va_S A s.heap H locs → lv_has ls 8 [(0, .ref mo), (1, .int (nI i)), (2, .int p1), (3, .int q1), (4, .int (ln i * p1 / q1)), (5, .int 1), (6, .int (nI (4 * i + t2)))] → W p l e ({ frames := 2, cells := 0, slots := 0, locals := 43 } : Room) s m ([.ref mo, .int (nI i), .int p1, .int q1] : List Value).toArray below meth c H locs 0 0 (MQ below (va_Qi (fun v _ => v = ln i * p1 / q1) (AT D A (fun _ : Unit => [oO mo 6 [.int 0, .ref a1, .int (nI nC), .ref a2, .ref a3, .ref a4, .ref a5, .ref a6, .ref a7, .ref a8, .ref a9, .int (nI nS), .ref a10, .int (nI nM), .ref a11], aI D a2 6 (upd ln i (ln i * p1 / q1)), aI D a3 24 ks, aI D a4 384 (rtF tm n i p1 q1 (16 * (4 * i + 4))), aI D a7 6 qs, aI D a8 48 (qtF qt i p1 q1 (8 * i + d))])) A) ([.ref mo, .int (nI i), .int p1, .int q1] : List Value).toArray s 0 0 A) (F0 m 177 ls []) := by
          intro d9
          induction d9 with
          | zero => intro t2 hd; exact absurd hd (Nat.not_lt_zero _)
          | succ d9 ih177 =>
            intro t2 hd177 ht2 H locs ls hP hD hS hl
            refine lv_iload hx hb dX6_retime_177 (lv_at hl 6 rfl) ?_
            refine lv_iconst (v := 4) hx hb dX6_retime_179 (by decide) ?_
            refine lv_iload_n hx hb dX6_retime_180 rfl (lv_at hl 1 rfl) ?_
            refine lv_imul hx hb dX6_retime_181 ?_
            refine tpi (y := nI (4 * i)) (pk_mul 4 i) ?_
            refine lv_iconst (v := 4) hx hb dX6_retime_182 (by decide) ?_
            refine lv_iadd hx hb dX6_retime_183 ?_
            refine tpi (y := nI ((4 * i) + 4)) (nI_add (4 * i) 4) ?_
            refine lv_icmp_ge (tgt := 242) hx hb dX6_retime_184 (by decide) (fun c184 => ?_) (fun c184 => ?_)
            · skip
              have n184 := (nI_leI (a := (4 * i) + 4) (b := 4 * i + t2) (by omega) (by omega)).mp c184
              have hk9 : t2 = 4 := by omega
              subst t2
              refine lv_bipush (v := 8) hx hb dX6_retime_242 (by decide) ?_
              refine lv_iload_n hx hb dX6_retime_244 rfl (lv_at hl 1 rfl) ?_
              refine lv_imul hx hb dX6_retime_245 ?_
              refine tpi (y := nI (8 * i)) (pk_mul 8 i) ?_
              refine lv_istore (lv' := [(6, .int (nI (8 * i))), (0, .ref mo), (1, .int (nI i)), (2, .int p1), (3, .int q1), (4, .int (ln i * p1 / q1)), (5, .int 1)]) hx hb dX6_retime_246 hl (by decide) rfl (fun ls hl => ?_)
              have loop248 : ∀ (d9 : Nat) (k : Nat), (8 * i + d - k) < d9 → (8 * i ≤ k) → (k ≤ 8 * i + d) → ∀ (H : Heap) (locs : List Loc) (ls : Array Slot), va_P D cls [oO mo 6 [.int 0, .ref a1, .int (nI nC), .ref a2, .ref a3, .ref a4, .ref a5, .ref a6, .ref a7, .ref a8, .ref a9, .int (nI nS), .ref a10, .int (nI nM), .ref a11], aI D a2 6 ln, aI D a3 24 ks, aI D a4 384 (rtF tm n i p1 q1 (16 * (4 * i + 4))), aI D a7 6 qs, aI D a8 48 (qtF qt i p1 q1 k)] H → va_D A [oO mo 6 [.int 0, .ref a1, .int (nI nC), .ref a2, .ref a3, .ref a4, .ref a5, .ref a6, .ref a7, .ref a8, .ref a9, .int (nI nS), .ref a10, .int (nI nM), .ref a11], aI D a2 6 ln, aI D a3 24 ks, aI D a4 384 (rtF tm n i p1 q1 (16 * (4 * i + 4))), aI D a7 6 qs, aI D a8 48 (qtF qt i p1 q1 k)] → va_S A s.heap H locs → lv_has ls 8 [(0, .ref mo), (1, .int (nI i)), (2, .int p1), (3, .int q1), (4, .int (ln i * p1 / q1)), (5, .int 1), (6, .int (nI k))] → W p l e ({ frames := 2, cells := 0, slots := 0, locals := 43 } : Room) s m ([.ref mo, .int (nI i), .int p1, .int q1] : List Value).toArray below meth c H locs 0 0 (MQ below (va_Qi (fun v _ => v = ln i * p1 / q1) (AT D A (fun _ : Unit => [oO mo 6 [.int 0, .ref a1, .int (nI nC), .ref a2, .ref a3, .ref a4, .ref a5, .ref a6, .ref a7, .ref a8, .ref a9, .int (nI nS), .ref a10, .int (nI nM), .ref a11], aI D a2 6 (upd ln i (ln i * p1 / q1)), aI D a3 24 ks, aI D a4 384 (rtF tm n i p1 q1 (16 * (4 * i + 4))), aI D a7 6 qs, aI D a8 48 (qtF qt i p1 q1 (8 * i + d))])) A) ([.ref mo, .int (nI i), .int p1, .int q1] : List Value).toArray s 0 0 A) (F0 m 248 ls []) := by
                intro d9
                induction d9 with
                | zero => intro k hd; exact absurd hd (Nat.not_lt_zero _)
                | succ d9 ih248 =>
                  intro k hd248 hk1 hk2 H locs ls hP hD hS hl
                  refine lv_iload hx hb dX6_retime_248 (lv_at hl 6 rfl) ?_
                  refine lv_bipush (v := 8) hx hb dX6_retime_250 (by decide) ?_
                  refine lv_iload_n hx hb dX6_retime_252 rfl (lv_at hl 1 rfl) ?_
                  refine lv_imul hx hb dX6_retime_253 ?_
                  refine tpi (y := nI (8 * i)) (pk_mul 8 i) ?_
                  refine lv_aload_n hx hb dX6_retime_254 rfl (lv_at hl 0 rfl) ?_
                  refine va_get (D := D) (ci := 6) (v := .ref a7) (C := RX6) (T := TX6) (N := 15) hx hb hts inlX6 hown hG.K hP 0 rfl rfl 8 (by decide) (hts _ mF_X6_28) (fun _ h9 => h9) rfl dX6_retime_255 ?_
                  refine lv_iload_n hx hb dX6_retime_258 rfl (lv_at hl 1 rfl) ?_
                  refine ild (n := 6) (j := i) hx hb hG hP 4 rfl (by omega) (by omega) dX6_retime_259 ?_
                  refine tpi (y := nI d) (hqs) ?_
                  refine lv_iadd hx hb dX6_retime_260 ?_
                  refine tpi (y := nI ((8 * i) + d)) (nI_add (8 * i) d) ?_
                  refine lv_icmp_ge (tgt := 288) hx hb dX6_retime_261 (by decide) (fun c261 => ?_) (fun c261 => ?_)
                  · skip
                    have n261 := (nI_leI (a := (8 * i) + d) (b := k) (by omega) (by omega)).mp c261
                    have hk9 : k = 8 * i + d := by omega
                    subst k
                    refine lv_aload_n hx hb dX6_retime_288 rfl (lv_at hl 0 rfl) ?_
                    refine va_get (D := D) (ci := 6) (v := .ref a2) (C := RX6) (T := TX6) (N := 15) hx hb hts inlX6 hown hG.K hP 0 rfl rfl 3 (by decide) (hts _ mF_X6_13) (fun _ h9 => h9) rfl dX6_retime_289 ?_
                    refine lv_iload_n hx hb dX6_retime_292 rfl (lv_at hl 1 rfl) ?_
                    refine lv_iload hx hb dX6_retime_293 (lv_at hl 4 rfl) ?_
                    refine ist (n := 6) (j := i) hx hb hG hP hD hS 1 rfl (by omega) (by omega) dX6_retime_295 (fun H locs hP hD hS => ?_)
                    have hP : va_P D cls [oO mo 6 [.int 0, .ref a1, .int (nI nC), .ref a2, .ref a3, .ref a4, .ref a5, .ref a6, .ref a7, .ref a8, .ref a9, .int (nI nS), .ref a10, .int (nI nM), .ref a11], aI D a2 6 (upd ln i (ln i * p1 / q1)), aI D a3 24 ks, aI D a4 384 (rtF tm n i p1 q1 (16 * (4 * i + 4))), aI D a7 6 qs, aI D a8 48 (qtF qt i p1 q1 (8 * i + d))] H := hP
                    have hD : va_D A [oO mo 6 [.int 0, .ref a1, .int (nI nC), .ref a2, .ref a3, .ref a4, .ref a5, .ref a6, .ref a7, .ref a8, .ref a9, .int (nI nS), .ref a10, .int (nI nM), .ref a11], aI D a2 6 (upd ln i (ln i * p1 / q1)), aI D a3 24 ks, aI D a4 384 (rtF tm n i p1 q1 (16 * (4 * i + 4))), aI D a7 6 qs, aI D a8 48 (qtF qt i p1 q1 (8 * i + d))] := hD
                    refine lv_iload hx hb dX6_retime_296 (lv_at hl 4 rfl) ?_
                    refine Wi () hx hb hr hlk ?_ hP hD hS (Nat.le_of_ble_eq_true rfl) (by first | exact Nat.le_of_ble_eq_true rfl | exact Nat.le_of_eq (Nat.zero_add _)) dX6_retime_298
                    exact rfl
                  · skip
                    have n261 := mt (nI_leI (a := (8 * i) + d) (b := k) (by omega) (by omega)).mpr c261
                    refine lv_aload_n hx hb dX6_retime_264 rfl (lv_at hl 0 rfl) ?_
                    refine va_get (D := D) (ci := 6) (v := .ref a8) (C := RX6) (T := TX6) (N := 15) hx hb hts inlX6 hown hG.K hP 0 rfl rfl 9 (by decide) (hts _ mF_X6_31) (fun _ h9 => h9) rfl dX6_retime_265 ?_
                    refine lv_iload hx hb dX6_retime_268 (lv_at hl 6 rfl) ?_
                    refine lv_aload_n hx hb dX6_retime_270 rfl (lv_at hl 0 rfl) ?_
                    refine va_get (D := D) (ci := 6) (v := .ref a8) (C := RX6) (T := TX6) (N := 15) hx hb hts inlX6 hown hG.K hP 0 rfl rfl 9 (by decide) (hts _ mF_X6_31) (fun _ h9 => h9) rfl dX6_retime_271 ?_
                    refine lv_iload hx hb dX6_retime_274 (lv_at hl 6 rfl) ?_
                    refine ild (n := 48) (j := k) hx hb hG hP 5 rfl (by omega) (by omega) dX6_retime_276 ?_
                    refine tpi (y := qt k) (qtF_at) ?_
                    refine lv_iload_n hx hb dX6_retime_277 rfl (lv_at hl 2 rfl) ?_
                    refine lv_imul hx hb dX6_retime_278 ?_
                    refine lv_iload_n hx hb dX6_retime_279 rfl (lv_at hl 3 rfl) ?_
                    refine lv_idiv hx hb dX6_retime_280 (fun h9 => by rw [h9] at h; exact absurd h.2.1 (by decide)) ?_
                    refine ist (n := 48) (j := k) hx hb hG hP hD hS 5 rfl (by omega) (by omega) dX6_retime_281 (fun H locs hP hD hS => ?_)
                    have hfn : upd (qtF qt i p1 q1 k) k (((qt k) * p1) / q1) = (qtF qt i p1 q1 (k + 1)) := qtF_step hk1
                    have hP : va_P D cls [oO mo 6 [.int 0, .ref a1, .int (nI nC), .ref a2, .ref a3, .ref a4, .ref a5, .ref a6, .ref a7, .ref a8, .ref a9, .int (nI nS), .ref a10, .int (nI nM), .ref a11], aI D a2 6 ln, aI D a3 24 ks, aI D a4 384 (rtF tm n i p1 q1 (16 * (4 * i + 4))), aI D a7 6 qs, aI D a8 48 (qtF qt i p1 q1 (k + 1))] H := by rw [← hfn]; exact hP
                    have hD : va_D A [oO mo 6 [.int 0, .ref a1, .int (nI nC), .ref a2, .ref a3, .ref a4, .ref a5, .ref a6, .ref a7, .ref a8, .ref a9, .int (nI nS), .ref a10, .int (nI nM), .ref a11], aI D a2 6 ln, aI D a3 24 ks, aI D a4 384 (rtF tm n i p1 q1 (16 * (4 * i + 4))), aI D a7 6 qs, aI D a8 48 (qtF qt i p1 q1 (k + 1))] := by rw [← hfn]; exact hD
                    refine lv_iinc (v := nI (k + 1)) (lv' := [(6, .int (nI (k + 1))), (0, .ref mo), (1, .int (nI i)), (2, .int p1), (3, .int q1), (4, .int (ln i * p1 / q1)), (5, .int 1)]) hx hb dX6_retime_282 hl (k := 6) rfl (nI_1 _) (by decide) rfl (fun ls hl => ?_)
                    refine lv_goto (tgt := 248) hx hb dX6_retime_285 (by decide) ?_
                    exact ih248 (k + 1) (by omega) (by omega) (by omega) _ _ _ hP hD hS (lv_sub hl [1, 2, 3, 4, 5, 6, 0] rfl)
              have hcv1 : (qtF qt i p1 q1 (8 * i)) = qt := qtF_0
              have hP := Eq.mpr (congrArg (fun z9 => va_P D cls [oO mo 6 [.int 0, .ref a1, .int (nI nC), .ref a2, .ref a3, .ref a4, .ref a5, .ref a6, .ref a7, .ref a8, .ref a9, .int (nI nS), .ref a10, .int (nI nM), .ref a11], aI D a2 6 ln, aI D a3 24 ks, aI D a4 384 (rtF tm n i p1 q1 (16 * (4 * i + 4))), aI D a7 6 qs, aI D a8 48 z9] H) hcv1) hP
              have hD := Eq.mpr (congrArg (fun z9 => va_D A [oO mo 6 [.int 0, .ref a1, .int (nI nC), .ref a2, .ref a3, .ref a4, .ref a5, .ref a6, .ref a7, .ref a8, .ref a9, .int (nI nS), .ref a10, .int (nI nM), .ref a11], aI D a2 6 ln, aI D a3 24 ks, aI D a4 384 (rtF tm n i p1 q1 (16 * (4 * i + 4))), aI D a7 6 qs, aI D a8 48 z9]) hcv1) hD
              have hP : va_P D cls [oO mo 6 [.int 0, .ref a1, .int (nI nC), .ref a2, .ref a3, .ref a4, .ref a5, .ref a6, .ref a7, .ref a8, .ref a9, .int (nI nS), .ref a10, .int (nI nM), .ref a11], aI D a2 6 ln, aI D a3 24 ks, aI D a4 384 (rtF tm n i p1 q1 (16 * (4 * i + 4))), aI D a7 6 qs, aI D a8 48 (qtF qt i p1 q1 (8 * i))] H := hP
              have hD : va_D A [oO mo 6 [.int 0, .ref a1, .int (nI nC), .ref a2, .ref a3, .ref a4, .ref a5, .ref a6, .ref a7, .ref a8, .ref a9, .int (nI nS), .ref a10, .int (nI nM), .ref a11], aI D a2 6 ln, aI D a3 24 ks, aI D a4 384 (rtF tm n i p1 q1 (16 * (4 * i + 4))), aI D a7 6 qs, aI D a8 48 (qtF qt i p1 q1 (8 * i))] := hD
              exact loop248 _ (8 * i) (Nat.lt_succ_self _) (by omega) (by omega) _ _ _ hP hD hS (lv_sub hl [1, 2, 3, 4, 5, 6, 0] rfl)
            · skip
              have n184 := mt (nI_leI (a := (4 * i) + 4) (b := 4 * i + t2) (by omega) (by omega)).mpr c184
              have h169 := h16 t2 (by omega)
              refine lv_iload hx hb dX6_retime_187 (lv_at hl 6 rfl) ?_
              have hP9 : va_P D cls [] H := fun k q h => by simp at h
              refine vp_callSi (pS (rest := []) [.int (nI (4 * i + t2))] 1 hC (m_row l D (j := 4 * i + t2) ) (gS mM_X6_78 mT_X6_row mN_X6 mC_X6_row) (by decide +kernel) rfl rfl ⟨Nat.le_of_ble_eq_true rfl, Nat.le_of_ble_eq_true rfl⟩ hG hP9 rfl hl.1 rfl (Nat.le_of_ble_eq_true rfl) dX6_retime_189 ⟨Nat.le_of_ble_eq_true rfl, Nat.le_of_ble_eq_true rfl⟩) (fun r189 h189 => ?_)
              obtain rfl : r189 = (nI (16 * (4 * i + t2))) := h189
              refine lv_istore (lv' := [(7, .int (nI (16 * (4 * i + t2)))), (0, .ref mo), (1, .int (nI i)), (2, .int p1), (3, .int q1), (4, .int (ln i * p1 / q1)), (5, .int 1), (6, .int (nI (4 * i + t2)))]) hx hb dX6_retime_192 hl (by decide) rfl (fun ls hl => ?_)
              have loop194 : ∀ (d9 : Nat) (r2 : Nat), (n t2 - r2) < d9 → (r2 ≤ n t2) → ∀ (H : Heap) (locs : List Loc) (ls : Array Slot), va_P D cls [oO mo 6 [.int 0, .ref a1, .int (nI nC), .ref a2, .ref a3, .ref a4, .ref a5, .ref a6, .ref a7, .ref a8, .ref a9, .int (nI nS), .ref a10, .int (nI nM), .ref a11], aI D a2 6 ln, aI D a3 24 ks, aI D a4 384 (rtF tm n i p1 q1 (16 * (4 * i + t2) + r2)), aI D a7 6 qs, aI D a8 48 qt] H → va_D A [oO mo 6 [.int 0, .ref a1, .int (nI nC), .ref a2, .ref a3, .ref a4, .ref a5, .ref a6, .ref a7, .ref a8, .ref a9, .int (nI nS), .ref a10, .int (nI nM), .ref a11], aI D a2 6 ln, aI D a3 24 ks, aI D a4 384 (rtF tm n i p1 q1 (16 * (4 * i + t2) + r2)), aI D a7 6 qs, aI D a8 48 qt] → va_S A s.heap H locs → lv_has ls 8 [(0, .ref mo), (1, .int (nI i)), (2, .int p1), (3, .int q1), (4, .int (ln i * p1 / q1)), (5, .int 1), (6, .int (nI (4 * i + t2))), (7, .int (nI (16 * (4 * i + t2) + r2)))] → W p l e ({ frames := 2, cells := 0, slots := 0, locals := 43 } : Room) s m ([.ref mo, .int (nI i), .int p1, .int q1] : List Value).toArray below meth c H locs 0 0 (MQ below (va_Qi (fun v _ => v = ln i * p1 / q1) (AT D A (fun _ : Unit => [oO mo 6 [.int 0, .ref a1, .int (nI nC), .ref a2, .ref a3, .ref a4, .ref a5, .ref a6, .ref a7, .ref a8, .ref a9, .int (nI nS), .ref a10, .int (nI nM), .ref a11], aI D a2 6 (upd ln i (ln i * p1 / q1)), aI D a3 24 ks, aI D a4 384 (rtF tm n i p1 q1 (16 * (4 * i + 4))), aI D a7 6 qs, aI D a8 48 (qtF qt i p1 q1 (8 * i + d))])) A) ([.ref mo, .int (nI i), .int p1, .int q1] : List Value).toArray s 0 0 A) (F0 m 194 ls []) := by
                intro d9
                induction d9 with
                | zero => intro r2 hd; exact absurd hd (Nat.not_lt_zero _)
                | succ d9 ih194 =>
                  intro r2 hd194 hr2 H locs ls hP hD hS hl
                  have h169 := h16 t2 (by omega)
                  refine lv_iload hx hb dX6_retime_194 (lv_at hl 7 rfl) ?_
                  refine lv_iload hx hb dX6_retime_196 (lv_at hl 6 rfl) ?_
                  have hP9 : va_P D cls [] H := fun k q h => by simp at h
                  refine vp_callSi (pS (rest := [.int (nI (16 * (4 * i + t2) + r2))]) [.int (nI (4 * i + t2))] 1 hC (m_row l D (j := 4 * i + t2) ) (gS mM_X6_78 mT_X6_row mN_X6 mC_X6_row) (by decide +kernel) rfl rfl ⟨Nat.le_of_ble_eq_true rfl, Nat.le_of_ble_eq_true rfl⟩ hG hP9 rfl hl.1 rfl (Nat.le_of_ble_eq_true rfl) dX6_retime_198 ⟨Nat.le_of_ble_eq_true rfl, Nat.le_of_ble_eq_true rfl⟩) (fun r198 h198 => ?_)
                  obtain rfl : r198 = (nI (16 * (4 * i + t2))) := h198
                  refine lv_aload_n hx hb dX6_retime_201 rfl (lv_at hl 0 rfl) ?_
                  refine va_get (D := D) (ci := 6) (v := .ref a3) (C := RX6) (T := TX6) (N := 15) hx hb hts inlX6 hown hG.K hP 0 rfl rfl 4 (by decide) (hts _ mF_X6_16) (fun _ h9 => h9) rfl dX6_retime_202 ?_
                  refine lv_iload hx hb dX6_retime_205 (lv_at hl 6 rfl) ?_
                  refine ild (n := 24) (j := 4 * i + t2) hx hb hG hP 2 rfl (by omega) (by omega) dX6_retime_207 ?_
                  refine tpi (y := nI (n t2)) (hks t2 (by omega)) ?_
                  refine lv_iadd hx hb dX6_retime_208 ?_
                  refine tpi (y := nI ((16 * (4 * i + t2)) + (n t2))) (nI_add (16 * (4 * i + t2)) (n t2)) ?_
                  refine lv_icmp_ge (tgt := 236) hx hb dX6_retime_209 (by decide) (fun c209 => ?_) (fun c209 => ?_)
                  · skip
                    have n209 := (nI_leI (a := (16 * (4 * i + t2)) + (n t2)) (b := 16 * (4 * i + t2) + r2) (by omega) (by omega)).mp c209
                    have hk9 : r2 = n t2 := by omega
                    subst r2
                    have hcv2 : (rtF tm n i p1 q1 (16 * (4 * i + (t2 + 1)))) = (rtF tm n i p1 q1 (16 * (4 * i + t2) + (n t2))) := rtF_row (h16 t2 (by omega))
                    have hP := Eq.mpr (congrArg (fun z9 => va_P D cls [oO mo 6 [.int 0, .ref a1, .int (nI nC), .ref a2, .ref a3, .ref a4, .ref a5, .ref a6, .ref a7, .ref a8, .ref a9, .int (nI nS), .ref a10, .int (nI nM), .ref a11], aI D a2 6 ln, aI D a3 24 ks, aI D a4 384 z9, aI D a7 6 qs, aI D a8 48 qt] H) hcv2) hP
                    have hD := Eq.mpr (congrArg (fun z9 => va_D A [oO mo 6 [.int 0, .ref a1, .int (nI nC), .ref a2, .ref a3, .ref a4, .ref a5, .ref a6, .ref a7, .ref a8, .ref a9, .int (nI nS), .ref a10, .int (nI nM), .ref a11], aI D a2 6 ln, aI D a3 24 ks, aI D a4 384 z9, aI D a7 6 qs, aI D a8 48 qt]) hcv2) hD
                    have hP : va_P D cls [oO mo 6 [.int 0, .ref a1, .int (nI nC), .ref a2, .ref a3, .ref a4, .ref a5, .ref a6, .ref a7, .ref a8, .ref a9, .int (nI nS), .ref a10, .int (nI nM), .ref a11], aI D a2 6 ln, aI D a3 24 ks, aI D a4 384 (rtF tm n i p1 q1 (16 * (4 * i + (t2 + 1)))), aI D a7 6 qs, aI D a8 48 qt] H := hP
                    have hD : va_D A [oO mo 6 [.int 0, .ref a1, .int (nI nC), .ref a2, .ref a3, .ref a4, .ref a5, .ref a6, .ref a7, .ref a8, .ref a9, .int (nI nS), .ref a10, .int (nI nM), .ref a11], aI D a2 6 ln, aI D a3 24 ks, aI D a4 384 (rtF tm n i p1 q1 (16 * (4 * i + (t2 + 1)))), aI D a7 6 qs, aI D a8 48 qt] := hD
                    refine lv_iinc (v := nI (4 * i + t2 + 1)) (lv' := [(6, .int (nI (4 * i + t2 + 1))), (0, .ref mo), (1, .int (nI i)), (2, .int p1), (3, .int q1), (4, .int (ln i * p1 / q1)), (5, .int 1), (7, .int (nI (16 * (4 * i + t2) + (n t2))))]) hx hb dX6_retime_236 hl (k := 6) rfl (nI_1 _) (by decide) rfl (fun ls hl => ?_)
                    refine lv_goto (tgt := 177) hx hb dX6_retime_239 (by decide) ?_
                    exact ih177 (t2 + 1) (by omega) (by omega) _ _ _ hP hD hS (lv_sub hl [1, 2, 3, 4, 5, 6, 0] rfl)
                  · skip
                    have n209 := mt (nI_leI (a := (16 * (4 * i + t2)) + (n t2)) (b := 16 * (4 * i + t2) + r2) (by omega) (by omega)).mpr c209
                    refine lv_aload_n hx hb dX6_retime_212 rfl (lv_at hl 0 rfl) ?_
                    refine va_get (D := D) (ci := 6) (v := .ref a4) (C := RX6) (T := TX6) (N := 15) hx hb hts inlX6 hown hG.K hP 0 rfl rfl 5 (by decide) (hts _ mF_X6_19) (fun _ h9 => h9) rfl dX6_retime_213 ?_
                    refine lv_iload hx hb dX6_retime_216 (lv_at hl 7 rfl) ?_
                    refine lv_aload_n hx hb dX6_retime_218 rfl (lv_at hl 0 rfl) ?_
                    refine va_get (D := D) (ci := 6) (v := .ref a4) (C := RX6) (T := TX6) (N := 15) hx hb hts inlX6 hown hG.K hP 0 rfl rfl 5 (by decide) (hts _ mF_X6_19) (fun _ h9 => h9) rfl dX6_retime_219 ?_
                    refine lv_iload hx hb dX6_retime_222 (lv_at hl 7 rfl) ?_
                    refine ild (n := 384) (j := 16 * (4 * i + t2) + r2) hx hb hG hP 3 rfl (by omega) (by omega) dX6_retime_224 ?_
                    refine tpi (y := tm (16 * (4 * i + t2) + r2)) (rtF_at) ?_
                    refine lv_iload_n hx hb dX6_retime_225 rfl (lv_at hl 2 rfl) ?_
                    refine lv_imul hx hb dX6_retime_226 ?_
                    refine lv_iload_n hx hb dX6_retime_227 rfl (lv_at hl 3 rfl) ?_
                    refine lv_idiv hx hb dX6_retime_228 (fun h9 => by rw [h9] at h; exact absurd h.2.1 (by decide)) ?_
                    refine ist (n := 384) (j := 16 * (4 * i + t2) + r2) hx hb hG hP hD hS 3 rfl (by omega) (by omega) dX6_retime_229 (fun H locs hP hD hS => ?_)
                    have hfn : upd (rtF tm n i p1 q1 (16 * (4 * i + t2) + r2)) (16 * (4 * i + t2) + r2) (((tm (16 * (4 * i + t2) + r2)) * p1) / q1) = (rtF tm n i p1 q1 (16 * (4 * i + t2) + r2 + 1)) := rtF_step (h16 t2 (by omega)) (by omega) rfl
                    have hP : va_P D cls [oO mo 6 [.int 0, .ref a1, .int (nI nC), .ref a2, .ref a3, .ref a4, .ref a5, .ref a6, .ref a7, .ref a8, .ref a9, .int (nI nS), .ref a10, .int (nI nM), .ref a11], aI D a2 6 ln, aI D a3 24 ks, aI D a4 384 (rtF tm n i p1 q1 (16 * (4 * i + t2) + r2 + 1)), aI D a7 6 qs, aI D a8 48 qt] H := by rw [← hfn]; exact hP
                    have hD : va_D A [oO mo 6 [.int 0, .ref a1, .int (nI nC), .ref a2, .ref a3, .ref a4, .ref a5, .ref a6, .ref a7, .ref a8, .ref a9, .int (nI nS), .ref a10, .int (nI nM), .ref a11], aI D a2 6 ln, aI D a3 24 ks, aI D a4 384 (rtF tm n i p1 q1 (16 * (4 * i + t2) + r2 + 1)), aI D a7 6 qs, aI D a8 48 qt] := by rw [← hfn]; exact hD
                    refine lv_iinc (v := nI (16 * (4 * i + t2) + r2 + 1)) (lv' := [(7, .int (nI (16 * (4 * i + t2) + r2 + 1))), (0, .ref mo), (1, .int (nI i)), (2, .int p1), (3, .int q1), (4, .int (ln i * p1 / q1)), (5, .int 1), (6, .int (nI (4 * i + t2)))]) hx hb dX6_retime_230 hl (k := 7) rfl (nI_1 _) (by decide) rfl (fun ls hl => ?_)
                    refine lv_goto (tgt := 194) hx hb dX6_retime_233 (by decide) ?_
                    exact ih194 (r2 + 1) (by omega) (by omega) _ _ _ hP hD hS (lv_sub hl [1, 2, 3, 4, 5, 6, 7, 0] rfl)
              exact loop194 _ 0 (Nat.lt_succ_self _) (by omega) _ _ _ hP hD hS (lv_sub hl [1, 2, 3, 4, 5, 6, 7, 0] rfl)
        have hcv3 : (rtF tm n i p1 q1 (16 * (4 * i + 0))) = tm := rtF_0
        have hP := Eq.mpr (congrArg (fun z9 => va_P D cls [oO mo 6 [.int 0, .ref a1, .int (nI nC), .ref a2, .ref a3, .ref a4, .ref a5, .ref a6, .ref a7, .ref a8, .ref a9, .int (nI nS), .ref a10, .int (nI nM), .ref a11], aI D a2 6 ln, aI D a3 24 ks, aI D a4 384 z9, aI D a7 6 qs, aI D a8 48 qt] H) hcv3) hP
        have hD := Eq.mpr (congrArg (fun z9 => va_D A [oO mo 6 [.int 0, .ref a1, .int (nI nC), .ref a2, .ref a3, .ref a4, .ref a5, .ref a6, .ref a7, .ref a8, .ref a9, .int (nI nS), .ref a10, .int (nI nM), .ref a11], aI D a2 6 ln, aI D a3 24 ks, aI D a4 384 z9, aI D a7 6 qs, aI D a8 48 qt]) hcv3) hD
        have hP : va_P D cls [oO mo 6 [.int 0, .ref a1, .int (nI nC), .ref a2, .ref a3, .ref a4, .ref a5, .ref a6, .ref a7, .ref a8, .ref a9, .int (nI nS), .ref a10, .int (nI nM), .ref a11], aI D a2 6 ln, aI D a3 24 ks, aI D a4 384 (rtF tm n i p1 q1 (16 * (4 * i + 0))), aI D a7 6 qs, aI D a8 48 qt] H := hP
        have hD : va_D A [oO mo 6 [.int 0, .ref a1, .int (nI nC), .ref a2, .ref a3, .ref a4, .ref a5, .ref a6, .ref a7, .ref a8, .ref a9, .int (nI nS), .ref a10, .int (nI nM), .ref a11], aI D a2 6 ln, aI D a3 24 ks, aI D a4 384 (rtF tm n i p1 q1 (16 * (4 * i + 0))), aI D a7 6 qs, aI D a8 48 qt] := hD
        exact loop177 _ 0 (Nat.lt_succ_self _) (by omega) _ _ _ hP hD hS (lv_sub hl [1, 2, 3, 4, 5, 6, 0] rfl)
      · skip
        have n80 := mt (nI_leI (a := (4 * i) + 4) (b := 4 * i + t1) (by omega) (by omega)).mpr c80
        have h169 := h16 t1 (by omega)
        refine lv_iload hx hb dX6_retime_83 (lv_at hl 6 rfl) ?_
        have hP9 : va_P D cls [] H := fun k q h => by simp at h
        refine vp_callSi (pS (rest := []) [.int (nI (4 * i + t1))] 1 hC (m_row l D (j := 4 * i + t1) ) (gS mM_X6_78 mT_X6_row mN_X6 mC_X6_row) (by decide +kernel) rfl rfl ⟨Nat.le_of_ble_eq_true rfl, Nat.le_of_ble_eq_true rfl⟩ hG hP9 rfl hl.1 rfl (Nat.le_of_ble_eq_true rfl) dX6_retime_85 ⟨Nat.le_of_ble_eq_true rfl, Nat.le_of_ble_eq_true rfl⟩) (fun r85 h85 => ?_)
        obtain rfl : r85 = (nI (16 * (4 * i + t1))) := h85
        refine lv_istore (lv' := [(7, .int (nI (16 * (4 * i + t1)))), (0, .ref mo), (1, .int (nI i)), (2, .int p1), (3, .int q1), (4, .int (ln i * p1 / q1)), (5, .int 1), (6, .int (nI (4 * i + t1)))]) hx hb dX6_retime_88 hl (by decide) rfl (fun ls hl => ?_)
        have loop90 : ∀ (d9 : Nat) (r1 : Nat), (n t1 - r1) < d9 → (r1 ≤ 16) → ∀ (ls : Array Slot), lv_has ls 8 [(0, .ref mo), (1, .int (nI i)), (2, .int p1), (3, .int q1), (4, .int (ln i * p1 / q1)), (5, .int 1), (6, .int (nI (4 * i + t1))), (7, .int (nI (16 * (4 * i + t1) + r1)))] → W p l e ({ frames := 2, cells := 0, slots := 0, locals := 43 } : Room) s m ([.ref mo, .int (nI i), .int p1, .int q1] : List Value).toArray below meth c H locs 0 0 (MQ below (va_Qi (fun v _ => v = ln i * p1 / q1) (AT D A (fun _ : Unit => [oO mo 6 [.int 0, .ref a1, .int (nI nC), .ref a2, .ref a3, .ref a4, .ref a5, .ref a6, .ref a7, .ref a8, .ref a9, .int (nI nS), .ref a10, .int (nI nM), .ref a11], aI D a2 6 (upd ln i (ln i * p1 / q1)), aI D a3 24 ks, aI D a4 384 (rtF tm n i p1 q1 (16 * (4 * i + 4))), aI D a7 6 qs, aI D a8 48 (qtF qt i p1 q1 (8 * i + d))])) A) ([.ref mo, .int (nI i), .int p1, .int q1] : List Value).toArray s 0 0 A) (F0 m 90 ls []) := by
          intro d9
          induction d9 with
          | zero => intro r1 hd; exact absurd hd (Nat.not_lt_zero _)
          | succ d9 ih90 =>
            intro r1 hd90 hr1 ls hl
            have h169 := h16 t1 (by omega)
            refine lv_iload hx hb dX6_retime_90 (lv_at hl 7 rfl) ?_
            refine lv_iconst (v := 1) hx hb dX6_retime_92 (by decide) ?_
            refine lv_iadd hx hb dX6_retime_93 ?_
            refine tpi (y := nI ((16 * (4 * i + t1) + r1) + 1)) (nI_add (16 * (4 * i + t1) + r1) 1) ?_
            refine lv_iload hx hb dX6_retime_94 (lv_at hl 6 rfl) ?_
            have hP9 : va_P D cls [] H := fun k q h => by simp at h
            refine vp_callSi (pS (rest := [.int (nI ((16 * (4 * i + t1) + r1) + 1))]) [.int (nI (4 * i + t1))] 1 hC (m_row l D (j := 4 * i + t1) ) (gS mM_X6_78 mT_X6_row mN_X6 mC_X6_row) (by decide +kernel) rfl rfl ⟨Nat.le_of_ble_eq_true rfl, Nat.le_of_ble_eq_true rfl⟩ hG hP9 rfl hl.1 rfl (Nat.le_of_ble_eq_true rfl) dX6_retime_96 ⟨Nat.le_of_ble_eq_true rfl, Nat.le_of_ble_eq_true rfl⟩) (fun r96 h96 => ?_)
            obtain rfl : r96 = (nI (16 * (4 * i + t1))) := h96
            refine lv_aload_n hx hb dX6_retime_99 rfl (lv_at hl 0 rfl) ?_
            refine va_get (D := D) (ci := 6) (v := .ref a3) (C := RX6) (T := TX6) (N := 15) hx hb hts inlX6 hown hG.K hP 0 rfl rfl 4 (by decide) (hts _ mF_X6_16) (fun _ h9 => h9) rfl dX6_retime_100 ?_
            refine lv_iload hx hb dX6_retime_103 (lv_at hl 6 rfl) ?_
            refine ild (n := 24) (j := 4 * i + t1) hx hb hG hP 2 rfl (by omega) (by omega) dX6_retime_105 ?_
            refine tpi (y := nI (n t1)) (hks t1 (by omega)) ?_
            refine lv_iadd hx hb dX6_retime_106 ?_
            refine tpi (y := nI ((16 * (4 * i + t1)) + (n t1))) (nI_add (16 * (4 * i + t1)) (n t1)) ?_
            refine lv_icmp_ge (tgt := 155) hx hb dX6_retime_107 (by decide) (fun c107 => ?_) (fun c107 => ?_)
            · skip
              have n107 := (nI_leI (a := (16 * (4 * i + t1)) + (n t1)) (b := (16 * (4 * i + t1) + r1) + 1) (by omega) (by omega)).mp c107
              refine lv_iinc (v := nI (4 * i + t1 + 1)) (lv' := [(6, .int (nI (4 * i + t1 + 1))), (0, .ref mo), (1, .int (nI i)), (2, .int p1), (3, .int q1), (4, .int (ln i * p1 / q1)), (5, .int 1), (7, .int (nI (16 * (4 * i + t1) + r1)))]) hx hb dX6_retime_155 hl (k := 6) rfl (nI_1 _) (by decide) rfl (fun ls hl => ?_)
              refine lv_goto (tgt := 73) hx hb dX6_retime_158 (by decide) ?_
              exact ih73 (t1 + 1) (by omega) (by omega) _ (lv_sub hl [1, 2, 3, 4, 5, 6, 0] rfl)
            · skip
              have n107 := mt (nI_leI (a := (16 * (4 * i + t1)) + (n t1)) (b := (16 * (4 * i + t1) + r1) + 1) (by omega) (by omega)).mpr c107
              refine lv_iload hx hb dX6_retime_110 (lv_at hl 5 rfl) ?_
              refine lv_if_eq (tgt := 146) hx hb dX6_retime_112 (by decide) (fun h9 => absurd h9 (by decide)) (fun _ => ?_)
              refine lv_aload_n hx hb dX6_retime_115 rfl (lv_at hl 0 rfl) ?_
              refine va_get (D := D) (ci := 6) (v := .ref a4) (C := RX6) (T := TX6) (N := 15) hx hb hts inlX6 hown hG.K hP 0 rfl rfl 5 (by decide) (hts _ mF_X6_19) (fun _ h9 => h9) rfl dX6_retime_116 ?_
              refine lv_iload hx hb dX6_retime_119 (lv_at hl 7 rfl) ?_
              refine ild (n := 384) (j := 16 * (4 * i + t1) + r1) hx hb hG hP 3 rfl (by omega) (by omega) dX6_retime_121 ?_
              refine lv_iload_n hx hb dX6_retime_122 rfl (lv_at hl 2 rfl) ?_
              refine lv_imul hx hb dX6_retime_123 ?_
              refine lv_iload_n hx hb dX6_retime_124 rfl (lv_at hl 3 rfl) ?_
              refine lv_idiv hx hb dX6_retime_125 (fun h9 => by rw [h9] at h; exact absurd h.2.1 (by decide)) ?_
              refine lv_aload_n hx hb dX6_retime_126 rfl (lv_at hl 0 rfl) ?_
              refine va_get (D := D) (ci := 6) (v := .ref a4) (C := RX6) (T := TX6) (N := 15) hx hb hts inlX6 hown hG.K hP 0 rfl rfl 5 (by decide) (hts _ mF_X6_19) (fun _ h9 => h9) rfl dX6_retime_127 ?_
              refine lv_iload hx hb dX6_retime_130 (lv_at hl 7 rfl) ?_
              refine lv_iconst (v := 1) hx hb dX6_retime_132 (by decide) ?_
              refine lv_iadd hx hb dX6_retime_133 ?_
              refine tpi (y := nI ((16 * (4 * i + t1) + r1) + 1)) (nI_add (16 * (4 * i + t1) + r1) 1) ?_
              refine ild (n := 384) (j := (16 * (4 * i + t1) + r1) + 1) hx hb hG hP 3 rfl (by omega) (by omega) dX6_retime_134 ?_
              refine lv_iload_n hx hb dX6_retime_135 rfl (lv_at hl 2 rfl) ?_
              refine lv_imul hx hb dX6_retime_136 ?_
              refine lv_iload_n hx hb dX6_retime_137 rfl (lv_at hl 3 rfl) ?_
              refine lv_idiv hx hb dX6_retime_138 (fun h9 => by rw [h9] at h; exact absurd h.2.1 (by decide)) ?_
              refine lv_icmp_ge (tgt := 146) hx hb dX6_retime_139 (by decide) (fun c139 => absurd c139 (Int32.not_le.mpr (hcan t1 (by omega) r1 (by omega)))) (fun c139 => ?_)
              refine lv_iconst (v := 1) hx hb dX6_retime_142 (by decide) ?_
              refine lv_goto (tgt := 147) hx hb dX6_retime_143 (by decide) ?_
              refine lv_istore (lv' := [(5, .int 1), (0, .ref mo), (1, .int (nI i)), (2, .int p1), (3, .int q1), (4, .int (ln i * p1 / q1)), (6, .int (nI (4 * i + t1))), (7, .int (nI (16 * (4 * i + t1) + r1)))]) hx hb dX6_retime_147 hl (by decide) rfl (fun ls hl => ?_)
              refine lv_iinc (v := nI (16 * (4 * i + t1) + r1 + 1)) (lv' := [(7, .int (nI (16 * (4 * i + t1) + r1 + 1))), (5, .int 1), (0, .ref mo), (1, .int (nI i)), (2, .int p1), (3, .int q1), (4, .int (ln i * p1 / q1)), (6, .int (nI (4 * i + t1)))]) hx hb dX6_retime_149 hl (k := 7) rfl (nI_1 _) (by decide) rfl (fun ls hl => ?_)
              refine lv_goto (tgt := 90) hx hb dX6_retime_152 (by decide) ?_
              exact ih90 (r1 + 1) (by omega) (by omega) _ (lv_sub hl [2, 3, 4, 5, 6, 1, 7, 0] rfl)
        exact loop90 _ 0 (Nat.lt_succ_self _) (by omega) _ (lv_sub hl [1, 2, 3, 4, 5, 6, 7, 0] rfl)
  exact loop73 _ 0 (Nat.lt_succ_self _) (by omega) _ (lv_sub hl [3, 4, 5, 6, 2, 1, 0] rfl)
