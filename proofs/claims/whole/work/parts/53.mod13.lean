/-- the cells below a place are filled -/
def bfF (v : Nat → Int32) (t : Nat) : Nat → Int32 := fun q => if q < t then v q else 0
theorem bfF_0 (v : Nat → Int32) : (fun _ => 0) = bfF v 0 := by
  funext q
  rw [bfF, if_neg (by omega)]
theorem bfF_step (v : Nat → Int32) (t : Nat) : upd (bfF v t) t (v t) = bfF v (t + 1) := by
  apply upd_eq
  · rw [bfF, if_pos (by omega)]
  · intro q hq
    rw [bfF, bfF]
    by_cases e : q < t
    · rw [if_pos e, if_pos (by omega)]
    · rw [if_neg e, if_neg (by omega)]
theorem upd_same {f : Nat → Int32} {k : Nat} {x : Int32} (h : f k = x) : upd f k x = f := upd_eq h (fun _ _ => rfl)
theorem upd_upd {f : Nat → Int32} {k : Nat} {x y : Int32} : upd (upd f k x) k y = upd f k y := by
  funext q
  simp only [upd]
  by_cases e : q = k
  · rw [if_pos e, if_pos e]
  · rw [if_neg e, if_neg e, if_neg e]
/-- which key stands at a place of a track that is being reduced -/
def cuI (g : Nat → Nat) (left i : Nat) (q : Nat) : Nat := if q < left then g q else i + (q - left)
theorem cu_lt {g : Nat → Nat} {left i q : Nat} (h : q < left) : cuI g left i q = g q := if_pos h
theorem cu_ge {g : Nat → Nat} {left i q : Nat} (h : ¬ q < left) : cuI g left i q = i + (q - left) := if_neg h
theorem cu_near {tq ft : Nat → Int32} {g : Nat → Nat} {b left i n : Nat} (h : ∀ q, q < left + (n - i) → tq (b + q) = ft (cuI g left i q)) (hi : i + 1 < n) : ∀ q, q < left + (n - (i + 1)) → dlF tq (b + left) (b + (left + (n - i))) (b + q) = ft (cuI g left (i + 1) q) := by
  intro q hq
  rw [dlF]
  by_cases e : q < left
  · rw [if_neg (by omega), h q (by omega), cu_lt e, cu_lt e]
  · rw [if_pos (by omega), show b + q + 1 = b + (q + 1) by omega, h (q + 1) (by omega), cu_ge (by omega), cu_ge e]
    congr 1
    omega
theorem cu_far {tq ft : Nat → Int32} {g : Nat → Nat} {b left i n : Nat} (h : ∀ q, q < left + (n - i) → tq (b + q) = ft (cuI g left i q)) (hi : i + 1 < n) : ∀ q, q < left + 1 + (n - (i + 1)) → tq (b + q) = ft (cuI (fun k => if k = left then i else g k) (left + 1) (i + 1) q) := by
  intro q hq
  rw [h q (by omega)]
  by_cases e : q < left
  · rw [cu_lt e, cu_lt (by omega), if_neg (by omega)]
  · by_cases e2 : q = left
    · rw [e2, cu_ge (by omega), cu_lt (by omega), if_pos rfl]
      congr 1
      omega
    · rw [cu_ge e, cu_ge (by omega)]
      congr 1
      omega
theorem dlF_out {f : Nat → Int32} {b d m x : Nat} (hm : b + m ≤ b + 16) (h : ¬ (b ≤ x ∧ x < b + 16)) : dlF f (b + d) (b + m) x = f x := by
  rw [dlF, if_neg (by omega)]
theorem nI_nn {x : Int32} (h : 0 ≤ x.toInt) : x = nI x.toInt.toNat := by
  have r := fb_rng x
  rw [fa_eq, nI_toInt (by omega)]
  omega
theorem tOK.n {ft : Nat → Int32} {n k : Nat} (h : tOK ft n) (hk : k < n) : ft k = nI (ft k).toInt.toNat := nI_nn (h.1 k hk).1
/-- a time lies between two neighbours -/
theorem tOK.find {ft : Nat → Int32} {n : Nat} {x : Int32} (h : tOK ft n) (i : Nat) : ∀ j, i < j → j < n → ft i ≤ x → x < ft j → ∃ k, i ≤ k ∧ k < j ∧ ft k ≤ x ∧ x < ft (k + 1)
  | 0, h1, _, _, _ => absurd h1 (Nat.not_lt_zero _)
  | j + 1, h1, h2, h3, h4 => by
    by_cases e : x < ft j
    · by_cases e1 : i = j
      · subst e1
        exact absurd h3 (Int32.not_le.mpr e)
      · obtain ⟨k, a, b, c⟩ := tOK.find h i j (by omega) (by omega) h3 e
        exact ⟨k, a, by omega, c⟩
    · exact ⟨j, by omega, by omega, Int32.not_lt.mp e, h4⟩
theorem near_yes {ft fv fe : Nat → Int32} {n a b x0 : Nat} {tol : Int32} (hT : tOK ft n) (hb : b < n) (hM : ∀ y : Nat, ft a ≤ nI y → y < x0 → absI (vb ft fv fe a b (nI y) - evT n ft fv fe (nI y)) ≤ tol) (h0 : x0 ≤ 2000) (he : ft b ≤ nI x0) : nearP ft fv fe tol a b := by
  intro k h1 h2 x h3 h4
  have tk := hT.1 k (by omega)
  have e : ft a ≤ x ∧ 0 ≤ x.toInt ∧ x < ft b := by
    rw [fa_le] at h3
    rw [fa_lt] at h4
    refine ⟨?_, by omega, ?_⟩
    · rw [fa_le]
      by_cases e1 : a = k
      · rw [e1]; exact h3
      · have := hT.2 a k (by omega) (by omega)
        omega
    · rw [fa_lt]
      by_cases e1 : k + 1 = b
      · rw [← e1]; exact h4
      · have := hT.2 (k + 1) b (by omega) hb
        omega
  rw [← ev_mid hT (by omega) h3 h4, nI_nn e.2.1]
  refine hM _ (by rw [← nI_nn e.2.1]; exact e.1) ?_
  have q1 := (fa_lt _ _).mp e.2.2
  have q2 := (fa_le _ _).mp he
  rw [nI_toInt (by omega)] at q2
  omega
theorem near_no {ft fv fe : Nat → Int32} {n a b y : Nat} {tol : Int32} (hT : tOK ft n) (hab : a < b) (hb : b < n) (h1 : ft a ≤ nI y) (h2 : nI y < ft b) (h3 : ¬ absI (vb ft fv fe a b (nI y) - evT n ft fv fe (nI y)) ≤ tol) : ¬ nearP ft fv fe tol a b := by
  intro h
  obtain ⟨k, a1, a2, a3, a4⟩ := hT.find a b hab hb h1 h2
  exact h3 (by rw [ev_mid hT (by omega) a3 a4]; exact h k a1 a2 _ a3 a4)
theorem vb_lg {ft fv fe : Nat → Int32} {n i j : Nat} {x : Int32} (hV : ∀ k, k < n → -10000 ≤ (fv k).toInt ∧ (fv k).toInt ≤ 10000) (hi : i < n) (hj : j < n) : ezed (fv i) ((fv j).toInt64 - (fv i).toInt64) (fe i) (x - ft i).toInt64 (ft j - ft i).toInt64 = vb ft fv fe i j x := by
  have a := hV i hi
  have b := hV j hj
  rw [vb, i64_sub (a := fv j) (b := fv i) (by omega) (by omega)]
theorem nI_t {x : Nat} {y : Int32} (h : nI x < y) (hx : x ≤ 2000) (hy : y.toInt ≤ 2000) : x < 2000 := by
  rw [fa_lt, nI_toInt (by omega)] at h
  omega
set_option maxHeartbeats 400000 in
set_option maxRecDepth 100000 in
theorem m_reduce_1a (l : Launch) (D : va_G) {mo a1 a2 a3 a4 a5 a6 a7 a8 a9 a10 a11 nC nS nM : Nat} {th : Int32} {x y u0 : Int32} (hz0 : Nat) (hn : nC ≤ 6) (hxx : x < 0 ∨ nI nC ≤ x) : Met l yX6_reduce (ws_ yX6_reduce cX6_reduce 11 (some .int)) ({ frames := 4, cells := 0, slots := 0, locals := 101 } : Room) (va_Pc [.ref mo, .int x, .int y, .int u0] (SW D [oO mo 6 [.int th, .ref a1, .int (nI nC), .ref a2, .ref a3, .ref a4, .ref a5, .ref a6, .ref a7, .ref a8, .ref a9, .int (nI nS), .ref a10, .int (nI nM), .ref a11]] hz0)) (va_Qi (fun v _ => v = 0) (AT D (va_A [oO mo 6 [.int th, .ref a1, .int (nI nC), .ref a2, .ref a3, .ref a4, .ref a5, .ref a6, .ref a7, .ref a8, .ref a9, .int (nI nS), .ref a10, .int (nI nM), .ref a11]] hz0) (fun _ : Unit => [oO mo 6 [.int 1, .ref a1, .int (nI nC), .ref a2, .ref a3, .ref a4, .ref a5, .ref a6, .ref a7, .ref a8, .ref a9, .int (nI nS), .ref a10, .int (nI nM), .ref a11]])) (va_A [oO mo 6 [.int th, .ref a1, .int (nI nC), .ref a2, .ref a3, .ref a4, .ref a5, .ref a6, .ref a7, .ref a8, .ref a9, .int (nI nS), .ref a10, .int (nI nM), .ref a11]] hz0)) 0 0 (va_A [oO mo 6 [.int th, .ref a1, .int (nI nC), .ref a2, .ref a3, .ref a4, .ref a5, .ref a6, .ref a7, .ref a8, .ref a9, .int (nI nS), .ref a10, .int (nI nM), .ref a11]] hz0) := by
  refine Met.ofW (cc := cX6_reduce) (maxL := 11) (ret := (some .int)) (by decide) rfl ?_
  intro p e s m args below meth c s₁ B hml hv
  obtain ⟨rfl, hsz, hG, hP, hD0⟩ := hv
  have hx := B.exec
  have hb := B.bytes
  have hr := B.returns
  have hts : ∀ w ∈ wsL_law, w.before _ s = true := fun w h => atoms_spec (ws := (ws_ yX6_reduce cX6_reduce 11 (some .int))) B.pre w (List.mem_cons_of_mem _ h)
  have hown : s.vm.findClass RX6 = some m.cls := findClass_of_methodNamed B.named
  have hlk := B.notSynchronized
  have hC : CallFix p m c cX6_reduce 11 s _ wsL_law RX6 := ⟨hx, hb, hml, hown, hts⟩
  subst hsz
  have hD := hD0.self (sz := s.heap.size)
  generalize hAe : va_A [oO mo 6 [.int th, .ref a1, .int (nI nC), .ref a2, .ref a3, .ref a4, .ref a5, .ref a6, .ref a7, .ref a8, .ref a9, .int (nI nS), .ref a10, .int (nI nM), .ref a11]] s.heap.size = A at hD ⊢
  have hA : ∀ q : Nat, s.heap.size ≤ q → A q := fun q h => by rw [← hAe]; exact Or.inr h
  have hS : va_S A s.heap s.heap [] := va_S.rf
  obtain ⟨H, hHe⟩ : ∃ H, H = s.heap := ⟨_, rfl⟩
  rw [← hHe] at hP
  have hS : va_S A s.heap H [] := by rw [hHe]; exact hS
  have hl := lv_entry ([.ref mo, .int x, .int y, .int u0]) (n := 11) (Nat.le_of_ble_eq_true rfl)
  rw [lg_entry_eq]
  generalize (lg_sl ([.ref mo, .int x, .int y, .int u0]) ++ List.replicate (11 - (lg_sl ([.ref mo, .int x, .int y, .int u0])).length) Slot.unset).toArray = ls at hl ⊢
  have hl : lv_has ls 11 [(0, .ref mo), (1, .int x), (2, .int y), (3, .int u0)] := hl
  rw [← hHe]
  refine lv_aload_n hx hb dX6_reduce_0 rfl (lv_at hl 0 rfl) ?_
  refine lv_iconst (v := 0) hx hb dX6_reduce_1 (by decide) ?_
  refine va_put (D := D) (ci := 6) (v := .int 0) (ty := .int) (C := RX6) (T := TX6) (N := 15) hx hb hts inlX6 tyX6 tyX6_ok nmX6 hown hG.K hP hD hS 0 rfl rfl 0 (by decide) (hts _ mF_X6_43) (fun _ h9 => h9) rfl (by decide +kernel) rfl rfl (Nat.le_of_ble_eq_true rfl) dX6_reduce_2 (fun H locs hP hD hS => ?_)
  have hP : va_P D cls [oO mo 6 [.int 0, .ref a1, .int (nI nC), .ref a2, .ref a3, .ref a4, .ref a5, .ref a6, .ref a7, .ref a8, .ref a9, .int (nI nS), .ref a10, .int (nI nM), .ref a11]] H := hP
  have hD : va_D A [oO mo 6 [.int 0, .ref a1, .int (nI nC), .ref a2, .ref a3, .ref a4, .ref a5, .ref a6, .ref a7, .ref a8, .ref a9, .int (nI nS), .ref a10, .int (nI nM), .ref a11]] := hD
  refine lv_aload_n hx hb dX6_reduce_5 rfl (lv_at hl 0 rfl) ?_
  refine lv_iload_n hx hb dX6_reduce_6 rfl (lv_at hl 1 rfl) ?_
  refine lv_iload_n hx hb dX6_reduce_7 rfl (lv_at hl 2 rfl) ?_
  have hP9 := hP
  refine vp_callSi (pV (rest := []) (qc := (RX6, TX6, 15)) [.int x, .int y] 2 hC (m_isTrack_no1 l D (mo := mo) (x := x) (y := y) (th := 0) (a1 := a1) (nC := nC) (a2 := a2) (a3 := a3) (a4 := a4) (a5 := a5) (a6 := a6) (a7 := a7) (a8 := a8) (a9 := a9) (nS := nS) (a10 := a10) (nM := nM) (a11 := a11) (by omega) (hxx)) rfl (hP 0 _ rfl) (gV mM_X6_74 mI_X6_isTrack mS_X6_isTrack mN_X6 mC_X6_isTrack) (by decide +kernel) rfl rfl ⟨Nat.le_of_ble_eq_true rfl, Nat.le_of_ble_eq_true rfl⟩ hG hP9 rfl hl.1 rfl (Nat.le_of_ble_eq_true rfl) dX6_reduce_8 ⟨Nat.le_of_ble_eq_true rfl, Nat.le_of_ble_eq_true rfl⟩) (fun r8 h8 => ?_)
  obtain rfl : r8 = 0 := h8
  refine lv_if_ne (tgt := 20) hx hb dX6_reduce_11 (by decide) (fun h9 => (h9 (by decide)).elim) (fun _ => ?_)
  refine lv_aload_n hx hb dX6_reduce_14 rfl (lv_at hl 0 rfl) ?_
  refine lv_iconst (v := 1) hx hb dX6_reduce_15 (by decide) ?_
  have hP9 := hP.sub (ws' := [oO mo 6 [.int 0, .ref a1, .int (nI nC), .ref a2, .ref a3, .ref a4, .ref a5, .ref a6, .ref a7, .ref a8, .ref a9, .int (nI nS), .ref a10, .int (nI nM), .ref a11]]) [0] rfl
  have hD9 := (hD.sub (ws' := [oO mo 6 [.int 0, .ref a1, .int (nI nC), .ref a2, .ref a3, .ref a4, .ref a5, .ref a6, .ref a7, .ref a8, .ref a9, .int (nI nS), .ref a10, .int (nI nM), .ref a11]]) [0] (by decide) rfl).weaken (B := fun _ => True) (fun _ _ _ _ => trivial)
  refine ki (wr := []) (rV (rest := []) (qc := (RX6, TX6, 15)) [.int 1] 1 0 0 hC (m_no l D (mo := mo) (x := 1) (th := 0) (a1 := a1) (nC := nC) (a2 := a2) (a3 := a3) (a4 := a4) (a5 := a5) (a6 := a6) (a7 := a7) (a8 := a8) (a9 := a9) (nS := nS) (a10 := a10) (nM := nM) (a11 := a11) (hz0 := H.size) ) rfl (hP 0 _ rfl) (gV mM_X6_66 mI_X6_no mS_X6_no mN_X6 mC_X6_no) (by decide +kernel) rfl rfl ⟨Nat.le_of_ble_eq_true rfl, Nat.le_of_ble_eq_true rfl⟩ hG hP9 hD9 rfl hl.1 rfl (Nat.le_of_ble_eq_true rfl) dX6_reduce_16 ⟨Nat.le_of_ble_eq_true rfl, Nat.le_of_ble_eq_true rfl⟩) hP hD hS hA [0] [] rfl rfl (by decide) (by decide) (fun r16 u16 H locs h16 hP hD hS hz hfr => ?_)
  have hP : va_P D cls [oO mo 6 [.int 1, .ref a1, .int (nI nC), .ref a2, .ref a3, .ref a4, .ref a5, .ref a6, .ref a7, .ref a8, .ref a9, .int (nI nS), .ref a10, .int (nI nM), .ref a11]] H := hP
  have hD : va_D A [oO mo 6 [.int 1, .ref a1, .int (nI nC), .ref a2, .ref a3, .ref a4, .ref a5, .ref a6, .ref a7, .ref a8, .ref a9, .int (nI nS), .ref a10, .int (nI nM), .ref a11]] := hD
  obtain rfl : r16 = 0 := h16
  refine Wi () hx hb hr hlk ?_ hP hD hS (Nat.le_of_ble_eq_true rfl) (by first | exact Nat.le_of_ble_eq_true rfl | exact Nat.le_of_eq (Nat.zero_add _)) dX6_reduce_19
  exact rfl
set_option maxHeartbeats 400000 in
set_option maxRecDepth 100000 in
theorem m_reduce_1b (l : Launch) (D : va_G) {mo a1 a2 a3 a4 a5 a6 a7 a8 a9 a10 a11 nC nS nM : Nat} {th : Int32} {i : Nat} {y u0 : Int32} (hz0 : Nat) (hn : nC ≤ 6) (hi : i < nC) (hyy : ¬ ((0 : Int32) ≤ y ∧ y ≤ 3)) : Met l yX6_reduce (ws_ yX6_reduce cX6_reduce 11 (some .int)) ({ frames := 4, cells := 0, slots := 0, locals := 101 } : Room) (va_Pc [.ref mo, .int (nI i), .int y, .int u0] (SW D [oO mo 6 [.int th, .ref a1, .int (nI nC), .ref a2, .ref a3, .ref a4, .ref a5, .ref a6, .ref a7, .ref a8, .ref a9, .int (nI nS), .ref a10, .int (nI nM), .ref a11]] hz0)) (va_Qi (fun v _ => v = 0) (AT D (va_A [oO mo 6 [.int th, .ref a1, .int (nI nC), .ref a2, .ref a3, .ref a4, .ref a5, .ref a6, .ref a7, .ref a8, .ref a9, .int (nI nS), .ref a10, .int (nI nM), .ref a11]] hz0) (fun _ : Unit => [oO mo 6 [.int 1, .ref a1, .int (nI nC), .ref a2, .ref a3, .ref a4, .ref a5, .ref a6, .ref a7, .ref a8, .ref a9, .int (nI nS), .ref a10, .int (nI nM), .ref a11]])) (va_A [oO mo 6 [.int th, .ref a1, .int (nI nC), .ref a2, .ref a3, .ref a4, .ref a5, .ref a6, .ref a7, .ref a8, .ref a9, .int (nI nS), .ref a10, .int (nI nM), .ref a11]] hz0)) 0 0 (va_A [oO mo 6 [.int th, .ref a1, .int (nI nC), .ref a2, .ref a3, .ref a4, .ref a5, .ref a6, .ref a7, .ref a8, .ref a9, .int (nI nS), .ref a10, .int (nI nM), .ref a11]] hz0) := by
  refine Met.ofW (cc := cX6_reduce) (maxL := 11) (ret := (some .int)) (by decide) rfl ?_
  intro p e s m args below meth c s₁ B hml hv
  obtain ⟨rfl, hsz, hG, hP, hD0⟩ := hv
  have hx := B.exec
  have hb := B.bytes
  have hr := B.returns
  have hts : ∀ w ∈ wsL_law, w.before _ s = true := fun w h => atoms_spec (ws := (ws_ yX6_reduce cX6_reduce 11 (some .int))) B.pre w (List.mem_cons_of_mem _ h)
  have hown : s.vm.findClass RX6 = some m.cls := findClass_of_methodNamed B.named
  have hlk := B.notSynchronized
  have hC : CallFix p m c cX6_reduce 11 s _ wsL_law RX6 := ⟨hx, hb, hml, hown, hts⟩
  subst hsz
  have hD := hD0.self (sz := s.heap.size)
  generalize hAe : va_A [oO mo 6 [.int th, .ref a1, .int (nI nC), .ref a2, .ref a3, .ref a4, .ref a5, .ref a6, .ref a7, .ref a8, .ref a9, .int (nI nS), .ref a10, .int (nI nM), .ref a11]] s.heap.size = A at hD ⊢
  have hA : ∀ q : Nat, s.heap.size ≤ q → A q := fun q h => by rw [← hAe]; exact Or.inr h
  have hS : va_S A s.heap s.heap [] := va_S.rf
  obtain ⟨H, hHe⟩ : ∃ H, H = s.heap := ⟨_, rfl⟩
  rw [← hHe] at hP
  have hS : va_S A s.heap H [] := by rw [hHe]; exact hS
  have hl := lv_entry ([.ref mo, .int (nI i), .int y, .int u0]) (n := 11) (Nat.le_of_ble_eq_true rfl)
  rw [lg_entry_eq]
  generalize (lg_sl ([.ref mo, .int (nI i), .int y, .int u0]) ++ List.replicate (11 - (lg_sl ([.ref mo, .int (nI i), .int y, .int u0])).length) Slot.unset).toArray = ls at hl ⊢
  have hl : lv_has ls 11 [(0, .ref mo), (1, .int (nI i)), (2, .int y), (3, .int u0)] := hl
  rw [← hHe]
  refine lv_aload_n hx hb dX6_reduce_0 rfl (lv_at hl 0 rfl) ?_
  refine lv_iconst (v := 0) hx hb dX6_reduce_1 (by decide) ?_
  refine va_put (D := D) (ci := 6) (v := .int 0) (ty := .int) (C := RX6) (T := TX6) (N := 15) hx hb hts inlX6 tyX6 tyX6_ok nmX6 hown hG.K hP hD hS 0 rfl rfl 0 (by decide) (hts _ mF_X6_43) (fun _ h9 => h9) rfl (by decide +kernel) rfl rfl (Nat.le_of_ble_eq_true rfl) dX6_reduce_2 (fun H locs hP hD hS => ?_)
  have hP : va_P D cls [oO mo 6 [.int 0, .ref a1, .int (nI nC), .ref a2, .ref a3, .ref a4, .ref a5, .ref a6, .ref a7, .ref a8, .ref a9, .int (nI nS), .ref a10, .int (nI nM), .ref a11]] H := hP
  have hD : va_D A [oO mo 6 [.int 0, .ref a1, .int (nI nC), .ref a2, .ref a3, .ref a4, .ref a5, .ref a6, .ref a7, .ref a8, .ref a9, .int (nI nS), .ref a10, .int (nI nM), .ref a11]] := hD
  refine lv_aload_n hx hb dX6_reduce_5 rfl (lv_at hl 0 rfl) ?_
  refine lv_iload_n hx hb dX6_reduce_6 rfl (lv_at hl 1 rfl) ?_
  refine lv_iload_n hx hb dX6_reduce_7 rfl (lv_at hl 2 rfl) ?_
  have hP9 := hP
  refine vp_callSi (pV (rest := []) (qc := (RX6, TX6, 15)) [.int (nI i), .int y] 2 hC (m_isTrack_no2 l D (mo := mo) (i := i) (y := y) (th := 0) (a1 := a1) (nC := nC) (a2 := a2) (a3 := a3) (a4 := a4) (a5 := a5) (a6 := a6) (a7 := a7) (a8 := a8) (a9 := a9) (nS := nS) (a10 := a10) (nM := nM) (a11 := a11) (by omega) (by omega) (hyy)) rfl (hP 0 _ rfl) (gV mM_X6_74 mI_X6_isTrack mS_X6_isTrack mN_X6 mC_X6_isTrack) (by decide +kernel) rfl rfl ⟨Nat.le_of_ble_eq_true rfl, Nat.le_of_ble_eq_true rfl⟩ hG hP9 rfl hl.1 rfl (Nat.le_of_ble_eq_true rfl) dX6_reduce_8 ⟨Nat.le_of_ble_eq_true rfl, Nat.le_of_ble_eq_true rfl⟩) (fun r8 h8 => ?_)
  obtain rfl : r8 = 0 := h8
  refine lv_if_ne (tgt := 20) hx hb dX6_reduce_11 (by decide) (fun h9 => (h9 (by decide)).elim) (fun _ => ?_)
  refine lv_aload_n hx hb dX6_reduce_14 rfl (lv_at hl 0 rfl) ?_
  refine lv_iconst (v := 1) hx hb dX6_reduce_15 (by decide) ?_
  have hP9 := hP.sub (ws' := [oO mo 6 [.int 0, .ref a1, .int (nI nC), .ref a2, .ref a3, .ref a4, .ref a5, .ref a6, .ref a7, .ref a8, .ref a9, .int (nI nS), .ref a10, .int (nI nM), .ref a11]]) [0] rfl
  have hD9 := (hD.sub (ws' := [oO mo 6 [.int 0, .ref a1, .int (nI nC), .ref a2, .ref a3, .ref a4, .ref a5, .ref a6, .ref a7, .ref a8, .ref a9, .int (nI nS), .ref a10, .int (nI nM), .ref a11]]) [0] (by decide) rfl).weaken (B := fun _ => True) (fun _ _ _ _ => trivial)
  refine ki (wr := []) (rV (rest := []) (qc := (RX6, TX6, 15)) [.int 1] 1 0 0 hC (m_no l D (mo := mo) (x := 1) (th := 0) (a1 := a1) (nC := nC) (a2 := a2) (a3 := a3) (a4 := a4) (a5 := a5) (a6 := a6) (a7 := a7) (a8 := a8) (a9 := a9) (nS := nS) (a10 := a10) (nM := nM) (a11 := a11) (hz0 := H.size) ) rfl (hP 0 _ rfl) (gV mM_X6_66 mI_X6_no mS_X6_no mN_X6 mC_X6_no) (by decide +kernel) rfl rfl ⟨Nat.le_of_ble_eq_true rfl, Nat.le_of_ble_eq_true rfl⟩ hG hP9 hD9 rfl hl.1 rfl (Nat.le_of_ble_eq_true rfl) dX6_reduce_16 ⟨Nat.le_of_ble_eq_true rfl, Nat.le_of_ble_eq_true rfl⟩) hP hD hS hA [0] [] rfl rfl (by decide) (by decide) (fun r16 u16 H locs h16 hP hD hS hz hfr => ?_)
  have hP : va_P D cls [oO mo 6 [.int 1, .ref a1, .int (nI nC), .ref a2, .ref a3, .ref a4, .ref a5, .ref a6, .ref a7, .ref a8, .ref a9, .int (nI nS), .ref a10, .int (nI nM), .ref a11]] H := hP
  have hD : va_D A [oO mo 6 [.int 1, .ref a1, .int (nI nC), .ref a2, .ref a3, .ref a4, .ref a5, .ref a6, .ref a7, .ref a8, .ref a9, .int (nI nS), .ref a10, .int (nI nM), .ref a11]] := hD
  obtain rfl : r16 = 0 := h16
  refine Wi () hx hb hr hlk ?_ hP hD hS (Nat.le_of_ble_eq_true rfl) (by first | exact Nat.le_of_ble_eq_true rfl | exact Nat.le_of_eq (Nat.zero_add _)) dX6_reduce_19
  exact rfl
set_option maxHeartbeats 400000 in
set_option maxRecDepth 100000 in
theorem m_reduce_2 (l : Launch) (D : va_G) {mo a1 a2 a3 a4 a5 a6 a7 a8 a9 a10 a11 nC nS nM : Nat} {th : Int32} {i j : Nat} {tol : Int32} (hz0 : Nat) (hn : nC ≤ 6) (hi : i < nC) (hj : j < 4) (h : ¬ ((0 : Int32) ≤ tol ∧ tol ≤ 1000)) : Met l yX6_reduce (ws_ yX6_reduce cX6_reduce 11 (some .int)) ({ frames := 4, cells := 0, slots := 0, locals := 101 } : Room) (va_Pc [.ref mo, .int (nI i), .int (nI j), .int tol] (SW D [oO mo 6 [.int th, .ref a1, .int (nI nC), .ref a2, .ref a3, .ref a4, .ref a5, .ref a6, .ref a7, .ref a8, .ref a9, .int (nI nS), .ref a10, .int (nI nM), .ref a11]] hz0)) (va_Qi (fun v _ => v = 0) (AT D (va_A [oO mo 6 [.int th, .ref a1, .int (nI nC), .ref a2, .ref a3, .ref a4, .ref a5, .ref a6, .ref a7, .ref a8, .ref a9, .int (nI nS), .ref a10, .int (nI nM), .ref a11]] hz0) (fun _ : Unit => [oO mo 6 [.int 2, .ref a1, .int (nI nC), .ref a2, .ref a3, .ref a4, .ref a5, .ref a6, .ref a7, .ref a8, .ref a9, .int (nI nS), .ref a10, .int (nI nM), .ref a11]])) (va_A [oO mo 6 [.int th, .ref a1, .int (nI nC), .ref a2, .ref a3, .ref a4, .ref a5, .ref a6, .ref a7, .ref a8, .ref a9, .int (nI nS), .ref a10, .int (nI nM), .ref a11]] hz0)) 0 0 (va_A [oO mo 6 [.int th, .ref a1, .int (nI nC), .ref a2, .ref a3, .ref a4, .ref a5, .ref a6, .ref a7, .ref a8, .ref a9, .int (nI nS), .ref a10, .int (nI nM), .ref a11]] hz0) := by
  refine Met.ofW (cc := cX6_reduce) (maxL := 11) (ret := (some .int)) (by decide) rfl ?_
  intro p e s m args below meth c s₁ B hml hv
  obtain ⟨rfl, hsz, hG, hP, hD0⟩ := hv
  have hx := B.exec
  have hb := B.bytes
  have hr := B.returns
  have hts : ∀ w ∈ wsL_law, w.before _ s = true := fun w h => atoms_spec (ws := (ws_ yX6_reduce cX6_reduce 11 (some .int))) B.pre w (List.mem_cons_of_mem _ h)
  have hown : s.vm.findClass RX6 = some m.cls := findClass_of_methodNamed B.named
  have hlk := B.notSynchronized
  have hC : CallFix p m c cX6_reduce 11 s _ wsL_law RX6 := ⟨hx, hb, hml, hown, hts⟩
  subst hsz
  have hD := hD0.self (sz := s.heap.size)
  generalize hAe : va_A [oO mo 6 [.int th, .ref a1, .int (nI nC), .ref a2, .ref a3, .ref a4, .ref a5, .ref a6, .ref a7, .ref a8, .ref a9, .int (nI nS), .ref a10, .int (nI nM), .ref a11]] s.heap.size = A at hD ⊢
  have hA : ∀ q : Nat, s.heap.size ≤ q → A q := fun q h => by rw [← hAe]; exact Or.inr h
  have hS : va_S A s.heap s.heap [] := va_S.rf
  obtain ⟨H, hHe⟩ : ∃ H, H = s.heap := ⟨_, rfl⟩
  rw [← hHe] at hP
  have hS : va_S A s.heap H [] := by rw [hHe]; exact hS
  have hl := lv_entry ([.ref mo, .int (nI i), .int (nI j), .int tol]) (n := 11) (Nat.le_of_ble_eq_true rfl)
  rw [lg_entry_eq]
  generalize (lg_sl ([.ref mo, .int (nI i), .int (nI j), .int tol]) ++ List.replicate (11 - (lg_sl ([.ref mo, .int (nI i), .int (nI j), .int tol])).length) Slot.unset).toArray = ls at hl ⊢
  have hl : lv_has ls 11 [(0, .ref mo), (1, .int (nI i)), (2, .int (nI j)), (3, .int tol)] := hl
  rw [← hHe]
  refine lv_aload_n hx hb dX6_reduce_0 rfl (lv_at hl 0 rfl) ?_
  refine lv_iconst (v := 0) hx hb dX6_reduce_1 (by decide) ?_
  refine va_put (D := D) (ci := 6) (v := .int 0) (ty := .int) (C := RX6) (T := TX6) (N := 15) hx hb hts inlX6 tyX6 tyX6_ok nmX6 hown hG.K hP hD hS 0 rfl rfl 0 (by decide) (hts _ mF_X6_43) (fun _ h9 => h9) rfl (by decide +kernel) rfl rfl (Nat.le_of_ble_eq_true rfl) dX6_reduce_2 (fun H locs hP hD hS => ?_)
  have hP : va_P D cls [oO mo 6 [.int 0, .ref a1, .int (nI nC), .ref a2, .ref a3, .ref a4, .ref a5, .ref a6, .ref a7, .ref a8, .ref a9, .int (nI nS), .ref a10, .int (nI nM), .ref a11]] H := hP
  have hD : va_D A [oO mo 6 [.int 0, .ref a1, .int (nI nC), .ref a2, .ref a3, .ref a4, .ref a5, .ref a6, .ref a7, .ref a8, .ref a9, .int (nI nS), .ref a10, .int (nI nM), .ref a11]] := hD
  refine lv_aload_n hx hb dX6_reduce_5 rfl (lv_at hl 0 rfl) ?_
  refine lv_iload_n hx hb dX6_reduce_6 rfl (lv_at hl 1 rfl) ?_
  refine lv_iload_n hx hb dX6_reduce_7 rfl (lv_at hl 2 rfl) ?_
  have hP9 := hP
  refine vp_callSi (pV (rest := []) (qc := (RX6, TX6, 15)) [.int (nI i), .int (nI j)] 2 hC (m_isTrack l D (mo := mo) (i := i) (j := j) (th := 0) (a1 := a1) (nC := nC) (a2 := a2) (a3 := a3) (a4 := a4) (a5 := a5) (a6 := a6) (a7 := a7) (a8 := a8) (a9 := a9) (nS := nS) (a10 := a10) (nM := nM) (a11 := a11) (by omega) (by omega) (by omega)) rfl (hP 0 _ rfl) (gV mM_X6_74 mI_X6_isTrack mS_X6_isTrack mN_X6 mC_X6_isTrack) (by decide +kernel) rfl rfl ⟨Nat.le_of_ble_eq_true rfl, Nat.le_of_ble_eq_true rfl⟩ hG hP9 rfl hl.1 rfl (Nat.le_of_ble_eq_true rfl) dX6_reduce_8 ⟨Nat.le_of_ble_eq_true rfl, Nat.le_of_ble_eq_true rfl⟩) (fun r8 h8 => ?_)
  obtain rfl : r8 = 1 := h8
  refine lv_if_ne (tgt := 20) hx hb dX6_reduce_11 (by decide) (fun _ => ?_) (fun h9 => absurd h9 (by decide))
  refine lv_iload_n hx hb dX6_reduce_20 rfl (lv_at hl 3 rfl) ?_
  refine lv_iconst (v := 0) hx hb dX6_reduce_21 (by decide) ?_
  refine lv_sipush (v := 1000) hx hb dX6_reduce_22 (by decide) ?_
  have hP9 : va_P D cls [] H := fun k q h => by simp at h
  refine vp_callSi (pS (rest := []) [.int tol, .int 0, .int 1000] 3 hC (m_isIn l D (x := tol) (a := 0) (b := 1000) ) (gS mM_X6_50 mT_X6_isIn mN_X6 mC_X6_isIn) (by decide +kernel) rfl rfl ⟨Nat.le_of_ble_eq_true rfl, Nat.le_of_ble_eq_true rfl⟩ hG hP9 rfl hl.1 rfl (Nat.le_of_ble_eq_true rfl) dX6_reduce_25 ⟨Nat.le_of_ble_eq_true rfl, Nat.le_of_ble_eq_true rfl⟩) (fun r25 h25 => ?_)
  rcases h25 with ⟨rfl, hb25⟩ | ⟨rfl, hb25⟩
  · exact absurd hb25 (h)
  refine lv_if_ne (tgt := 37) hx hb dX6_reduce_28 (by decide) (fun h9 => (h9 (by decide)).elim) (fun _ => ?_)
  refine lv_aload_n hx hb dX6_reduce_31 rfl (lv_at hl 0 rfl) ?_
  refine lv_iconst (v := 2) hx hb dX6_reduce_32 (by decide) ?_
  have hP9 := hP.sub (ws' := [oO mo 6 [.int 0, .ref a1, .int (nI nC), .ref a2, .ref a3, .ref a4, .ref a5, .ref a6, .ref a7, .ref a8, .ref a9, .int (nI nS), .ref a10, .int (nI nM), .ref a11]]) [0] rfl
  have hD9 := (hD.sub (ws' := [oO mo 6 [.int 0, .ref a1, .int (nI nC), .ref a2, .ref a3, .ref a4, .ref a5, .ref a6, .ref a7, .ref a8, .ref a9, .int (nI nS), .ref a10, .int (nI nM), .ref a11]]) [0] (by decide) rfl).weaken (B := fun _ => True) (fun _ _ _ _ => trivial)
  refine ki (wr := []) (rV (rest := []) (qc := (RX6, TX6, 15)) [.int 2] 1 0 0 hC (m_no l D (mo := mo) (x := 2) (th := 0) (a1 := a1) (nC := nC) (a2 := a2) (a3 := a3) (a4 := a4) (a5 := a5) (a6 := a6) (a7 := a7) (a8 := a8) (a9 := a9) (nS := nS) (a10 := a10) (nM := nM) (a11 := a11) (hz0 := H.size) ) rfl (hP 0 _ rfl) (gV mM_X6_66 mI_X6_no mS_X6_no mN_X6 mC_X6_no) (by decide +kernel) rfl rfl ⟨Nat.le_of_ble_eq_true rfl, Nat.le_of_ble_eq_true rfl⟩ hG hP9 hD9 rfl hl.1 rfl (Nat.le_of_ble_eq_true rfl) dX6_reduce_33 ⟨Nat.le_of_ble_eq_true rfl, Nat.le_of_ble_eq_true rfl⟩) hP hD hS hA [0] [] rfl rfl (by decide) (by decide) (fun r33 u33 H locs h33 hP hD hS hz hfr => ?_)
  have hP : va_P D cls [oO mo 6 [.int 2, .ref a1, .int (nI nC), .ref a2, .ref a3, .ref a4, .ref a5, .ref a6, .ref a7, .ref a8, .ref a9, .int (nI nS), .ref a10, .int (nI nM), .ref a11]] H := hP
  have hD : va_D A [oO mo 6 [.int 2, .ref a1, .int (nI nC), .ref a2, .ref a3, .ref a4, .ref a5, .ref a6, .ref a7, .ref a8, .ref a9, .int (nI nS), .ref a10, .int (nI nM), .ref a11]] := hD
  obtain rfl : r33 = 0 := h33
  refine Wi () hx hb hr hlk ?_ hP hD hS (Nat.le_of_ble_eq_true rfl) (by first | exact Nat.le_of_ble_eq_true rfl | exact Nat.le_of_eq (Nat.zero_add _)) dX6_reduce_36
  exact rfl
set_option maxHeartbeats 400000 in
set_option maxRecDepth 100000 in
theorem m_reduce_few (l : Launch) (D : va_G) {mo a1 a2 a3 a4 a5 a6 a7 a8 a9 a10 a11 nC nS nM : Nat} {th : Int32} {ln ks tm wo ea ft fv fe : Nat → Int32} {i j n L : Nat} {tol : Int32} (hz0 : Nat) (hn : nC ≤ 6) (hi : i < nC) (hj : j < 4) (h : (0 : Int32) ≤ tol ∧ tol ≤ 1000) (hln : ln i = nI L) (hL : L ≤ 2000) (hks : ks (4 * i + j) = nI n) (h16 : n ≤ 16) (htm : ∀ k, k < n → tm (16 * (4 * i + j) + k) = ft k) (hwo : ∀ k, k < n → wo (16 * (4 * i + j) + k) = fv k) (hea : ∀ k, k < n → ea (16 * (4 * i + j) + k) = fe k) (hT : tOK ft n) (hV : ∀ k, k < n → -10000 ≤ (fv k).toInt ∧ (fv k).toInt ≤ 10000) (hLt : ∀ k, k < n → (ft k).toInt ≤ L) (h3 : n < 3) : Met l yX6_reduce (ws_ yX6_reduce cX6_reduce 11 (some .int)) ({ frames := 4, cells := 1, slots := 2001, locals := 101 } : Room) (va_Pc [.ref mo, .int (nI i), .int (nI j), .int tol] (SW D [oO mo 6 [.int th, .ref a1, .int (nI nC), .ref a2, .ref a3, .ref a4, .ref a5, .ref a6, .ref a7, .ref a8, .ref a9, .int (nI nS), .ref a10, .int (nI nM), .ref a11], aI D a2 6 ln, aI D a3 24 ks, aI D a4 384 tm, aI D a5 384 wo, aI D a6 384 ea] hz0)) (va_Qi (fun v _ => v = nI n) (AT D (va_A [oO mo 6 [.int th, .ref a1, .int (nI nC), .ref a2, .ref a3, .ref a4, .ref a5, .ref a6, .ref a7, .ref a8, .ref a9, .int (nI nS), .ref a10, .int (nI nM), .ref a11], aI D a2 6 ln, aI D a3 24 ks, aI D a4 384 tm, aI D a5 384 wo, aI D a6 384 ea] hz0) (fun _ : Unit => [oO mo 6 [.int 0, .ref a1, .int (nI nC), .ref a2, .ref a3, .ref a4, .ref a5, .ref a6, .ref a7, .ref a8, .ref a9, .int (nI nS), .ref a10, .int (nI nM), .ref a11], aI D a2 6 ln, aI D a3 24 ks, aI D a4 384 tm, aI D a5 384 wo, aI D a6 384 ea])) (va_A [oO mo 6 [.int th, .ref a1, .int (nI nC), .ref a2, .ref a3, .ref a4, .ref a5, .ref a6, .ref a7, .ref a8, .ref a9, .int (nI nS), .ref a10, .int (nI nM), .ref a11], aI D a2 6 ln, aI D a3 24 ks, aI D a4 384 tm, aI D a5 384 wo, aI D a6 384 ea] hz0)) 1 2001 (va_A [oO mo 6 [.int th, .ref a1, .int (nI nC), .ref a2, .ref a3, .ref a4, .ref a5, .ref a6, .ref a7, .ref a8, .ref a9, .int (nI nS), .ref a10, .int (nI nM), .ref a11], aI D a2 6 ln, aI D a3 24 ks, aI D a4 384 tm, aI D a5 384 wo, aI D a6 384 ea] hz0) := by
  refine Met.ofW (cc := cX6_reduce) (maxL := 11) (ret := (some .int)) (by decide) rfl ?_
  intro p e s m args below meth c s₁ B hml hv
  obtain ⟨rfl, hsz, hG, hP, hD0⟩ := hv
  have hx := B.exec
  have hb := B.bytes
  have hr := B.returns
  have hts : ∀ w ∈ wsL_law, w.before _ s = true := fun w h => atoms_spec (ws := (ws_ yX6_reduce cX6_reduce 11 (some .int))) B.pre w (List.mem_cons_of_mem _ h)
  have hown : s.vm.findClass RX6 = some m.cls := findClass_of_methodNamed B.named
  have hlk := B.notSynchronized
  have hC : CallFix p m c cX6_reduce 11 s _ wsL_law RX6 := ⟨hx, hb, hml, hown, hts⟩
  subst hsz
  have hD := hD0.self (sz := s.heap.size)
  generalize hAe : va_A [oO mo 6 [.int th, .ref a1, .int (nI nC), .ref a2, .ref a3, .ref a4, .ref a5, .ref a6, .ref a7, .ref a8, .ref a9, .int (nI nS), .ref a10, .int (nI nM), .ref a11], aI D a2 6 ln, aI D a3 24 ks, aI D a4 384 tm, aI D a5 384 wo, aI D a6 384 ea] s.heap.size = A at hD ⊢
  have hA : ∀ q : Nat, s.heap.size ≤ q → A q := fun q h => by rw [← hAe]; exact Or.inr h
  have hS : va_S A s.heap s.heap [] := va_S.rf
  obtain ⟨H, hHe⟩ : ∃ H, H = s.heap := ⟨_, rfl⟩
  rw [← hHe] at hP
  have hS : va_S A s.heap H [] := by rw [hHe]; exact hS
  have hl := lv_entry ([.ref mo, .int (nI i), .int (nI j), .int tol]) (n := 11) (Nat.le_of_ble_eq_true rfl)
  rw [lg_entry_eq]
  generalize (lg_sl ([.ref mo, .int (nI i), .int (nI j), .int tol]) ++ List.replicate (11 - (lg_sl ([.ref mo, .int (nI i), .int (nI j), .int tol])).length) Slot.unset).toArray = ls at hl ⊢
  have hl : lv_has ls 11 [(0, .ref mo), (1, .int (nI i)), (2, .int (nI j)), (3, .int tol)] := hl
  rw [← hHe]
  refine lv_aload_n hx hb dX6_reduce_0 rfl (lv_at hl 0 rfl) ?_
  refine lv_iconst (v := 0) hx hb dX6_reduce_1 (by decide) ?_
  refine va_put (D := D) (ci := 6) (v := .int 0) (ty := .int) (C := RX6) (T := TX6) (N := 15) hx hb hts inlX6 tyX6 tyX6_ok nmX6 hown hG.K hP hD hS 0 rfl rfl 0 (by decide) (hts _ mF_X6_43) (fun _ h9 => h9) rfl (by decide +kernel) rfl rfl (Nat.le_of_ble_eq_true rfl) dX6_reduce_2 (fun H locs hP hD hS => ?_)
  have hP : va_P D cls [oO mo 6 [.int 0, .ref a1, .int (nI nC), .ref a2, .ref a3, .ref a4, .ref a5, .ref a6, .ref a7, .ref a8, .ref a9, .int (nI nS), .ref a10, .int (nI nM), .ref a11], aI D a2 6 ln, aI D a3 24 ks, aI D a4 384 tm, aI D a5 384 wo, aI D a6 384 ea] H := hP
  have hD : va_D A [oO mo 6 [.int 0, .ref a1, .int (nI nC), .ref a2, .ref a3, .ref a4, .ref a5, .ref a6, .ref a7, .ref a8, .ref a9, .int (nI nS), .ref a10, .int (nI nM), .ref a11], aI D a2 6 ln, aI D a3 24 ks, aI D a4 384 tm, aI D a5 384 wo, aI D a6 384 ea] := hD
  refine lv_aload_n hx hb dX6_reduce_5 rfl (lv_at hl 0 rfl) ?_
  refine lv_iload_n hx hb dX6_reduce_6 rfl (lv_at hl 1 rfl) ?_
  refine lv_iload_n hx hb dX6_reduce_7 rfl (lv_at hl 2 rfl) ?_
  have hP9 := hP.sub (ws' := [oO mo 6 [.int 0, .ref a1, .int (nI nC), .ref a2, .ref a3, .ref a4, .ref a5, .ref a6, .ref a7, .ref a8, .ref a9, .int (nI nS), .ref a10, .int (nI nM), .ref a11]]) [0] rfl
  refine vp_callSi (pV (rest := []) (qc := (RX6, TX6, 15)) [.int (nI i), .int (nI j)] 2 hC (m_isTrack l D (mo := mo) (i := i) (j := j) (th := 0) (a1 := a1) (nC := nC) (a2 := a2) (a3 := a3) (a4 := a4) (a5 := a5) (a6 := a6) (a7 := a7) (a8 := a8) (a9 := a9) (nS := nS) (a10 := a10) (nM := nM) (a11 := a11) (by omega) (by omega) (by omega)) rfl (hP 0 _ rfl) (gV mM_X6_74 mI_X6_isTrack mS_X6_isTrack mN_X6 mC_X6_isTrack) (by decide +kernel) rfl rfl ⟨Nat.le_of_ble_eq_true rfl, Nat.le_of_ble_eq_true rfl⟩ hG hP9 rfl hl.1 rfl (Nat.le_of_ble_eq_true rfl) dX6_reduce_8 ⟨Nat.le_of_ble_eq_true rfl, Nat.le_of_ble_eq_true rfl⟩) (fun r8 h8 => ?_)
  obtain rfl : r8 = 1 := h8
  refine lv_if_ne (tgt := 20) hx hb dX6_reduce_11 (by decide) (fun _ => ?_) (fun h9 => absurd h9 (by decide))
  refine lv_iload_n hx hb dX6_reduce_20 rfl (lv_at hl 3 rfl) ?_
  refine lv_iconst (v := 0) hx hb dX6_reduce_21 (by decide) ?_
  refine lv_sipush (v := 1000) hx hb dX6_reduce_22 (by decide) ?_
  have hP9 : va_P D cls [] H := fun k q h => by simp at h
  refine vp_callSi (pS (rest := []) [.int tol, .int 0, .int 1000] 3 hC (m_isIn l D (x := tol) (a := 0) (b := 1000) ) (gS mM_X6_50 mT_X6_isIn mN_X6 mC_X6_isIn) (by decide +kernel) rfl rfl ⟨Nat.le_of_ble_eq_true rfl, Nat.le_of_ble_eq_true rfl⟩ hG hP9 rfl hl.1 rfl (Nat.le_of_ble_eq_true rfl) dX6_reduce_25 ⟨Nat.le_of_ble_eq_true rfl, Nat.le_of_ble_eq_true rfl⟩) (fun r25 h25 => ?_)
  rcases h25 with ⟨rfl, hb25⟩ | ⟨rfl, hb25⟩
  rotate_left
  · exact absurd (h) hb25
  refine lv_if_ne (tgt := 37) hx hb dX6_reduce_28 (by decide) (fun _ => ?_) (fun h9 => absurd h9 (by decide))
  refine lv_iconst (v := 4) hx hb dX6_reduce_37 (by decide) ?_
  refine lv_iload_n hx hb dX6_reduce_38 rfl (lv_at hl 1 rfl) ?_
  refine lv_imul hx hb dX6_reduce_39 ?_
  refine tpi (y := nI (4 * i)) (pk_mul 4 i) ?_
  refine lv_iload_n hx hb dX6_reduce_40 rfl (lv_at hl 2 rfl) ?_
  refine lv_iadd hx hb dX6_reduce_41 ?_
  refine tpi (y := nI ((4 * i) + j)) (nI_add (4 * i) j) ?_
  refine lv_istore (lv' := [(4, .int (nI ((4 * i) + j))), (0, .ref mo), (1, .int (nI i)), (2, .int (nI j)), (3, .int tol)]) hx hb dX6_reduce_42 hl (by decide) rfl (fun ls hl => ?_)
  refine lv_aload_n hx hb dX6_reduce_44 rfl (lv_at hl 1 rfl) ?_
  refine va_get (D := D) (ci := 6) (v := .ref a2) (C := RX6) (T := TX6) (N := 15) hx hb hts inlX6 hown hG.K hP 0 rfl rfl 3 (by decide) (hts _ mF_X6_13) (fun _ h9 => h9) rfl dX6_reduce_45 ?_
  refine lv_iload_n hx hb dX6_reduce_48 rfl (lv_at hl 2 rfl) ?_
  refine ild (n := 6) (j := i) hx hb hG hP 1 rfl (by omega) (by omega) dX6_reduce_49 ?_
  refine tpi (y := nI L) (hln) ?_
  refine lv_iconst (v := 1) hx hb dX6_reduce_50 (by decide) ?_
  refine lv_iadd hx hb dX6_reduce_51 ?_
  refine tpi (y := nI (L + 1)) (nI_add L 1) ?_
  refine narI (N := (L + 1)) hx hb hG hts hP hD hS hA (nI_pos (by omega)) (nI_clamp (by omega)) (by omega) (Nat.le_of_ble_eq_true rfl) (by show _ ≤ 2001; omega) dX6_reduce_52 (fun bf H hP hD hS => ?_)
  have hP : va_P D cls [oO mo 6 [.int 0, .ref a1, .int (nI nC), .ref a2, .ref a3, .ref a4, .ref a5, .ref a6, .ref a7, .ref a8, .ref a9, .int (nI nS), .ref a10, .int (nI nM), .ref a11], aI D a2 6 ln, aI D a3 24 ks, aI D a4 384 tm, aI D a5 384 wo, aI D a6 384 ea, aI D bf (L + 1) (fun _ => 0)] H := hP
  have hD : va_D A [oO mo 6 [.int 0, .ref a1, .int (nI nC), .ref a2, .ref a3, .ref a4, .ref a5, .ref a6, .ref a7, .ref a8, .ref a9, .int (nI nS), .ref a10, .int (nI nM), .ref a11], aI D a2 6 ln, aI D a3 24 ks, aI D a4 384 tm, aI D a5 384 wo, aI D a6 384 ea, aI D bf (L + 1) (fun _ => 0)] := hD
  refine W.widen (k := 1) (n := 2001) (Nat.le_refl _) (by omega) ?_
  refine lv_astore (lv' := [(5, .ref bf), (4, .int (nI ((4 * i) + j))), (0, .ref mo), (1, .int (nI i)), (2, .int (nI j)), (3, .int tol)]) hx hb dX6_reduce_54 hl (by decide) rfl (fun ls hl => ?_)
  refine lv_iconst (v := 0) hx hb dX6_reduce_56 (by decide) ?_
  refine lv_istore (lv' := [(6, .int 0), (5, .ref bf), (4, .int (nI ((4 * i) + j))), (0, .ref mo), (1, .int (nI i)), (2, .int (nI j)), (3, .int tol)]) hx hb dX6_reduce_57 hl (by decide) rfl (fun ls hl => ?_)
  have loop59 : ∀ (d9 : Nat) (t0 : Nat) (bq : Nat → Int32), (L + 1 - t0) < d9 → (t0 ≤ L + 1) → ∀ (H : Heap) (locs : List Loc) (ls : Array Slot), va_P D cls [oO mo 6 [.int 0, .ref a1, .int (nI nC), .ref a2, .ref a3, .ref a4, .ref a5, .ref a6, .ref a7, .ref a8, .ref a9, .int (nI nS), .ref a10, .int (nI nM), .ref a11], aI D a2 6 ln, aI D a3 24 ks, aI D a4 384 tm, aI D a5 384 wo, aI D a6 384 ea, aI D bf (L + 1) bq] H → va_D A [oO mo 6 [.int 0, .ref a1, .int (nI nC), .ref a2, .ref a3, .ref a4, .ref a5, .ref a6, .ref a7, .ref a8, .ref a9, .int (nI nS), .ref a10, .int (nI nM), .ref a11], aI D a2 6 ln, aI D a3 24 ks, aI D a4 384 tm, aI D a5 384 wo, aI D a6 384 ea, aI D bf (L + 1) bq] → va_S A s.heap H locs → lv_has ls 11 [(0, .ref mo), (1, .int (nI i)), (2, .int (nI j)), (3, .int tol), (4, .int (nI (4 * i + j))), (5, .ref bf), (6, .int (nI t0))] → W p l e ({ frames := 4, cells := 1, slots := 2001, locals := 101 } : Room) s m ([.ref mo, .int (nI i), .int (nI j), .int tol] : List Value).toArray below meth c H locs 1 2001 (MQ below (va_Qi (fun v _ => v = nI n) (AT D A (fun _ : Unit => [oO mo 6 [.int 0, .ref a1, .int (nI nC), .ref a2, .ref a3, .ref a4, .ref a5, .ref a6, .ref a7, .ref a8, .ref a9, .int (nI nS), .ref a10, .int (nI nM), .ref a11], aI D a2 6 ln, aI D a3 24 ks, aI D a4 384 tm, aI D a5 384 wo, aI D a6 384 ea])) A) ([.ref mo, .int (nI i), .int (nI j), .int tol] : List Value).toArray s 1 2001 A) (F0 m 59 ls []) := by
    intro d9
    induction d9 with
    | zero => intro t0 bq hd; exact absurd hd (Nat.not_lt_zero _)
    | succ d9 ih59 =>
      intro t0 bq hd59 ht0 H locs ls hP hD hS hl
      refine lv_iload hx hb dX6_reduce_59 (lv_at hl 6 rfl) ?_
      refine lv_aload_n hx hb dX6_reduce_61 rfl (lv_at hl 0 rfl) ?_
      refine va_get (D := D) (ci := 6) (v := .ref a2) (C := RX6) (T := TX6) (N := 15) hx hb hts inlX6 hown hG.K hP 0 rfl rfl 3 (by decide) (hts _ mF_X6_13) (fun _ h9 => h9) rfl dX6_reduce_62 ?_
      refine lv_iload_n hx hb dX6_reduce_65 rfl (lv_at hl 1 rfl) ?_
      refine ild (n := 6) (j := i) hx hb hG hP 1 rfl (by omega) (by omega) dX6_reduce_66 ?_
      refine tpi (y := nI L) (hln) ?_
      refine lv_icmp_gt (tgt := 99) hx hb dX6_reduce_67 (by decide) (fun c67 => ?_) (fun c67 => ?_)
      · skip
        have n67 := (nI_ltI (a := L) (b := t0) (by omega) (by omega)).mp c67
        refine lv_iconst (v := 1) hx hb dX6_reduce_99 (by decide) ?_
        refine lv_istore (lv' := [(6, .int 1), (0, .ref mo), (1, .int (nI i)), (2, .int (nI j)), (3, .int tol), (4, .int (nI (4 * i + j))), (5, .ref bf)]) hx hb dX6_reduce_100 hl (by decide) rfl (fun ls hl => ?_)
        refine lv_iload hx hb dX6_reduce_102 (lv_at hl 0 rfl) ?_
        refine lv_iconst (v := 1) hx hb dX6_reduce_104 (by decide) ?_
        refine lv_iadd hx hb dX6_reduce_105 ?_
        refine tpi (y := nI (1 + 1)) (nI_add 1 1) ?_
        refine lv_aload_n hx hb dX6_reduce_106 rfl (lv_at hl 1 rfl) ?_
        refine va_get (D := D) (ci := 6) (v := .ref a3) (C := RX6) (T := TX6) (N := 15) hx hb hts inlX6 hown hG.K hP 0 rfl rfl 4 (by decide) (hts _ mF_X6_16) (fun _ h9 => h9) rfl dX6_reduce_107 ?_
        refine lv_iload hx hb dX6_reduce_110 (lv_at hl 5 rfl) ?_
        refine ild (n := 24) (j := 4 * i + j) hx hb hG hP 2 rfl (by omega) (by omega) dX6_reduce_112 ?_
        refine tpi (y := nI n) (hks) ?_
        refine lv_icmp_ge (tgt := 262) hx hb dX6_reduce_113 (by decide) (fun _ => ?_) (fun h9 => absurd ((nI_leI (a := n) (b := 1 + 1) (by omega) (by omega)).mpr (by omega)) h9)
        refine lv_aload_n hx hb dX6_reduce_262 rfl (lv_at hl 1 rfl) ?_
        refine va_get (D := D) (ci := 6) (v := .ref a3) (C := RX6) (T := TX6) (N := 15) hx hb hts inlX6 hown hG.K hP 0 rfl rfl 4 (by decide) (hts _ mF_X6_16) (fun _ h9 => h9) rfl dX6_reduce_263 ?_
        refine lv_iload hx hb dX6_reduce_266 (lv_at hl 5 rfl) ?_
        refine ild (n := 24) (j := 4 * i + j) hx hb hG hP 2 rfl (by omega) (by omega) dX6_reduce_268 ?_
        refine tpi (y := nI n) (hks) ?_
        refine Wi () hx hb hr hlk ?_ (hP.sub [0, 1, 2, 3, 4, 5] rfl) (hD.sub [0, 1, 2, 3, 4, 5] (by decide) rfl) hS (Nat.le_of_ble_eq_true rfl) (by first | exact Nat.le_of_ble_eq_true rfl | exact Nat.le_of_eq (Nat.zero_add _)) dX6_reduce_269
        exact rfl
      · skip
        have n67 := mt (nI_ltI (a := L) (b := t0) (by omega) (by omega)).mpr c67
        refine lv_aload_n hx hb dX6_reduce_70 rfl (lv_at hl 0 rfl) ?_
        refine va_get (D := D) (ci := 6) (v := .ref a3) (C := RX6) (T := TX6) (N := 15) hx hb hts inlX6 hown hG.K hP 0 rfl rfl 4 (by decide) (hts _ mF_X6_16) (fun _ h9 => h9) rfl dX6_reduce_71 ?_
        refine lv_iload hx hb dX6_reduce_74 (lv_at hl 4 rfl) ?_
        refine ild (n := 24) (j := 4 * i + j) hx hb hG hP 2 rfl (by omega) (by omega) dX6_reduce_76 ?_
        refine tpi (y := nI n) (hks) ?_
        refine lv_if_le (tgt := 99) hx hb dX6_reduce_77 (by decide) (fun c77 => ?_) (fun c77 => ?_)
        · skip
          have n77 := (nI_leI (a := n) (b := 0) (by omega) (by omega)).mp c77
          refine lv_iconst (v := 1) hx hb dX6_reduce_99 (by decide) ?_
          refine lv_istore (lv' := [(6, .int 1), (0, .ref mo), (1, .int (nI i)), (2, .int (nI j)), (3, .int tol), (4, .int (nI (4 * i + j))), (5, .ref bf)]) hx hb dX6_reduce_100 hl (by decide) rfl (fun ls hl => ?_)
          refine lv_iload hx hb dX6_reduce_102 (lv_at hl 0 rfl) ?_
          refine lv_iconst (v := 1) hx hb dX6_reduce_104 (by decide) ?_
          refine lv_iadd hx hb dX6_reduce_105 ?_
          refine tpi (y := nI (1 + 1)) (nI_add 1 1) ?_
          refine lv_aload_n hx hb dX6_reduce_106 rfl (lv_at hl 1 rfl) ?_
          refine va_get (D := D) (ci := 6) (v := .ref a3) (C := RX6) (T := TX6) (N := 15) hx hb hts inlX6 hown hG.K hP 0 rfl rfl 4 (by decide) (hts _ mF_X6_16) (fun _ h9 => h9) rfl dX6_reduce_107 ?_
          refine lv_iload hx hb dX6_reduce_110 (lv_at hl 5 rfl) ?_
          refine ild (n := 24) (j := 4 * i + j) hx hb hG hP 2 rfl (by omega) (by omega) dX6_reduce_112 ?_
          refine tpi (y := nI n) (hks) ?_
          refine lv_icmp_ge (tgt := 262) hx hb dX6_reduce_113 (by decide) (fun _ => ?_) (fun h9 => absurd ((nI_leI (a := n) (b := 1 + 1) (by omega) (by omega)).mpr (by omega)) h9)
          refine lv_aload_n hx hb dX6_reduce_262 rfl (lv_at hl 1 rfl) ?_
          refine va_get (D := D) (ci := 6) (v := .ref a3) (C := RX6) (T := TX6) (N := 15) hx hb hts inlX6 hown hG.K hP 0 rfl rfl 4 (by decide) (hts _ mF_X6_16) (fun _ h9 => h9) rfl dX6_reduce_263 ?_
          refine lv_iload hx hb dX6_reduce_266 (lv_at hl 5 rfl) ?_
          refine ild (n := 24) (j := 4 * i + j) hx hb hG hP 2 rfl (by omega) (by omega) dX6_reduce_268 ?_
          refine tpi (y := nI n) (hks) ?_
          refine Wi () hx hb hr hlk ?_ (hP.sub [0, 1, 2, 3, 4, 5] rfl) (hD.sub [0, 1, 2, 3, 4, 5] (by decide) rfl) hS (Nat.le_of_ble_eq_true rfl) (by first | exact Nat.le_of_ble_eq_true rfl | exact Nat.le_of_eq (Nat.zero_add _)) dX6_reduce_269
          exact rfl
        · skip
          have n77 := mt (nI_leI (a := n) (b := 0) (by omega) (by omega)).mpr c77
          have hn0 : 0 < n := by omega
          refine lv_aload hx hb dX6_reduce_80 (lv_at hl 5 rfl) ?_
          refine lv_iload hx hb dX6_reduce_82 (lv_at hl 6 rfl) ?_
          refine lv_aload_n hx hb dX6_reduce_84 rfl (lv_at hl 0 rfl) ?_
          refine lv_iload hx hb dX6_reduce_85 (lv_at hl 4 rfl) ?_
          refine lv_iload hx hb dX6_reduce_87 (lv_at hl 6 rfl) ?_
          have hP9 := hP.sub (ws' := [oO mo 6 [.int 0, .ref a1, .int (nI nC), .ref a2, .ref a3, .ref a4, .ref a5, .ref a6, .ref a7, .ref a8, .ref a9, .int (nI nS), .ref a10, .int (nI nM), .ref a11], aI D a3 24 ks, aI D a4 384 tm, aI D a5 384 wo, aI D a6 384 ea]) [0, 2, 3, 4, 5] rfl
          refine vp_callSi (pV (rest := [.int (nI t0), .ref bf]) (qc := (RX6, TX6, 15)) [.int (nI (4 * i + j)), .int (nI t0)] 2 hC (m_worth l D (k0 := 4 * i + j) (n := n) (ft := ft) (fv := fv) (fe := fe) (mo := mo) (x := nI t0) (th := 0) (a1 := a1) (nC := nC) (a2 := a2) (a3 := a3) (a4 := a4) (a5 := a5) (a6 := a6) (a7 := a7) (a8 := a8) (a9 := a9) (nS := nS) (a10 := a10) (nM := nM) (a11 := a11) (ks := ks) (tm := tm) (wo := wo) (ea := ea) (by omega) (hn0) (h16) (hks) (htm) (hwo) (hea) (hT) (hV)) rfl (hP 0 _ rfl) (gV mM_X6_99 mI_X6_worth mS_X6_worth mN_X6 mC_X6_worth) (by decide +kernel) rfl rfl ⟨Nat.le_of_ble_eq_true rfl, Nat.le_of_ble_eq_true rfl⟩ hG hP9 rfl hl.1 rfl (Nat.le_of_ble_eq_true rfl) dX6_reduce_89 ⟨Nat.le_of_ble_eq_true rfl, Nat.le_of_ble_eq_true rfl⟩) (fun r89 h89 => ?_)
          obtain rfl : r89 = (evT n ft fv fe (nI t0)) := h89
          refine ist (n := (L + 1)) (j := t0) hx hb hG hP hD hS 6 rfl (by omega) (by omega) dX6_reduce_92 (fun H locs hP hD hS => ?_)
          have hP : va_P D cls [oO mo 6 [.int 0, .ref a1, .int (nI nC), .ref a2, .ref a3, .ref a4, .ref a5, .ref a6, .ref a7, .ref a8, .ref a9, .int (nI nS), .ref a10, .int (nI nM), .ref a11], aI D a2 6 ln, aI D a3 24 ks, aI D a4 384 tm, aI D a5 384 wo, aI D a6 384 ea, aI D bf (L + 1) (upd bq t0 (evT n ft fv fe (nI t0)))] H := hP
          have hD : va_D A [oO mo 6 [.int 0, .ref a1, .int (nI nC), .ref a2, .ref a3, .ref a4, .ref a5, .ref a6, .ref a7, .ref a8, .ref a9, .int (nI nS), .ref a10, .int (nI nM), .ref a11], aI D a2 6 ln, aI D a3 24 ks, aI D a4 384 tm, aI D a5 384 wo, aI D a6 384 ea, aI D bf (L + 1) (upd bq t0 (evT n ft fv fe (nI t0)))] := hD
          refine lv_iinc (v := nI (t0 + 1)) (lv' := [(6, .int (nI (t0 + 1))), (0, .ref mo), (1, .int (nI i)), (2, .int (nI j)), (3, .int tol), (4, .int (nI (4 * i + j))), (5, .ref bf)]) hx hb dX6_reduce_93 hl (k := 6) rfl (nI_1 _) (by decide) rfl (fun ls hl => ?_)
          refine lv_goto (tgt := 59) hx hb dX6_reduce_96 (by decide) ?_
          exact ih59 (t0 + 1) (upd bq t0 (evT n ft fv fe (nI t0))) (by omega) (by omega) _ _ _ hP hD hS (lv_sub hl [1, 2, 3, 4, 5, 6, 0] rfl)
  exact loop59 _ 0 (fun _ => 0) (Nat.lt_succ_self _) (by omega) _ _ _ hP hD hS (lv_sub hl [3, 4, 5, 6, 2, 1, 0] rfl)
theorem cu_end {tq ft : Nat → Int32} {g : Nat → Nat} {N : Nat → Nat → Prop} {b left last i n : Nat} (hi : i + 1 = n) (hn : 2 ≤ n) (hst : thS N (i - 1) = (left, last, g)) (h : ∀ q, q < left + (n - i) → tq (b + q) = ft (cuI g left i q)) : ∀ q, q < thN N n → tq (b + q) = thF ft (thI N n) (thN N n) q := by
  have e : i - 1 = n - 2 := by omega
  rw [e] at hst
  intro q hq
  have e2 : thN N n = left + 1 := by rw [thN, hst]
  rw [thF, if_pos hq]
  rw [e2] at hq
  rw [h q (by omega), thI, hst]
  by_cases e3 : q < left
  · rw [cu_lt e3, if_neg (by show ¬ q = left; omega)]
  · rw [cu_ge e3, if_pos (by show q = left; omega)]
    congr 1
    omega
set_option maxHeartbeats 400000 in
set_option maxRecDepth 100000 in
theorem m_reduce (l : Launch) (D : va_G) {mo a1 a2 a3 a4 a5 a6 a7 a8 a9 a10 a11 nC nS nM : Nat} {th : Int32} {ln ks tm wo ea ft fv fe : Nat → Int32} {i j n L : Nat} {tol : Int32} (hz0 : Nat) (hn : nC ≤ 6) (hi : i < nC) (hj : j < 4) (h : (0 : Int32) ≤ tol ∧ tol ≤ 1000) (hln : ln i = nI L) (hL : L ≤ 2000) (hks : ks (4 * i + j) = nI n) (h16 : n ≤ 16) (htm : ∀ k, k < n → tm (16 * (4 * i + j) + k) = ft k) (hwo : ∀ k, k < n → wo (16 * (4 * i + j) + k) = fv k) (hea : ∀ k, k < n → ea (16 * (4 * i + j) + k) = fe k) (hT : tOK ft n) (hV : ∀ k, k < n → -10000 ≤ (fv k).toInt ∧ (fv k).toInt ≤ 10000) (hLt : ∀ k, k < n → (ft k).toInt ≤ L) (h3 : 3 ≤ n) : Met l yX6_reduce (ws_ yX6_reduce cX6_reduce 11 (some .int)) ({ frames := 4, cells := 1, slots := 2001, locals := 101 } : Room) (va_Pc [.ref mo, .int (nI i), .int (nI j), .int tol] (SW D [oO mo 6 [.int th, .ref a1, .int (nI nC), .ref a2, .ref a3, .ref a4, .ref a5, .ref a6, .ref a7, .ref a8, .ref a9, .int (nI nS), .ref a10, .int (nI nM), .ref a11], aI D a2 6 ln, aI D a3 24 ks, aI D a4 384 tm, aI D a5 384 wo, aI D a6 384 ea] hz0)) (va_Qi (fun v ((tq, wq, zq) : (Nat → Int32) × (Nat → Int32) × (Nat → Int32)) => v = nI (thN (nearP ft fv fe tol) n) ∧ thN (nearP ft fv fe tol) n ≤ n ∧ 1 ≤ thN (nearP ft fv fe tol) n ∧ (∀ q, q < thN (nearP ft fv fe tol) n → tq (16 * (4 * i + j) + q) = thF ft (thI (nearP ft fv fe tol) n) (thN (nearP ft fv fe tol) n) q) ∧ (∀ q, q < thN (nearP ft fv fe tol) n → wq (16 * (4 * i + j) + q) = thF fv (thI (nearP ft fv fe tol) n) (thN (nearP ft fv fe tol) n) q) ∧ (∀ q, q < thN (nearP ft fv fe tol) n → zq (16 * (4 * i + j) + q) = thF fe (thI (nearP ft fv fe tol) n) (thN (nearP ft fv fe tol) n) q) ∧ (∀ x, ¬ (16 * (4 * i + j) ≤ x ∧ x < 16 * (4 * i + j) + 16) → tq x = tm x) ∧ (∀ x, ¬ (16 * (4 * i + j) ≤ x ∧ x < 16 * (4 * i + j) + 16) → wq x = wo x) ∧ (∀ x, ¬ (16 * (4 * i + j) ≤ x ∧ x < 16 * (4 * i + j) + 16) → zq x = ea x)) (AT D (va_A [oO mo 6 [.int th, .ref a1, .int (nI nC), .ref a2, .ref a3, .ref a4, .ref a5, .ref a6, .ref a7, .ref a8, .ref a9, .int (nI nS), .ref a10, .int (nI nM), .ref a11], aI D a2 6 ln, aI D a3 24 ks, aI D a4 384 tm, aI D a5 384 wo, aI D a6 384 ea] hz0) (fun ((tq, wq, zq) : (Nat → Int32) × (Nat → Int32) × (Nat → Int32)) => [oO mo 6 [.int 0, .ref a1, .int (nI nC), .ref a2, .ref a3, .ref a4, .ref a5, .ref a6, .ref a7, .ref a8, .ref a9, .int (nI nS), .ref a10, .int (nI nM), .ref a11], aI D a2 6 ln, aI D a3 24 (upd ks (4 * i + j) (nI (thN (nearP ft fv fe tol) n))), aI D a4 384 tq, aI D a5 384 wq, aI D a6 384 zq])) (va_A [oO mo 6 [.int th, .ref a1, .int (nI nC), .ref a2, .ref a3, .ref a4, .ref a5, .ref a6, .ref a7, .ref a8, .ref a9, .int (nI nS), .ref a10, .int (nI nM), .ref a11], aI D a2 6 ln, aI D a3 24 ks, aI D a4 384 tm, aI D a5 384 wo, aI D a6 384 ea] hz0)) 1 2001 (va_A [oO mo 6 [.int th, .ref a1, .int (nI nC), .ref a2, .ref a3, .ref a4, .ref a5, .ref a6, .ref a7, .ref a8, .ref a9, .int (nI nS), .ref a10, .int (nI nM), .ref a11], aI D a2 6 ln, aI D a3 24 ks, aI D a4 384 tm, aI D a5 384 wo, aI D a6 384 ea] hz0) := by
  refine Met.ofW (cc := cX6_reduce) (maxL := 11) (ret := (some .int)) (by decide) rfl ?_
  intro p e s m args below meth c s₁ B hml hv
  obtain ⟨rfl, hsz, hG, hP, hD0⟩ := hv
  have hx := B.exec
  have hb := B.bytes
  have hr := B.returns
  have hts : ∀ w ∈ wsL_law, w.before _ s = true := fun w h => atoms_spec (ws := (ws_ yX6_reduce cX6_reduce 11 (some .int))) B.pre w (List.mem_cons_of_mem _ h)
  have hown : s.vm.findClass RX6 = some m.cls := findClass_of_methodNamed B.named
  have hlk := B.notSynchronized
  have hC : CallFix p m c cX6_reduce 11 s _ wsL_law RX6 := ⟨hx, hb, hml, hown, hts⟩
  subst hsz
  have hD := hD0.self (sz := s.heap.size)
  generalize hAe : va_A [oO mo 6 [.int th, .ref a1, .int (nI nC), .ref a2, .ref a3, .ref a4, .ref a5, .ref a6, .ref a7, .ref a8, .ref a9, .int (nI nS), .ref a10, .int (nI nM), .ref a11], aI D a2 6 ln, aI D a3 24 ks, aI D a4 384 tm, aI D a5 384 wo, aI D a6 384 ea] s.heap.size = A at hD ⊢
  have hA : ∀ q : Nat, s.heap.size ≤ q → A q := fun q h => by rw [← hAe]; exact Or.inr h
  have hS : va_S A s.heap s.heap [] := va_S.rf
  obtain ⟨H, hHe⟩ : ∃ H, H = s.heap := ⟨_, rfl⟩
  rw [← hHe] at hP
  have hS : va_S A s.heap H [] := by rw [hHe]; exact hS
  have hl := lv_entry ([.ref mo, .int (nI i), .int (nI j), .int tol]) (n := 11) (Nat.le_of_ble_eq_true rfl)
  rw [lg_entry_eq]
  generalize (lg_sl ([.ref mo, .int (nI i), .int (nI j), .int tol]) ++ List.replicate (11 - (lg_sl ([.ref mo, .int (nI i), .int (nI j), .int tol])).length) Slot.unset).toArray = ls at hl ⊢
  have hl : lv_has ls 11 [(0, .ref mo), (1, .int (nI i)), (2, .int (nI j)), (3, .int tol)] := hl
  rw [← hHe]
  refine lv_aload_n hx hb dX6_reduce_0 rfl (lv_at hl 0 rfl) ?_
  refine lv_iconst (v := 0) hx hb dX6_reduce_1 (by decide) ?_
  refine va_put (D := D) (ci := 6) (v := .int 0) (ty := .int) (C := RX6) (T := TX6) (N := 15) hx hb hts inlX6 tyX6 tyX6_ok nmX6 hown hG.K hP hD hS 0 rfl rfl 0 (by decide) (hts _ mF_X6_43) (fun _ h9 => h9) rfl (by decide +kernel) rfl rfl (Nat.le_of_ble_eq_true rfl) dX6_reduce_2 (fun H locs hP hD hS => ?_)
  have hP : va_P D cls [oO mo 6 [.int 0, .ref a1, .int (nI nC), .ref a2, .ref a3, .ref a4, .ref a5, .ref a6, .ref a7, .ref a8, .ref a9, .int (nI nS), .ref a10, .int (nI nM), .ref a11], aI D a2 6 ln, aI D a3 24 ks, aI D a4 384 tm, aI D a5 384 wo, aI D a6 384 ea] H := hP
  have hD : va_D A [oO mo 6 [.int 0, .ref a1, .int (nI nC), .ref a2, .ref a3, .ref a4, .ref a5, .ref a6, .ref a7, .ref a8, .ref a9, .int (nI nS), .ref a10, .int (nI nM), .ref a11], aI D a2 6 ln, aI D a3 24 ks, aI D a4 384 tm, aI D a5 384 wo, aI D a6 384 ea] := hD
  refine lv_aload_n hx hb dX6_reduce_5 rfl (lv_at hl 0 rfl) ?_
  refine lv_iload_n hx hb dX6_reduce_6 rfl (lv_at hl 1 rfl) ?_
  refine lv_iload_n hx hb dX6_reduce_7 rfl (lv_at hl 2 rfl) ?_
  have hP9 := hP.sub (ws' := [oO mo 6 [.int 0, .ref a1, .int (nI nC), .ref a2, .ref a3, .ref a4, .ref a5, .ref a6, .ref a7, .ref a8, .ref a9, .int (nI nS), .ref a10, .int (nI nM), .ref a11]]) [0] rfl
  refine vp_callSi (pV (rest := []) (qc := (RX6, TX6, 15)) [.int (nI i), .int (nI j)] 2 hC (m_isTrack l D (mo := mo) (i := i) (j := j) (th := 0) (a1 := a1) (nC := nC) (a2 := a2) (a3 := a3) (a4 := a4) (a5 := a5) (a6 := a6) (a7 := a7) (a8 := a8) (a9 := a9) (nS := nS) (a10 := a10) (nM := nM) (a11 := a11) (by omega) (by omega) (by omega)) rfl (hP 0 _ rfl) (gV mM_X6_74 mI_X6_isTrack mS_X6_isTrack mN_X6 mC_X6_isTrack) (by decide +kernel) rfl rfl ⟨Nat.le_of_ble_eq_true rfl, Nat.le_of_ble_eq_true rfl⟩ hG hP9 rfl hl.1 rfl (Nat.le_of_ble_eq_true rfl) dX6_reduce_8 ⟨Nat.le_of_ble_eq_true rfl, Nat.le_of_ble_eq_true rfl⟩) (fun r8 h8 => ?_)
  obtain rfl : r8 = 1 := h8
  refine lv_if_ne (tgt := 20) hx hb dX6_reduce_11 (by decide) (fun _ => ?_) (fun h9 => absurd h9 (by decide))
  refine lv_iload_n hx hb dX6_reduce_20 rfl (lv_at hl 3 rfl) ?_
  refine lv_iconst (v := 0) hx hb dX6_reduce_21 (by decide) ?_
  refine lv_sipush (v := 1000) hx hb dX6_reduce_22 (by decide) ?_
  have hP9 : va_P D cls [] H := fun k q h => by simp at h
  refine vp_callSi (pS (rest := []) [.int tol, .int 0, .int 1000] 3 hC (m_isIn l D (x := tol) (a := 0) (b := 1000) ) (gS mM_X6_50 mT_X6_isIn mN_X6 mC_X6_isIn) (by decide +kernel) rfl rfl ⟨Nat.le_of_ble_eq_true rfl, Nat.le_of_ble_eq_true rfl⟩ hG hP9 rfl hl.1 rfl (Nat.le_of_ble_eq_true rfl) dX6_reduce_25 ⟨Nat.le_of_ble_eq_true rfl, Nat.le_of_ble_eq_true rfl⟩) (fun r25 h25 => ?_)
  rcases h25 with ⟨rfl, hb25⟩ | ⟨rfl, hb25⟩
  rotate_left
  · exact absurd (h) hb25
  refine lv_if_ne (tgt := 37) hx hb dX6_reduce_28 (by decide) (fun _ => ?_) (fun h9 => absurd h9 (by decide))
  refine lv_iconst (v := 4) hx hb dX6_reduce_37 (by decide) ?_
  refine lv_iload_n hx hb dX6_reduce_38 rfl (lv_at hl 1 rfl) ?_
  refine lv_imul hx hb dX6_reduce_39 ?_
  refine tpi (y := nI (4 * i)) (pk_mul 4 i) ?_
  refine lv_iload_n hx hb dX6_reduce_40 rfl (lv_at hl 2 rfl) ?_
  refine lv_iadd hx hb dX6_reduce_41 ?_
  refine tpi (y := nI ((4 * i) + j)) (nI_add (4 * i) j) ?_
  refine lv_istore (lv' := [(4, .int (nI ((4 * i) + j))), (0, .ref mo), (1, .int (nI i)), (2, .int (nI j)), (3, .int tol)]) hx hb dX6_reduce_42 hl (by decide) rfl (fun ls hl => ?_)
  refine lv_aload_n hx hb dX6_reduce_44 rfl (lv_at hl 1 rfl) ?_
  refine va_get (D := D) (ci := 6) (v := .ref a2) (C := RX6) (T := TX6) (N := 15) hx hb hts inlX6 hown hG.K hP 0 rfl rfl 3 (by decide) (hts _ mF_X6_13) (fun _ h9 => h9) rfl dX6_reduce_45 ?_
  refine lv_iload_n hx hb dX6_reduce_48 rfl (lv_at hl 2 rfl) ?_
  refine ild (n := 6) (j := i) hx hb hG hP 1 rfl (by omega) (by omega) dX6_reduce_49 ?_
  refine tpi (y := nI L) (hln) ?_
  refine lv_iconst (v := 1) hx hb dX6_reduce_50 (by decide) ?_
  refine lv_iadd hx hb dX6_reduce_51 ?_
  refine tpi (y := nI (L + 1)) (nI_add L 1) ?_
  refine narI (N := (L + 1)) hx hb hG hts hP hD hS hA (nI_pos (by omega)) (nI_clamp (by omega)) (by omega) (Nat.le_of_ble_eq_true rfl) (by show _ ≤ 2001; omega) dX6_reduce_52 (fun bf H hP hD hS => ?_)
  have hP : va_P D cls [oO mo 6 [.int 0, .ref a1, .int (nI nC), .ref a2, .ref a3, .ref a4, .ref a5, .ref a6, .ref a7, .ref a8, .ref a9, .int (nI nS), .ref a10, .int (nI nM), .ref a11], aI D a2 6 ln, aI D a3 24 ks, aI D a4 384 tm, aI D a5 384 wo, aI D a6 384 ea, aI D bf (L + 1) (fun _ => 0)] H := hP
  have hD : va_D A [oO mo 6 [.int 0, .ref a1, .int (nI nC), .ref a2, .ref a3, .ref a4, .ref a5, .ref a6, .ref a7, .ref a8, .ref a9, .int (nI nS), .ref a10, .int (nI nM), .ref a11], aI D a2 6 ln, aI D a3 24 ks, aI D a4 384 tm, aI D a5 384 wo, aI D a6 384 ea, aI D bf (L + 1) (fun _ => 0)] := hD
  refine W.widen (k := 1) (n := 2001) (Nat.le_refl _) (by omega) ?_
  refine lv_astore (lv' := [(5, .ref bf), (4, .int (nI ((4 * i) + j))), (0, .ref mo), (1, .int (nI i)), (2, .int (nI j)), (3, .int tol)]) hx hb dX6_reduce_54 hl (by decide) rfl (fun ls hl => ?_)
  refine lv_iconst (v := 0) hx hb dX6_reduce_56 (by decide) ?_
  refine lv_istore (lv' := [(6, .int 0), (5, .ref bf), (4, .int (nI ((4 * i) + j))), (0, .ref mo), (1, .int (nI i)), (2, .int (nI j)), (3, .int tol)]) hx hb dX6_reduce_57 hl (by decide) rfl (fun ls hl => ?_)
  have loop59 : ∀ (d9 : Nat) (t0 : Nat), (L + 1 - t0) < d9 → (t0 ≤ L + 1) → ∀ (H : Heap) (locs : List Loc) (ls : Array Slot), va_P D cls [oO mo 6 [.int 0, .ref a1, .int (nI nC), .ref a2, .ref a3, .ref a4, .ref a5, .ref a6, .ref a7, .ref a8, .ref a9, .int (nI nS), .ref a10, .int (nI nM), .ref a11], aI D a2 6 ln, aI D a3 24 ks, aI D a4 384 tm, aI D a5 384 wo, aI D a6 384 ea, aI D bf (L + 1) (bfF (fun q => evT n ft fv fe (nI q)) t0)] H → va_D A [oO mo 6 [.int 0, .ref a1, .int (nI nC), .ref a2, .ref a3, .ref a4, .ref a5, .ref a6, .ref a7, .ref a8, .ref a9, .int (nI nS), .ref a10, .int (nI nM), .ref a11], aI D a2 6 ln, aI D a3 24 ks, aI D a4 384 tm, aI D a5 384 wo, aI D a6 384 ea, aI D bf (L + 1) (bfF (fun q => evT n ft fv fe (nI q)) t0)] → va_S A s.heap H locs → lv_has ls 11 [(0, .ref mo), (1, .int (nI i)), (2, .int (nI j)), (3, .int tol), (4, .int (nI (4 * i + j))), (5, .ref bf), (6, .int (nI t0))] → W p l e ({ frames := 4, cells := 1, slots := 2001, locals := 101 } : Room) s m ([.ref mo, .int (nI i), .int (nI j), .int tol] : List Value).toArray below meth c H locs 1 2001 (MQ below (va_Qi (fun v ((tq, wq, zq) : (Nat → Int32) × (Nat → Int32) × (Nat → Int32)) => v = nI (thN (nearP ft fv fe tol) n) ∧ thN (nearP ft fv fe tol) n ≤ n ∧ 1 ≤ thN (nearP ft fv fe tol) n ∧ (∀ q, q < thN (nearP ft fv fe tol) n → tq (16 * (4 * i + j) + q) = thF ft (thI (nearP ft fv fe tol) n) (thN (nearP ft fv fe tol) n) q) ∧ (∀ q, q < thN (nearP ft fv fe tol) n → wq (16 * (4 * i + j) + q) = thF fv (thI (nearP ft fv fe tol) n) (thN (nearP ft fv fe tol) n) q) ∧ (∀ q, q < thN (nearP ft fv fe tol) n → zq (16 * (4 * i + j) + q) = thF fe (thI (nearP ft fv fe tol) n) (thN (nearP ft fv fe tol) n) q) ∧ (∀ x, ¬ (16 * (4 * i + j) ≤ x ∧ x < 16 * (4 * i + j) + 16) → tq x = tm x) ∧ (∀ x, ¬ (16 * (4 * i + j) ≤ x ∧ x < 16 * (4 * i + j) + 16) → wq x = wo x) ∧ (∀ x, ¬ (16 * (4 * i + j) ≤ x ∧ x < 16 * (4 * i + j) + 16) → zq x = ea x)) (AT D A (fun ((tq, wq, zq) : (Nat → Int32) × (Nat → Int32) × (Nat → Int32)) => [oO mo 6 [.int 0, .ref a1, .int (nI nC), .ref a2, .ref a3, .ref a4, .ref a5, .ref a6, .ref a7, .ref a8, .ref a9, .int (nI nS), .ref a10, .int (nI nM), .ref a11], aI D a2 6 ln, aI D a3 24 (upd ks (4 * i + j) (nI (thN (nearP ft fv fe tol) n))), aI D a4 384 tq, aI D a5 384 wq, aI D a6 384 zq])) A) ([.ref mo, .int (nI i), .int (nI j), .int tol] : List Value).toArray s 1 2001 A) (F0 m 59 ls []) := by
    intro d9
    induction d9 with
    | zero => intro t0 hd; exact absurd hd (Nat.not_lt_zero _)
    | succ d9 ih59 =>
      intro t0 hd59 ht0 H locs ls hP hD hS hl
      have hn0 : 0 < n := by omega
      refine lv_iload hx hb dX6_reduce_59 (lv_at hl 6 rfl) ?_
      refine lv_aload_n hx hb dX6_reduce_61 rfl (lv_at hl 0 rfl) ?_
      refine va_get (D := D) (ci := 6) (v := .ref a2) (C := RX6) (T := TX6) (N := 15) hx hb hts inlX6 hown hG.K hP 0 rfl rfl 3 (by decide) (hts _ mF_X6_13) (fun _ h9 => h9) rfl dX6_reduce_62 ?_
      refine lv_iload_n hx hb dX6_reduce_65 rfl (lv_at hl 1 rfl) ?_
      refine ild (n := 6) (j := i) hx hb hG hP 1 rfl (by omega) (by omega) dX6_reduce_66 ?_
      refine tpi (y := nI L) (hln) ?_
      refine lv_icmp_gt (tgt := 99) hx hb dX6_reduce_67 (by decide) (fun c67 => ?_) (fun c67 => ?_)
      · skip
        have n67 := (nI_ltI (a := L) (b := t0) (by omega) (by omega)).mp c67
        have hk9 : t0 = L + 1 := by omega
        subst t0
        refine lv_iconst (v := 1) hx hb dX6_reduce_99 (by decide) ?_
        refine lv_istore (lv' := [(6, .int 1), (0, .ref mo), (1, .int (nI i)), (2, .int (nI j)), (3, .int tol), (4, .int (nI (4 * i + j))), (5, .ref bf)]) hx hb dX6_reduce_100 hl (by decide) rfl (fun ls hl => ?_)
        have loop102 : ∀ (d9 : Nat) (i1 : Nat) (left : Nat) (last : Nat) (g : Nat → Nat) (tq : Nat → Int32) (wq : Nat → Int32) (zq : Nat → Int32), (n - i1) < d9 → (1 ≤ i1) → (i1 + 1 ≤ n) → (thS (nearP ft fv fe tol) (i1 - 1) = (left, last, g)) → (1 ≤ left) → (left ≤ i1) → (last < i1) → (g (left - 1) = last) → (∀ q, q < (left + (n - i1)) → tq (16 * (4 * i + j) + q) = ft (cuI g left i1 q)) → (∀ q, q < (left + (n - i1)) → wq (16 * (4 * i + j) + q) = fv (cuI g left i1 q)) → (∀ q, q < (left + (n - i1)) → zq (16 * (4 * i + j) + q) = fe (cuI g left i1 q)) → (∀ x, ¬ (16 * (4 * i + j) ≤ x ∧ x < 16 * (4 * i + j) + 16) → tq x = tm x) → (∀ x, ¬ (16 * (4 * i + j) ≤ x ∧ x < 16 * (4 * i + j) + 16) → wq x = wo x) → (∀ x, ¬ (16 * (4 * i + j) ≤ x ∧ x < 16 * (4 * i + j) + 16) → zq x = ea x) → ∀ (H : Heap) (locs : List Loc) (ls : Array Slot), va_P D cls [oO mo 6 [.int 0, .ref a1, .int (nI nC), .ref a2, .ref a3, .ref a4, .ref a5, .ref a6, .ref a7, .ref a8, .ref a9, .int (nI nS), .ref a10, .int (nI nM), .ref a11], aI D a2 6 ln, aI D a3 24 (upd ks (4 * i + j) (nI (left + (n - i1)))), aI D a4 384 tq, aI D a5 384 wq, aI D a6 384 zq, aI D bf (L + 1) (bfF (fun q => evT n ft fv fe (nI q)) (L + 1))] H → va_D A [oO mo 6 [.int 0, .ref a1, .int (nI nC), .ref a2, .ref a3, .ref a4, .ref a5, .ref a6, .ref a7, .ref a8, .ref a9, .int (nI nS), .ref a10, .int (nI nM), .ref a11], aI D a2 6 ln, aI D a3 24 (upd ks (4 * i + j) (nI (left + (n - i1)))), aI D a4 384 tq, aI D a5 384 wq, aI D a6 384 zq, aI D bf (L + 1) (bfF (fun q => evT n ft fv fe (nI q)) (L + 1))] → va_S A s.heap H locs → lv_has ls 11 [(0, .ref mo), (1, .int (nI i)), (2, .int (nI j)), (3, .int tol), (4, .int (nI (4 * i + j))), (5, .ref bf), (6, .int (nI left))] → W p l e ({ frames := 4, cells := 1, slots := 2001, locals := 101 } : Room) s m ([.ref mo, .int (nI i), .int (nI j), .int tol] : List Value).toArray below meth c H locs 1 2001 (MQ below (va_Qi (fun v ((tq, wq, zq) : (Nat → Int32) × (Nat → Int32) × (Nat → Int32)) => v = nI (thN (nearP ft fv fe tol) n) ∧ thN (nearP ft fv fe tol) n ≤ n ∧ 1 ≤ thN (nearP ft fv fe tol) n ∧ (∀ q, q < thN (nearP ft fv fe tol) n → tq (16 * (4 * i + j) + q) = thF ft (thI (nearP ft fv fe tol) n) (thN (nearP ft fv fe tol) n) q) ∧ (∀ q, q < thN (nearP ft fv fe tol) n → wq (16 * (4 * i + j) + q) = thF fv (thI (nearP ft fv fe tol) n) (thN (nearP ft fv fe tol) n) q) ∧ (∀ q, q < thN (nearP ft fv fe tol) n → zq (16 * (4 * i + j) + q) = thF fe (thI (nearP ft fv fe tol) n) (thN (nearP ft fv fe tol) n) q) ∧ (∀ x, ¬ (16 * (4 * i + j) ≤ x ∧ x < 16 * (4 * i + j) + 16) → tq x = tm x) ∧ (∀ x, ¬ (16 * (4 * i + j) ≤ x ∧ x < 16 * (4 * i + j) + 16) → wq x = wo x) ∧ (∀ x, ¬ (16 * (4 * i + j) ≤ x ∧ x < 16 * (4 * i + j) + 16) → zq x = ea x)) (AT D A (fun ((tq, wq, zq) : (Nat → Int32) × (Nat → Int32) × (Nat → Int32)) => [oO mo 6 [.int 0, .ref a1, .int (nI nC), .ref a2, .ref a3, .ref a4, .ref a5, .ref a6, .ref a7, .ref a8, .ref a9, .int (nI nS), .ref a10, .int (nI nM), .ref a11], aI D a2 6 ln, aI D a3 24 (upd ks (4 * i + j) (nI (thN (nearP ft fv fe tol) n))), aI D a4 384 tq, aI D a5 384 wq, aI D a6 384 zq])) A) ([.ref mo, .int (nI i), .int (nI j), .int tol] : List Value).toArray s 1 2001 A) (F0 m 102 ls []) := by
          intro d9
          induction d9 with
          | zero => intro i1 left last g tq wq zq hd; exact absurd hd (Nat.not_lt_zero _)
          | succ d9 ih102 =>
            intro i1 left last g tq wq zq hd102 hi1 hi2 hst hl1 hl2 hl3 hgl htq hwq hzq otq owq ozq H locs ls hP hD hS hl
            refine lv_iload hx hb dX6_reduce_102 (lv_at hl 6 rfl) ?_
            refine lv_iconst (v := 1) hx hb dX6_reduce_104 (by decide) ?_
            refine lv_iadd hx hb dX6_reduce_105 ?_
            refine tpi (y := nI (left + 1)) (nI_add left 1) ?_
            refine lv_aload_n hx hb dX6_reduce_106 rfl (lv_at hl 0 rfl) ?_
            refine va_get (D := D) (ci := 6) (v := .ref a3) (C := RX6) (T := TX6) (N := 15) hx hb hts inlX6 hown hG.K hP 0 rfl rfl 4 (by decide) (hts _ mF_X6_16) (fun _ h9 => h9) rfl dX6_reduce_107 ?_
            refine lv_iload hx hb dX6_reduce_110 (lv_at hl 4 rfl) ?_
            refine ild (n := 24) (j := 4 * i + j) hx hb hG hP 2 rfl (by omega) (by omega) dX6_reduce_112 ?_
            refine tpi (y := nI (left + (n - i1))) (if_pos rfl) ?_
            refine lv_icmp_ge (tgt := 262) hx hb dX6_reduce_113 (by decide) (fun c113 => ?_) (fun c113 => ?_)
            · skip
              have n113 := (nI_leI (a := left + (n - i1)) (b := left + 1) (by omega) (by omega)).mp c113
              have hk9 : i1 + 1 = n := by omega
              have hk8 : thN (nearP ft fv fe tol) n = left + 1 := by
                have e : i1 - 1 = n - 2 := by omega
                rw [e] at hst
                rw [thN, hst]
              have hcv1 : (upd ks (4 * i + j) (nI (thN (nearP ft fv fe tol) n))) = (upd ks (4 * i + j) (nI (left + (n - i1)))) := by rw [hk8, show left + (n - i1) = left + 1 by omega]
              have hP := Eq.mpr (congrArg (fun z9 => va_P D cls [oO mo 6 [.int 0, .ref a1, .int (nI nC), .ref a2, .ref a3, .ref a4, .ref a5, .ref a6, .ref a7, .ref a8, .ref a9, .int (nI nS), .ref a10, .int (nI nM), .ref a11], aI D a2 6 ln, aI D a3 24 z9, aI D a4 384 tq, aI D a5 384 wq, aI D a6 384 zq, aI D bf (L + 1) (bfF (fun q => evT n ft fv fe (nI q)) (L + 1))] H) hcv1) hP
              have hD := Eq.mpr (congrArg (fun z9 => va_D A [oO mo 6 [.int 0, .ref a1, .int (nI nC), .ref a2, .ref a3, .ref a4, .ref a5, .ref a6, .ref a7, .ref a8, .ref a9, .int (nI nS), .ref a10, .int (nI nM), .ref a11], aI D a2 6 ln, aI D a3 24 z9, aI D a4 384 tq, aI D a5 384 wq, aI D a6 384 zq, aI D bf (L + 1) (bfF (fun q => evT n ft fv fe (nI q)) (L + 1))]) hcv1) hD
              have hP : va_P D cls [oO mo 6 [.int 0, .ref a1, .int (nI nC), .ref a2, .ref a3, .ref a4, .ref a5, .ref a6, .ref a7, .ref a8, .ref a9, .int (nI nS), .ref a10, .int (nI nM), .ref a11], aI D a2 6 ln, aI D a3 24 (upd ks (4 * i + j) (nI (thN (nearP ft fv fe tol) n))), aI D a4 384 tq, aI D a5 384 wq, aI D a6 384 zq, aI D bf (L + 1) (bfF (fun q => evT n ft fv fe (nI q)) (L + 1))] H := hP
              have hD : va_D A [oO mo 6 [.int 0, .ref a1, .int (nI nC), .ref a2, .ref a3, .ref a4, .ref a5, .ref a6, .ref a7, .ref a8, .ref a9, .int (nI nS), .ref a10, .int (nI nM), .ref a11], aI D a2 6 ln, aI D a3 24 (upd ks (4 * i + j) (nI (thN (nearP ft fv fe tol) n))), aI D a4 384 tq, aI D a5 384 wq, aI D a6 384 zq, aI D bf (L + 1) (bfF (fun q => evT n ft fv fe (nI q)) (L + 1))] := hD
              refine lv_aload_n hx hb dX6_reduce_262 rfl (lv_at hl 0 rfl) ?_
              refine va_get (D := D) (ci := 6) (v := .ref a3) (C := RX6) (T := TX6) (N := 15) hx hb hts inlX6 hown hG.K hP 0 rfl rfl 4 (by decide) (hts _ mF_X6_16) (fun _ h9 => h9) rfl dX6_reduce_263 ?_
              refine lv_iload hx hb dX6_reduce_266 (lv_at hl 4 rfl) ?_
              refine ild (n := 24) (j := 4 * i + j) hx hb hG hP 2 rfl (by omega) (by omega) dX6_reduce_268 ?_
              refine tpi (y := nI (thN (nearP ft fv fe tol) n)) (if_pos rfl) ?_
              refine Wi (tq, wq, zq) hx hb hr hlk ?_ (hP.sub [0, 1, 2, 3, 4, 5] rfl) (hD.sub [0, 1, 2, 3, 4, 5] (by decide) rfl) hS (Nat.le_of_ble_eq_true rfl) (by first | exact Nat.le_of_ble_eq_true rfl | exact Nat.le_of_eq (Nat.zero_add _)) dX6_reduce_269
              exact ⟨rfl, by omega, by omega, cu_end hk9 (by omega) hst htq, cu_end hk9 (by omega) hst hwq, cu_end hk9 (by omega) hst hzq, otq, owq, ozq⟩
            · skip
              have n113 := mt (nI_leI (a := left + (n - i1)) (b := left + 1) (by omega) (by omega)).mpr c113
              refine lv_iload hx hb dX6_reduce_116 (lv_at hl 4 rfl) ?_
              have hP9 : va_P D cls [] H := fun k q h => by simp at h
              refine vp_callSi (pS (rest := []) [.int (nI (4 * i + j))] 1 hC (m_row l D (j := 4 * i + j) ) (gS mM_X6_78 mT_X6_row mN_X6 mC_X6_row) (by decide +kernel) rfl rfl ⟨Nat.le_of_ble_eq_true rfl, Nat.le_of_ble_eq_true rfl⟩ hG hP9 rfl hl.1 rfl (Nat.le_of_ble_eq_true rfl) dX6_reduce_118 ⟨Nat.le_of_ble_eq_true rfl, Nat.le_of_ble_eq_true rfl⟩) (fun r118 h118 => ?_)
              obtain rfl : r118 = (nI (16 * (4 * i + j))) := h118
              refine lv_iload hx hb dX6_reduce_121 (lv_at hl 6 rfl) ?_
              refine lv_iadd hx hb dX6_reduce_123 ?_
              refine tpi (y := nI ((16 * (4 * i + j)) + left)) (nI_add (16 * (4 * i + j)) left) ?_
              refine lv_iconst (v := 1) hx hb dX6_reduce_124 (by decide) ?_
              refine lv_isub hx hb dX6_reduce_125 ?_
              refine tpi (y := nI (((16 * (4 * i + j)) + left) - 1)) (pk_sub (a := ((16 * (4 * i + j)) + left)) (b := 1) (by omega)) ?_
              refine lv_istore (lv' := [(7, .int (nI (((16 * (4 * i + j)) + left) - 1))), (0, .ref mo), (1, .int (nI i)), (2, .int (nI j)), (3, .int tol), (4, .int (nI (4 * i + j))), (5, .ref bf), (6, .int (nI left))]) hx hb dX6_reduce_126 hl (by decide) rfl (fun ls hl => ?_)
              refine lv_iload hx hb dX6_reduce_128 (lv_at hl 0 rfl) ?_
              refine lv_iconst (v := 2) hx hb dX6_reduce_130 (by decide) ?_
              refine lv_iadd hx hb dX6_reduce_131 ?_
              refine tpi (y := nI ((((16 * (4 * i + j)) + left) - 1) + 2)) (nI_add (((16 * (4 * i + j)) + left) - 1) 2) ?_
              refine lv_istore (lv' := [(8, .int (nI ((((16 * (4 * i + j)) + left) - 1) + 2))), (7, .int (nI (((16 * (4 * i + j)) + left) - 1))), (0, .ref mo), (1, .int (nI i)), (2, .int (nI j)), (3, .int tol), (4, .int (nI (4 * i + j))), (5, .ref bf), (6, .int (nI left))]) hx hb dX6_reduce_132 hl (by decide) rfl (fun ls hl => ?_)
              refine lv_iconst (v := 1) hx hb dX6_reduce_134 (by decide) ?_
              refine lv_istore (lv' := [(9, .int 1), (8, .int (nI ((((16 * (4 * i + j)) + left) - 1) + 2))), (7, .int (nI (((16 * (4 * i + j)) + left) - 1))), (0, .ref mo), (1, .int (nI i)), (2, .int (nI j)), (3, .int tol), (4, .int (nI (4 * i + j))), (5, .ref bf), (6, .int (nI left))]) hx hb dX6_reduce_135 hl (by decide) rfl (fun ls hl => ?_)
              refine lv_aload_n hx hb dX6_reduce_137 rfl (lv_at hl 3 rfl) ?_
              refine va_get (D := D) (ci := 6) (v := .ref a4) (C := RX6) (T := TX6) (N := 15) hx hb hts inlX6 hown hG.K hP 0 rfl rfl 5 (by decide) (hts _ mF_X6_19) (fun _ h9 => h9) rfl dX6_reduce_138 ?_
              refine lv_iload hx hb dX6_reduce_141 (lv_at hl 2 rfl) ?_
              refine ild (n := 384) (j := ((16 * (4 * i + j)) + left) - 1) hx hb hG hP 3 rfl (by omega) (by omega) dX6_reduce_143 ?_
              refine tpi (y := nI (ft last).toInt.toNat) (by rw [← hT.n (by omega)]; exact by rw [show 16 * (4 * i + j) + left - 1 = 16 * (4 * i + j) + (left - 1) by omega, htq _ (by omega), cu_lt (by omega), hgl]) ?_
              refine lv_istore (lv' := [(10, .int (nI (ft last).toInt.toNat)), (9, .int 1), (8, .int (nI ((((16 * (4 * i + j)) + left) - 1) + 2))), (7, .int (nI (((16 * (4 * i + j)) + left) - 1))), (0, .ref mo), (1, .int (nI i)), (2, .int (nI j)), (3, .int tol), (4, .int (nI (4 * i + j))), (5, .ref bf), (6, .int (nI left))]) hx hb dX6_reduce_144 hl (by decide) rfl (fun ls hl => ?_)
              have loop146 : ∀ (d9 : Nat) (x0 : Nat) (b9 : Int32), (2001 - x0) < d9 → (ft last ≤ nI x0) → (x0 ≤ 2000) → ((b9 = 1 ∧ ∀ y : Nat, ft last ≤ nI y → y < x0 → absI (vb ft fv fe last (i1 + 1) (nI y) - evT n ft fv fe (nI y)) ≤ tol) ∨ (b9 = 0 ∧ ∃ y : Nat, ft last ≤ nI y ∧ nI y < ft (i1 + 1) ∧ ¬ absI (vb ft fv fe last (i1 + 1) (nI y) - evT n ft fv fe (nI y)) ≤ tol)) → ∀ (ls : Array Slot), lv_has ls 11 [(0, .ref mo), (1, .int (nI i)), (2, .int (nI j)), (3, .int tol), (4, .int (nI (4 * i + j))), (5, .ref bf), (6, .int (nI left)), (7, .int (nI (16 * (4 * i + j) + left - 1))), (8, .int (nI (16 * (4 * i + j) + left - 1 + 2))), (9, .int b9), (10, .int (nI x0))] → W p l e ({ frames := 4, cells := 1, slots := 2001, locals := 101 } : Room) s m ([.ref mo, .int (nI i), .int (nI j), .int tol] : List Value).toArray below meth c H locs 1 2001 (MQ below (va_Qi (fun v ((tq, wq, zq) : (Nat → Int32) × (Nat → Int32) × (Nat → Int32)) => v = nI (thN (nearP ft fv fe tol) n) ∧ thN (nearP ft fv fe tol) n ≤ n ∧ 1 ≤ thN (nearP ft fv fe tol) n ∧ (∀ q, q < thN (nearP ft fv fe tol) n → tq (16 * (4 * i + j) + q) = thF ft (thI (nearP ft fv fe tol) n) (thN (nearP ft fv fe tol) n) q) ∧ (∀ q, q < thN (nearP ft fv fe tol) n → wq (16 * (4 * i + j) + q) = thF fv (thI (nearP ft fv fe tol) n) (thN (nearP ft fv fe tol) n) q) ∧ (∀ q, q < thN (nearP ft fv fe tol) n → zq (16 * (4 * i + j) + q) = thF fe (thI (nearP ft fv fe tol) n) (thN (nearP ft fv fe tol) n) q) ∧ (∀ x, ¬ (16 * (4 * i + j) ≤ x ∧ x < 16 * (4 * i + j) + 16) → tq x = tm x) ∧ (∀ x, ¬ (16 * (4 * i + j) ≤ x ∧ x < 16 * (4 * i + j) + 16) → wq x = wo x) ∧ (∀ x, ¬ (16 * (4 * i + j) ≤ x ∧ x < 16 * (4 * i + j) + 16) → zq x = ea x)) (AT D A (fun ((tq, wq, zq) : (Nat → Int32) × (Nat → Int32) × (Nat → Int32)) => [oO mo 6 [.int 0, .ref a1, .int (nI nC), .ref a2, .ref a3, .ref a4, .ref a5, .ref a6, .ref a7, .ref a8, .ref a9, .int (nI nS), .ref a10, .int (nI nM), .ref a11], aI D a2 6 ln, aI D a3 24 (upd ks (4 * i + j) (nI (thN (nearP ft fv fe tol) n))), aI D a4 384 tq, aI D a5 384 wq, aI D a6 384 zq])) A) ([.ref mo, .int (nI i), .int (nI j), .int tol] : List Value).toArray s 1 2001 A) (F0 m 146 ls []) := by
                intro d9
                induction d9 with
                | zero => intro x0 b9 hd; exact absurd hd (Nat.not_lt_zero _)
                | succ d9 ih146 =>
                  intro x0 b9 hd146 hx0 hx1 hb9 ls hl
                  refine lv_iload hx hb dX6_reduce_146 (lv_at hl 10 rfl) ?_
                  refine lv_aload_n hx hb dX6_reduce_148 rfl (lv_at hl 0 rfl) ?_
                  refine va_get (D := D) (ci := 6) (v := .ref a4) (C := RX6) (T := TX6) (N := 15) hx hb hts inlX6 hown hG.K hP 0 rfl rfl 5 (by decide) (hts _ mF_X6_19) (fun _ h9 => h9) rfl dX6_reduce_149 ?_
                  refine lv_iload hx hb dX6_reduce_152 (lv_at hl 8 rfl) ?_
                  refine ild (n := 384) (j := 16 * (4 * i + j) + left - 1 + 2) hx hb hG hP 3 rfl (by omega) (by omega) dX6_reduce_154 ?_
                  refine tpi (y := ft (i1 + 1)) (by rw [show 16 * (4 * i + j) + left - 1 + 2 = 16 * (4 * i + j) + (left + 1) by omega, htq _ (by omega), cu_ge (by omega), show i1 + (left + 1 - left) = i1 + 1 by omega]) ?_
                  refine lv_icmp_ge (tgt := 240) hx hb dX6_reduce_155 (by decide) (fun c155 => ?_) (fun c155 => ?_)
                  · skip
                    refine lv_iload hx hb dX6_reduce_240 (lv_at hl 9 rfl) ?_
                    refine lv_if_eq (tgt := 256) hx hb dX6_reduce_242 (by decide) (fun c242 => ?_) (fun c242 => ?_)
                    · skip
                      have hnr : ¬ nearP ft fv fe tol last (i1 + 1) := by
                        rcases hb9 with ⟨h0, _⟩ | ⟨_, y, h1, h2, h3⟩
                        · exact absurd (h0.symm.trans c242) (by decide)
                        · exact near_no hT (by omega) (by omega) h1 h2 h3
                      refine lv_iinc (v := nI (left + 1)) (lv' := [(6, .int (nI (left + 1))), (0, .ref mo), (1, .int (nI i)), (2, .int (nI j)), (3, .int tol), (4, .int (nI (4 * i + j))), (5, .ref bf), (7, .int (nI (16 * (4 * i + j) + left - 1))), (8, .int (nI (16 * (4 * i + j) + left - 1 + 2))), (9, .int b9), (10, .int (nI x0))]) hx hb dX6_reduce_256 hl (k := 6) rfl (nI_1 _) (by decide) rfl (fun ls hl => ?_)
                      refine lv_goto (tgt := 102) hx hb dX6_reduce_259 (by decide) ?_
                      have hcv2 : (upd ks (4 * i + j) (nI (left + 1 + (n - (i1 + 1))))) = (upd ks (4 * i + j) (nI (left + (n - i1)))) := by rw [show left + 1 + (n - (i1 + 1)) = left + (n - i1) by omega]
                      have hP := Eq.mpr (congrArg (fun z9 => va_P D cls [oO mo 6 [.int 0, .ref a1, .int (nI nC), .ref a2, .ref a3, .ref a4, .ref a5, .ref a6, .ref a7, .ref a8, .ref a9, .int (nI nS), .ref a10, .int (nI nM), .ref a11], aI D a2 6 ln, aI D a3 24 z9, aI D a4 384 tq, aI D a5 384 wq, aI D a6 384 zq, aI D bf (L + 1) (bfF (fun q => evT n ft fv fe (nI q)) (L + 1))] H) hcv2) hP
                      have hD := Eq.mpr (congrArg (fun z9 => va_D A [oO mo 6 [.int 0, .ref a1, .int (nI nC), .ref a2, .ref a3, .ref a4, .ref a5, .ref a6, .ref a7, .ref a8, .ref a9, .int (nI nS), .ref a10, .int (nI nM), .ref a11], aI D a2 6 ln, aI D a3 24 z9, aI D a4 384 tq, aI D a5 384 wq, aI D a6 384 zq, aI D bf (L + 1) (bfF (fun q => evT n ft fv fe (nI q)) (L + 1))]) hcv2) hD
                      have hP : va_P D cls [oO mo 6 [.int 0, .ref a1, .int (nI nC), .ref a2, .ref a3, .ref a4, .ref a5, .ref a6, .ref a7, .ref a8, .ref a9, .int (nI nS), .ref a10, .int (nI nM), .ref a11], aI D a2 6 ln, aI D a3 24 (upd ks (4 * i + j) (nI (left + 1 + (n - (i1 + 1))))), aI D a4 384 tq, aI D a5 384 wq, aI D a6 384 zq, aI D bf (L + 1) (bfF (fun q => evT n ft fv fe (nI q)) (L + 1))] H := hP
                      have hD : va_D A [oO mo 6 [.int 0, .ref a1, .int (nI nC), .ref a2, .ref a3, .ref a4, .ref a5, .ref a6, .ref a7, .ref a8, .ref a9, .int (nI nS), .ref a10, .int (nI nM), .ref a11], aI D a2 6 ln, aI D a3 24 (upd ks (4 * i + j) (nI (left + 1 + (n - (i1 + 1))))), aI D a4 384 tq, aI D a5 384 wq, aI D a6 384 zq, aI D bf (L + 1) (bfF (fun q => evT n ft fv fe (nI q)) (L + 1))] := hD
                      exact ih102 (i1 + 1) (left + 1) i1 (fun k => if k = left then i1 else g k) tq wq zq (by omega) (by omega) (by omega) (thS_far hi1 hst hnr) (by omega) (by omega) (by omega) (if_pos (by omega)) (cu_far htq (by omega)) (cu_far hwq (by omega)) (cu_far hzq (by omega)) (otq) (owq) (ozq) _ _ _ hP hD hS (lv_sub hl [1, 2, 3, 4, 5, 6, 0] rfl)
                    · skip
                      have hnr : nearP ft fv fe tol last (i1 + 1) := by
                        rcases hb9 with ⟨_, hM⟩ | ⟨h0, _⟩
                        · exact near_yes hT (by omega) hM hx1 (c155)
                        · exact absurd h0 c242
                      refine lv_aload_n hx hb dX6_reduce_245 rfl (lv_at hl 0 rfl) ?_
                      refine lv_iload hx hb dX6_reduce_246 (lv_at hl 4 rfl) ?_
                      refine lv_iload hx hb dX6_reduce_248 (lv_at hl 6 rfl) ?_
                      have hP9 := hP.sub (ws' := [oO mo 6 [.int 0, .ref a1, .int (nI nC), .ref a2, .ref a3, .ref a4, .ref a5, .ref a6, .ref a7, .ref a8, .ref a9, .int (nI nS), .ref a10, .int (nI nM), .ref a11], aI D a3 24 (upd ks (4 * i + j) (nI (left + (n - i1)))), aI D a4 384 tq, aI D a5 384 wq, aI D a6 384 zq]) [0, 2, 3, 4, 5] rfl
                      have hD9 := (hD.sub (ws' := [oO mo 6 [.int 0, .ref a1, .int (nI nC), .ref a2, .ref a3, .ref a4, .ref a5, .ref a6, .ref a7, .ref a8, .ref a9, .int (nI nS), .ref a10, .int (nI nM), .ref a11], aI D a3 24 (upd ks (4 * i + j) (nI (left + (n - i1)))), aI D a4 384 tq, aI D a5 384 wq, aI D a6 384 zq]) [0, 2, 3, 4, 5] (by decide) rfl).weaken (B := fun _ => True) (fun _ _ _ _ => trivial)
                      refine kv (wr := [aI D a2 6 ln, aI D bf (L + 1) (bfF (fun q => evT n ft fv fe (nI q)) (L + 1))]) (rV (rest := []) (qc := (RX6, TX6, 15)) [.int (nI (4 * i + j)), .int (nI left)] 2 0 0 hC (m_drop l D (k0 := 4 * i + j) (n := (left + (n - i1))) (d := left) (mo := mo) (th := 0) (a1 := a1) (nC := nC) (a2 := a2) (a3 := a3) (a4 := a4) (a5 := a5) (a6 := a6) (a7 := a7) (a8 := a8) (a9 := a9) (nS := nS) (a10 := a10) (nM := nM) (a11 := a11) (ks := upd ks (4 * i + j) (nI (left + (n - i1)))) (tm := tq) (wo := wq) (ea := zq) (hz0 := H.size) (by omega) (if_pos rfl) (by omega) (by omega)) rfl (hP 0 _ rfl) (gV mM_X6_85 mI_X6_drop mS_X6_drop mN_X6 mC_X6_drop) (by decide +kernel) rfl rfl ⟨Nat.le_of_ble_eq_true rfl, Nat.le_of_ble_eq_true rfl⟩ hG hP9 hD9 rfl hl.1 rfl (Nat.le_of_ble_eq_true rfl) dX6_reduce_250 ⟨Nat.le_of_ble_eq_true rfl, Nat.le_of_ble_eq_true rfl⟩) hP hD hS hA [0, 2, 3, 4, 5] [1, 6] rfl rfl (by decide) (by decide) (fun u250 H locs h250 hP hD hS hz hfr => ?_)
                      have hP : va_P D cls [aI D a2 6 ln, aI D bf (L + 1) (bfF (fun q => evT n ft fv fe (nI q)) (L + 1)), oO mo 6 [.int 0, .ref a1, .int (nI nC), .ref a2, .ref a3, .ref a4, .ref a5, .ref a6, .ref a7, .ref a8, .ref a9, .int (nI nS), .ref a10, .int (nI nM), .ref a11], aI D a3 24 (upd (upd ks (4 * i + j) (nI (left + (n - i1)))) (4 * i + j) (nI ((left + (n - i1)) - 1))), aI D a4 384 (dlF tq (16 * (4 * i + j) + left) (16 * (4 * i + j) + (left + (n - i1)))), aI D a5 384 (dlF wq (16 * (4 * i + j) + left) (16 * (4 * i + j) + (left + (n - i1)))), aI D a6 384 (dlF zq (16 * (4 * i + j) + left) (16 * (4 * i + j) + (left + (n - i1))))] H := hP
                      have hD : va_D A [aI D a2 6 ln, aI D bf (L + 1) (bfF (fun q => evT n ft fv fe (nI q)) (L + 1)), oO mo 6 [.int 0, .ref a1, .int (nI nC), .ref a2, .ref a3, .ref a4, .ref a5, .ref a6, .ref a7, .ref a8, .ref a9, .int (nI nS), .ref a10, .int (nI nM), .ref a11], aI D a3 24 (upd (upd ks (4 * i + j) (nI (left + (n - i1)))) (4 * i + j) (nI ((left + (n - i1)) - 1))), aI D a4 384 (dlF tq (16 * (4 * i + j) + left) (16 * (4 * i + j) + (left + (n - i1)))), aI D a5 384 (dlF wq (16 * (4 * i + j) + left) (16 * (4 * i + j) + (left + (n - i1)))), aI D a6 384 (dlF zq (16 * (4 * i + j) + left) (16 * (4 * i + j) + (left + (n - i1))))] := hD
                      refine lv_goto (tgt := 259) hx hb dX6_reduce_253 (by decide) ?_
                      refine lv_goto (tgt := 102) hx hb dX6_reduce_259 (by decide) ?_
                      have hcv3 : (upd ks (4 * i + j) (nI (left + (n - (i1 + 1))))) = (upd (upd ks (4 * i + j) (nI (left + (n - i1)))) (4 * i + j) (nI ((left + (n - i1)) - 1))) := by rw [upd_upd, show left + (n - i1) - 1 = left + (n - (i1 + 1)) by omega]
                      have hP := Eq.mpr (congrArg (fun z9 => va_P D cls [aI D a2 6 ln, aI D bf (L + 1) (bfF (fun q => evT n ft fv fe (nI q)) (L + 1)), oO mo 6 [.int 0, .ref a1, .int (nI nC), .ref a2, .ref a3, .ref a4, .ref a5, .ref a6, .ref a7, .ref a8, .ref a9, .int (nI nS), .ref a10, .int (nI nM), .ref a11], aI D a3 24 z9, aI D a4 384 (dlF tq (16 * (4 * i + j) + left) (16 * (4 * i + j) + (left + (n - i1)))), aI D a5 384 (dlF wq (16 * (4 * i + j) + left) (16 * (4 * i + j) + (left + (n - i1)))), aI D a6 384 (dlF zq (16 * (4 * i + j) + left) (16 * (4 * i + j) + (left + (n - i1))))] H) hcv3) hP
                      have hD := Eq.mpr (congrArg (fun z9 => va_D A [aI D a2 6 ln, aI D bf (L + 1) (bfF (fun q => evT n ft fv fe (nI q)) (L + 1)), oO mo 6 [.int 0, .ref a1, .int (nI nC), .ref a2, .ref a3, .ref a4, .ref a5, .ref a6, .ref a7, .ref a8, .ref a9, .int (nI nS), .ref a10, .int (nI nM), .ref a11], aI D a3 24 z9, aI D a4 384 (dlF tq (16 * (4 * i + j) + left) (16 * (4 * i + j) + (left + (n - i1)))), aI D a5 384 (dlF wq (16 * (4 * i + j) + left) (16 * (4 * i + j) + (left + (n - i1)))), aI D a6 384 (dlF zq (16 * (4 * i + j) + left) (16 * (4 * i + j) + (left + (n - i1))))]) hcv3) hD
                      have hP : va_P D cls [aI D a2 6 ln, aI D bf (L + 1) (bfF (fun q => evT n ft fv fe (nI q)) (L + 1)), oO mo 6 [.int 0, .ref a1, .int (nI nC), .ref a2, .ref a3, .ref a4, .ref a5, .ref a6, .ref a7, .ref a8, .ref a9, .int (nI nS), .ref a10, .int (nI nM), .ref a11], aI D a3 24 (upd ks (4 * i + j) (nI (left + (n - (i1 + 1))))), aI D a4 384 (dlF tq (16 * (4 * i + j) + left) (16 * (4 * i + j) + (left + (n - i1)))), aI D a5 384 (dlF wq (16 * (4 * i + j) + left) (16 * (4 * i + j) + (left + (n - i1)))), aI D a6 384 (dlF zq (16 * (4 * i + j) + left) (16 * (4 * i + j) + (left + (n - i1))))] H := hP
                      have hD : va_D A [aI D a2 6 ln, aI D bf (L + 1) (bfF (fun q => evT n ft fv fe (nI q)) (L + 1)), oO mo 6 [.int 0, .ref a1, .int (nI nC), .ref a2, .ref a3, .ref a4, .ref a5, .ref a6, .ref a7, .ref a8, .ref a9, .int (nI nS), .ref a10, .int (nI nM), .ref a11], aI D a3 24 (upd ks (4 * i + j) (nI (left + (n - (i1 + 1))))), aI D a4 384 (dlF tq (16 * (4 * i + j) + left) (16 * (4 * i + j) + (left + (n - i1)))), aI D a5 384 (dlF wq (16 * (4 * i + j) + left) (16 * (4 * i + j) + (left + (n - i1)))), aI D a6 384 (dlF zq (16 * (4 * i + j) + left) (16 * (4 * i + j) + (left + (n - i1))))] := hD
                      exact ih102 (i1 + 1) left last g (dlF tq (16 * (4 * i + j) + left) (16 * (4 * i + j) + (left + (n - i1)))) (dlF wq (16 * (4 * i + j) + left) (16 * (4 * i + j) + (left + (n - i1)))) (dlF zq (16 * (4 * i + j) + left) (16 * (4 * i + j) + (left + (n - i1)))) (by omega) (by omega) (by omega) (thS_near hi1 hst hnr) (by omega) (by omega) (by omega) (hgl) (cu_near htq (by omega)) (cu_near hwq (by omega)) (cu_near hzq (by omega)) (fun x hx => (dlF_out (by omega) hx).trans (otq x hx)) (fun x hx => (dlF_out (by omega) hx).trans (owq x hx)) (fun x hx => (dlF_out (by omega) hx).trans (ozq x hx)) _ _ _ (hP.sub [2, 0, 3, 4, 5, 6, 1] rfl) (hD.sub [2, 0, 3, 4, 5, 6, 1] (by decide) rfl) hS (lv_sub hl [0, 1, 2, 3, 4, 5, 6] rfl)
                  · skip
                    have hx8 : nI x0 < ft (i1 + 1) := Int32.not_le.mp c155
                    have hx7 : x0 < L + 1 := by
                      have q1 := hLt (i1 + 1) (by omega)
                      have q2 := (fa_lt _ _).mp hx8
                      rw [nI_toInt (by omega)] at q2
                      omega
                    have hx6 := nI_t hx8 hx1 (hT.1 (i1 + 1) (by omega)).2
                    refine lv_iload hx hb dX6_reduce_158 (lv_at hl 9 rfl) ?_
                    refine lv_if_eq (tgt := 240) hx hb dX6_reduce_160 (by decide) (fun c160 => ?_) (fun c160 => ?_)
                    · skip
                      refine lv_iload hx hb dX6_reduce_240 (lv_at hl 9 rfl) ?_
                      refine lv_if_eq (tgt := 256) hx hb dX6_reduce_242 (by decide) (fun c242 => ?_) (fun c242 => absurd (c160) c242)
                      have hnr : ¬ nearP ft fv fe tol last (i1 + 1) := by
                        rcases hb9 with ⟨h0, _⟩ | ⟨_, y, h1, h2, h3⟩
                        · exact absurd (h0.symm.trans c160) (by decide)
                        · exact near_no hT (by omega) (by omega) h1 h2 h3
                      refine lv_iinc (v := nI (left + 1)) (lv' := [(6, .int (nI (left + 1))), (0, .ref mo), (1, .int (nI i)), (2, .int (nI j)), (3, .int tol), (4, .int (nI (4 * i + j))), (5, .ref bf), (7, .int (nI (16 * (4 * i + j) + left - 1))), (8, .int (nI (16 * (4 * i + j) + left - 1 + 2))), (9, .int b9), (10, .int (nI x0))]) hx hb dX6_reduce_256 hl (k := 6) rfl (nI_1 _) (by decide) rfl (fun ls hl => ?_)
                      refine lv_goto (tgt := 102) hx hb dX6_reduce_259 (by decide) ?_
                      have hcv4 : (upd ks (4 * i + j) (nI (left + 1 + (n - (i1 + 1))))) = (upd ks (4 * i + j) (nI (left + (n - i1)))) := by rw [show left + 1 + (n - (i1 + 1)) = left + (n - i1) by omega]
                      have hP := Eq.mpr (congrArg (fun z9 => va_P D cls [oO mo 6 [.int 0, .ref a1, .int (nI nC), .ref a2, .ref a3, .ref a4, .ref a5, .ref a6, .ref a7, .ref a8, .ref a9, .int (nI nS), .ref a10, .int (nI nM), .ref a11], aI D a2 6 ln, aI D a3 24 z9, aI D a4 384 tq, aI D a5 384 wq, aI D a6 384 zq, aI D bf (L + 1) (bfF (fun q => evT n ft fv fe (nI q)) (L + 1))] H) hcv4) hP
                      have hD := Eq.mpr (congrArg (fun z9 => va_D A [oO mo 6 [.int 0, .ref a1, .int (nI nC), .ref a2, .ref a3, .ref a4, .ref a5, .ref a6, .ref a7, .ref a8, .ref a9, .int (nI nS), .ref a10, .int (nI nM), .ref a11], aI D a2 6 ln, aI D a3 24 z9, aI D a4 384 tq, aI D a5 384 wq, aI D a6 384 zq, aI D bf (L + 1) (bfF (fun q => evT n ft fv fe (nI q)) (L + 1))]) hcv4) hD
                      have hP : va_P D cls [oO mo 6 [.int 0, .ref a1, .int (nI nC), .ref a2, .ref a3, .ref a4, .ref a5, .ref a6, .ref a7, .ref a8, .ref a9, .int (nI nS), .ref a10, .int (nI nM), .ref a11], aI D a2 6 ln, aI D a3 24 (upd ks (4 * i + j) (nI (left + 1 + (n - (i1 + 1))))), aI D a4 384 tq, aI D a5 384 wq, aI D a6 384 zq, aI D bf (L + 1) (bfF (fun q => evT n ft fv fe (nI q)) (L + 1))] H := hP
                      have hD : va_D A [oO mo 6 [.int 0, .ref a1, .int (nI nC), .ref a2, .ref a3, .ref a4, .ref a5, .ref a6, .ref a7, .ref a8, .ref a9, .int (nI nS), .ref a10, .int (nI nM), .ref a11], aI D a2 6 ln, aI D a3 24 (upd ks (4 * i + j) (nI (left + 1 + (n - (i1 + 1))))), aI D a4 384 tq, aI D a5 384 wq, aI D a6 384 zq, aI D bf (L + 1) (bfF (fun q => evT n ft fv fe (nI q)) (L + 1))] := hD
                      exact ih102 (i1 + 1) (left + 1) i1 (fun k => if k = left then i1 else g k) tq wq zq (by omega) (by omega) (by omega) (thS_far hi1 hst hnr) (by omega) (by omega) (by omega) (if_pos (by omega)) (cu_far htq (by omega)) (cu_far hwq (by omega)) (cu_far hzq (by omega)) (otq) (owq) (ozq) _ _ _ hP hD hS (lv_sub hl [1, 2, 3, 4, 5, 6, 0] rfl)
                    · skip
                      have hM := (hb9.resolve_right (fun z => c160 z.1)).2
                      refine lv_aload_n hx hb dX6_reduce_163 rfl (lv_at hl 0 rfl) ?_
                      refine va_get (D := D) (ci := 6) (v := .ref a5) (C := RX6) (T := TX6) (N := 15) hx hb hts inlX6 hown hG.K hP 0 rfl rfl 6 (by decide) (hts _ mF_X6_22) (fun _ h9 => h9) rfl dX6_reduce_164 ?_
                      refine lv_iload hx hb dX6_reduce_167 (lv_at hl 7 rfl) ?_
                      refine ild (n := 384) (j := 16 * (4 * i + j) + left - 1) hx hb hG hP 4 rfl (by omega) (by omega) dX6_reduce_169 ?_
                      refine tpi (y := fv last) (by rw [show 16 * (4 * i + j) + left - 1 = 16 * (4 * i + j) + (left - 1) by omega, hwq _ (by omega), cu_lt (by omega), hgl]) ?_
                      refine lv_aload_n hx hb dX6_reduce_170 rfl (lv_at hl 0 rfl) ?_
                      refine va_get (D := D) (ci := 6) (v := .ref a5) (C := RX6) (T := TX6) (N := 15) hx hb hts inlX6 hown hG.K hP 0 rfl rfl 6 (by decide) (hts _ mF_X6_22) (fun _ h9 => h9) rfl dX6_reduce_171 ?_
                      refine lv_iload hx hb dX6_reduce_174 (lv_at hl 8 rfl) ?_
                      refine ild (n := 384) (j := 16 * (4 * i + j) + left - 1 + 2) hx hb hG hP 4 rfl (by omega) (by omega) dX6_reduce_176 ?_
                      refine tpi (y := fv (i1 + 1)) (by rw [show 16 * (4 * i + j) + left - 1 + 2 = 16 * (4 * i + j) + (left + 1) by omega, hwq _ (by omega), cu_ge (by omega), show i1 + (left + 1 - left) = i1 + 1 by omega]) ?_
                      refine lv_aload_n hx hb dX6_reduce_177 rfl (lv_at hl 0 rfl) ?_
                      refine va_get (D := D) (ci := 6) (v := .ref a6) (C := RX6) (T := TX6) (N := 15) hx hb hts inlX6 hown hG.K hP 0 rfl rfl 7 (by decide) (hts _ mF_X6_25) (fun _ h9 => h9) rfl dX6_reduce_178 ?_
                      refine lv_iload hx hb dX6_reduce_181 (lv_at hl 7 rfl) ?_
                      refine ild (n := 384) (j := 16 * (4 * i + j) + left - 1) hx hb hG hP 5 rfl (by omega) (by omega) dX6_reduce_183 ?_
                      refine tpi (y := fe last) (by rw [show 16 * (4 * i + j) + left - 1 = 16 * (4 * i + j) + (left - 1) by omega, hzq _ (by omega), cu_lt (by omega), hgl]) ?_
                      refine lv_iload hx hb dX6_reduce_184 (lv_at hl 10 rfl) ?_
                      refine lv_aload_n hx hb dX6_reduce_186 rfl (lv_at hl 0 rfl) ?_
                      refine va_get (D := D) (ci := 6) (v := .ref a4) (C := RX6) (T := TX6) (N := 15) hx hb hts inlX6 hown hG.K hP 0 rfl rfl 5 (by decide) (hts _ mF_X6_19) (fun _ h9 => h9) rfl dX6_reduce_187 ?_
                      refine lv_iload hx hb dX6_reduce_190 (lv_at hl 7 rfl) ?_
                      refine ild (n := 384) (j := 16 * (4 * i + j) + left - 1) hx hb hG hP 3 rfl (by omega) (by omega) dX6_reduce_192 ?_
                      refine tpi (y := ft last) (by rw [show 16 * (4 * i + j) + left - 1 = 16 * (4 * i + j) + (left - 1) by omega, htq _ (by omega), cu_lt (by omega), hgl]) ?_
                      refine lv_isub hx hb dX6_reduce_193 ?_
                      refine lv_i2l hx hb dX6_reduce_194 rfl ?_
                      refine lv_aload_n hx hb dX6_reduce_195 rfl (lv_at hl 0 rfl) ?_
                      refine va_get (D := D) (ci := 6) (v := .ref a4) (C := RX6) (T := TX6) (N := 15) hx hb hts inlX6 hown hG.K hP 0 rfl rfl 5 (by decide) (hts _ mF_X6_19) (fun _ h9 => h9) rfl dX6_reduce_196 ?_
                      refine lv_iload hx hb dX6_reduce_199 (lv_at hl 8 rfl) ?_
                      refine ild (n := 384) (j := 16 * (4 * i + j) + left - 1 + 2) hx hb hG hP 3 rfl (by omega) (by omega) dX6_reduce_201 ?_
                      refine tpi (y := ft (i1 + 1)) (by rw [show 16 * (4 * i + j) + left - 1 + 2 = 16 * (4 * i + j) + (left + 1) by omega, htq _ (by omega), cu_ge (by omega), show i1 + (left + 1 - left) = i1 + 1 by omega]) ?_
                      refine lv_aload_n hx hb dX6_reduce_202 rfl (lv_at hl 0 rfl) ?_
                      refine va_get (D := D) (ci := 6) (v := .ref a4) (C := RX6) (T := TX6) (N := 15) hx hb hts inlX6 hown hG.K hP 0 rfl rfl 5 (by decide) (hts _ mF_X6_19) (fun _ h9 => h9) rfl dX6_reduce_203 ?_
                      refine lv_iload hx hb dX6_reduce_206 (lv_at hl 7 rfl) ?_
                      refine ild (n := 384) (j := 16 * (4 * i + j) + left - 1) hx hb hG hP 3 rfl (by omega) (by omega) dX6_reduce_208 ?_
                      refine tpi (y := ft last) (by rw [show 16 * (4 * i + j) + left - 1 = 16 * (4 * i + j) + (left - 1) by omega, htq _ (by omega), cu_lt (by omega), hgl]) ?_
                      refine lv_isub hx hb dX6_reduce_209 ?_
                      refine lv_i2l hx hb dX6_reduce_210 rfl ?_
                      have hP9 : va_P D cls [] H := fun k q h => by simp at h
                      refine vp_callSi (pS (rest := []) [.int (fv last), .int (fv (i1 + 1)), .int (fe last), .long (((nI x0) - (ft last)).toInt64), .long (((ft (i1 + 1)) - (ft last)).toInt64)] 5 hC (m_eased l D (z := ft (i1 + 1) - ft last) (u0 := fv last) (v0 := fv (i1 + 1)) (e0 := fe last) (xx := ((nI x0) - (ft last)).toInt64) (hT.d (by omega) (by omega))) (gS mM_X6_95 mT_X6_eased mN_X6 mC_X6_eased) (by decide +kernel) rfl rfl ⟨Nat.le_of_ble_eq_true rfl, Nat.le_of_ble_eq_true rfl⟩ hG hP9 rfl hl.1 rfl (Nat.le_of_ble_eq_true rfl) dX6_reduce_211 ⟨Nat.le_of_ble_eq_true rfl, Nat.le_of_ble_eq_true rfl⟩) (fun r211 h211 => ?_)
                      obtain rfl : r211 = (ezed (fv last) ((fv (i1 + 1)).toInt64 - (fv last).toInt64) (fe last) (((nI x0) - (ft last)).toInt64) (ft (i1 + 1) - ft last).toInt64) := h211
                      refine tpi (y := vb ft fv fe last (i1 + 1) (nI x0)) (vb_lg hV (by omega) (by omega)) ?_
                      refine lv_aload hx hb dX6_reduce_214 (lv_at hl 5 rfl) ?_
                      refine lv_iload hx hb dX6_reduce_216 (lv_at hl 10 rfl) ?_
                      refine ild (n := (L + 1)) (j := x0) hx hb hG hP 6 rfl (by omega) (by omega) dX6_reduce_218 ?_
                      refine tpi (y := evT n ft fv fe (nI x0)) (if_pos hx7) ?_
                      refine lv_isub hx hb dX6_reduce_219 ?_
                      refine va_mabs hx hb (by rw [hml]; exact hl.1.symm) hown (hts _ mM_X6_105) (hts _ mT_Lib_Math_abs_name) (hts _ mN__java_lang_Math_) (hts _ mC_Lib_Math_abs_name) (Nat.le_of_ble_eq_true rfl) (Nat.le_of_ble_eq_true rfl) (Nat.le_of_ble_eq_true rfl) (Nat.le_of_ble_eq_true rfl) dX6_reduce_220 ?_
                      refine tpi (y := absI (vb ft fv fe last (i1 + 1) (nI x0) - evT n ft fv fe (nI x0))) (rfl) ?_
                      refine lv_iload_n hx hb dX6_reduce_223 rfl (lv_at hl 3 rfl) ?_
                      refine lv_icmp_gt (tgt := 231) hx hb dX6_reduce_224 (by decide) (fun c224 => ?_) (fun c224 => ?_)
                      · skip
                        refine lv_iconst (v := 0) hx hb dX6_reduce_231 (by decide) ?_
                        refine lv_istore (lv' := [(9, .int 0), (0, .ref mo), (1, .int (nI i)), (2, .int (nI j)), (3, .int tol), (4, .int (nI (4 * i + j))), (5, .ref bf), (6, .int (nI left)), (7, .int (nI (16 * (4 * i + j) + left - 1))), (8, .int (nI (16 * (4 * i + j) + left - 1 + 2))), (10, .int (nI x0))]) hx hb dX6_reduce_232 hl (by decide) rfl (fun ls hl => ?_)
                        refine lv_iinc (v := nI (x0 + 1)) (lv' := [(10, .int (nI (x0 + 1))), (9, .int 0), (0, .ref mo), (1, .int (nI i)), (2, .int (nI j)), (3, .int tol), (4, .int (nI (4 * i + j))), (5, .ref bf), (6, .int (nI left)), (7, .int (nI (16 * (4 * i + j) + left - 1))), (8, .int (nI (16 * (4 * i + j) + left - 1 + 2)))]) hx hb dX6_reduce_234 hl (k := 10) rfl (nI_1 _) (by decide) rfl (fun ls hl => ?_)
                        refine lv_goto (tgt := 146) hx hb dX6_reduce_237 (by decide) ?_
                        exact ih146 (x0 + 1) 0 (by omega) (by rw [fa_le, nI_toInt (by omega)]; rw [fa_le, nI_toInt (by omega)] at hx0; omega) (by omega) (Or.inr ⟨rfl, x0, hx0, hx8, Int32.not_le.mpr c224⟩) _ (lv_sub hl [2, 3, 4, 5, 6, 7, 8, 9, 10, 1, 0] rfl)
                      · skip
                        refine lv_iconst (v := 1) hx hb dX6_reduce_227 (by decide) ?_
                        refine lv_goto (tgt := 232) hx hb dX6_reduce_228 (by decide) ?_
                        refine lv_istore (lv' := [(9, .int 1), (0, .ref mo), (1, .int (nI i)), (2, .int (nI j)), (3, .int tol), (4, .int (nI (4 * i + j))), (5, .ref bf), (6, .int (nI left)), (7, .int (nI (16 * (4 * i + j) + left - 1))), (8, .int (nI (16 * (4 * i + j) + left - 1 + 2))), (10, .int (nI x0))]) hx hb dX6_reduce_232 hl (by decide) rfl (fun ls hl => ?_)
                        refine lv_iinc (v := nI (x0 + 1)) (lv' := [(10, .int (nI (x0 + 1))), (9, .int 1), (0, .ref mo), (1, .int (nI i)), (2, .int (nI j)), (3, .int tol), (4, .int (nI (4 * i + j))), (5, .ref bf), (6, .int (nI left)), (7, .int (nI (16 * (4 * i + j) + left - 1))), (8, .int (nI (16 * (4 * i + j) + left - 1 + 2)))]) hx hb dX6_reduce_234 hl (k := 10) rfl (nI_1 _) (by decide) rfl (fun ls hl => ?_)
                        refine lv_goto (tgt := 146) hx hb dX6_reduce_237 (by decide) ?_
                        exact ih146 (x0 + 1) 1 (by omega) (by rw [fa_le, nI_toInt (by omega)]; rw [fa_le, nI_toInt (by omega)] at hx0; omega) (by omega) (Or.inl ⟨rfl, fun y h1 h2 => by
                                            rcases Nat.lt_or_ge y x0 with q | q
                                            · exact hM y h1 q
                                            · have e9 : y = x0 := by omega
                                              subst e9
                                              exact Int32.not_lt.mp c224⟩) _ (lv_sub hl [2, 3, 4, 5, 6, 7, 8, 9, 10, 1, 0] rfl)
              exact loop146 _ ((ft last).toInt.toNat) 1 (Nat.lt_succ_self _) (by rw [← hT.n (by omega)]; exact Int32.le_refl _) (by have := hT.1 last (by omega); omega) (Or.inl ⟨rfl, fun y h1 h2 => by
                    have h3 := hT.1 last (by omega)
                    rw [fa_le, nI_toInt (by omega)] at h1
                    omega⟩) _ (lv_sub hl [4, 5, 6, 7, 8, 9, 10, 3, 2, 1, 0] rfl)
        have hcv5 : (upd ks (4 * i + j) (nI (1 + (n - 1)))) = ks := upd_same (by rw [hks]; congr 1; omega)
        have hP := Eq.mpr (congrArg (fun z9 => va_P D cls [oO mo 6 [.int 0, .ref a1, .int (nI nC), .ref a2, .ref a3, .ref a4, .ref a5, .ref a6, .ref a7, .ref a8, .ref a9, .int (nI nS), .ref a10, .int (nI nM), .ref a11], aI D a2 6 ln, aI D a3 24 z9, aI D a4 384 tm, aI D a5 384 wo, aI D a6 384 ea, aI D bf (L + 1) (bfF (fun q => evT n ft fv fe (nI q)) (L + 1))] H) hcv5) hP
        have hD := Eq.mpr (congrArg (fun z9 => va_D A [oO mo 6 [.int 0, .ref a1, .int (nI nC), .ref a2, .ref a3, .ref a4, .ref a5, .ref a6, .ref a7, .ref a8, .ref a9, .int (nI nS), .ref a10, .int (nI nM), .ref a11], aI D a2 6 ln, aI D a3 24 z9, aI D a4 384 tm, aI D a5 384 wo, aI D a6 384 ea, aI D bf (L + 1) (bfF (fun q => evT n ft fv fe (nI q)) (L + 1))]) hcv5) hD
        have hP : va_P D cls [oO mo 6 [.int 0, .ref a1, .int (nI nC), .ref a2, .ref a3, .ref a4, .ref a5, .ref a6, .ref a7, .ref a8, .ref a9, .int (nI nS), .ref a10, .int (nI nM), .ref a11], aI D a2 6 ln, aI D a3 24 (upd ks (4 * i + j) (nI (1 + (n - 1)))), aI D a4 384 tm, aI D a5 384 wo, aI D a6 384 ea, aI D bf (L + 1) (bfF (fun q => evT n ft fv fe (nI q)) (L + 1))] H := hP
        have hD : va_D A [oO mo 6 [.int 0, .ref a1, .int (nI nC), .ref a2, .ref a3, .ref a4, .ref a5, .ref a6, .ref a7, .ref a8, .ref a9, .int (nI nS), .ref a10, .int (nI nM), .ref a11], aI D a2 6 ln, aI D a3 24 (upd ks (4 * i + j) (nI (1 + (n - 1)))), aI D a4 384 tm, aI D a5 384 wo, aI D a6 384 ea, aI D bf (L + 1) (bfF (fun q => evT n ft fv fe (nI q)) (L + 1))] := hD
        exact loop102 _ 1 1 0 (fun _ => 0) tm wo ea (Nat.lt_succ_self _) (by omega) (by omega) (rfl) (by omega) (by omega) (by omega) (rfl) (fun q hq => by
              rw [htm q (by omega)]
              congr 1
              rw [cuI]
              split <;> omega) (fun q hq => by
              rw [hwo q (by omega)]
              congr 1
              rw [cuI]
              split <;> omega) (fun q hq => by
              rw [hea q (by omega)]
              congr 1
              rw [cuI]
              split <;> omega) (fun _ _ => rfl) (fun _ _ => rfl) (fun _ _ => rfl) _ _ _ hP hD hS (lv_sub hl [1, 2, 3, 4, 5, 6, 0] rfl)
      · skip
        have n67 := mt (nI_ltI (a := L) (b := t0) (by omega) (by omega)).mpr c67
        refine lv_aload_n hx hb dX6_reduce_70 rfl (lv_at hl 0 rfl) ?_
        refine va_get (D := D) (ci := 6) (v := .ref a3) (C := RX6) (T := TX6) (N := 15) hx hb hts inlX6 hown hG.K hP 0 rfl rfl 4 (by decide) (hts _ mF_X6_16) (fun _ h9 => h9) rfl dX6_reduce_71 ?_
        refine lv_iload hx hb dX6_reduce_74 (lv_at hl 4 rfl) ?_
        refine ild (n := 24) (j := 4 * i + j) hx hb hG hP 2 rfl (by omega) (by omega) dX6_reduce_76 ?_
        refine tpi (y := nI n) (hks) ?_
        refine lv_if_le (tgt := 99) hx hb dX6_reduce_77 (by decide) (fun h9 => absurd ((nI_leI (a := n) (b := 0) (by omega) (by omega)).mp h9) (by omega)) (fun _ => ?_)
        refine lv_aload hx hb dX6_reduce_80 (lv_at hl 5 rfl) ?_
        refine lv_iload hx hb dX6_reduce_82 (lv_at hl 6 rfl) ?_
        refine lv_aload_n hx hb dX6_reduce_84 rfl (lv_at hl 0 rfl) ?_
        refine lv_iload hx hb dX6_reduce_85 (lv_at hl 4 rfl) ?_
        refine lv_iload hx hb dX6_reduce_87 (lv_at hl 6 rfl) ?_
        have hP9 := hP.sub (ws' := [oO mo 6 [.int 0, .ref a1, .int (nI nC), .ref a2, .ref a3, .ref a4, .ref a5, .ref a6, .ref a7, .ref a8, .ref a9, .int (nI nS), .ref a10, .int (nI nM), .ref a11], aI D a3 24 ks, aI D a4 384 tm, aI D a5 384 wo, aI D a6 384 ea]) [0, 2, 3, 4, 5] rfl
        refine vp_callSi (pV (rest := [.int (nI t0), .ref bf]) (qc := (RX6, TX6, 15)) [.int (nI (4 * i + j)), .int (nI t0)] 2 hC (m_worth l D (k0 := 4 * i + j) (n := n) (ft := ft) (fv := fv) (fe := fe) (mo := mo) (x := nI t0) (th := 0) (a1 := a1) (nC := nC) (a2 := a2) (a3 := a3) (a4 := a4) (a5 := a5) (a6 := a6) (a7 := a7) (a8 := a8) (a9 := a9) (nS := nS) (a10 := a10) (nM := nM) (a11 := a11) (ks := ks) (tm := tm) (wo := wo) (ea := ea) (by omega) (hn0) (h16) (hks) (htm) (hwo) (hea) (hT) (hV)) rfl (hP 0 _ rfl) (gV mM_X6_99 mI_X6_worth mS_X6_worth mN_X6 mC_X6_worth) (by decide +kernel) rfl rfl ⟨Nat.le_of_ble_eq_true rfl, Nat.le_of_ble_eq_true rfl⟩ hG hP9 rfl hl.1 rfl (Nat.le_of_ble_eq_true rfl) dX6_reduce_89 ⟨Nat.le_of_ble_eq_true rfl, Nat.le_of_ble_eq_true rfl⟩) (fun r89 h89 => ?_)
        obtain rfl : r89 = (evT n ft fv fe (nI t0)) := h89
        refine ist (n := (L + 1)) (j := t0) hx hb hG hP hD hS 6 rfl (by omega) (by omega) dX6_reduce_92 (fun H locs hP hD hS => ?_)
        have hfn : upd (bfF (fun q => evT n ft fv fe (nI q)) t0) t0 (evT n ft fv fe (nI t0)) = (bfF (fun q => evT n ft fv fe (nI q)) (t0 + 1)) := bfF_step _ _
        have hP : va_P D cls [oO mo 6 [.int 0, .ref a1, .int (nI nC), .ref a2, .ref a3, .ref a4, .ref a5, .ref a6, .ref a7, .ref a8, .ref a9, .int (nI nS), .ref a10, .int (nI nM), .ref a11], aI D a2 6 ln, aI D a3 24 ks, aI D a4 384 tm, aI D a5 384 wo, aI D a6 384 ea, aI D bf (L + 1) (bfF (fun q => evT n ft fv fe (nI q)) (t0 + 1))] H := by rw [← hfn]; exact hP
        have hD : va_D A [oO mo 6 [.int 0, .ref a1, .int (nI nC), .ref a2, .ref a3, .ref a4, .ref a5, .ref a6, .ref a7, .ref a8, .ref a9, .int (nI nS), .ref a10, .int (nI nM), .ref a11], aI D a2 6 ln, aI D a3 24 ks, aI D a4 384 tm, aI D a5 384 wo, aI D a6 384 ea, aI D bf (L + 1) (bfF (fun q => evT n ft fv fe (nI q)) (t0 + 1))] := by rw [← hfn]; exact hD
        refine lv_iinc (v := nI (t0 + 1)) (lv' := [(6, .int (nI (t0 + 1))), (0, .ref mo), (1, .int (nI i)), (2, .int (nI j)), (3, .int tol), (4, .int (nI (4 * i + j))), (5, .ref bf)]) hx hb dX6_reduce_93 hl (k := 6) rfl (nI_1 _) (by decide) rfl (fun ls hl => ?_)
        refine lv_goto (tgt := 59) hx hb dX6_reduce_96 (by decide) ?_
        exact ih59 (t0 + 1) (by omega) (by omega) _ _ _ hP hD hS (lv_sub hl [1, 2, 3, 4, 5, 6, 0] rfl)
  have hcv6 : (bfF (fun q => evT n ft fv fe (nI q)) 0) = (fun _ => 0) := (bfF_0 _).symm
  have hP := Eq.mpr (congrArg (fun z9 => va_P D cls [oO mo 6 [.int 0, .ref a1, .int (nI nC), .ref a2, .ref a3, .ref a4, .ref a5, .ref a6, .ref a7, .ref a8, .ref a9, .int (nI nS), .ref a10, .int (nI nM), .ref a11], aI D a2 6 ln, aI D a3 24 ks, aI D a4 384 tm, aI D a5 384 wo, aI D a6 384 ea, aI D bf (L + 1) z9] H) hcv6) hP
  have hD := Eq.mpr (congrArg (fun z9 => va_D A [oO mo 6 [.int 0, .ref a1, .int (nI nC), .ref a2, .ref a3, .ref a4, .ref a5, .ref a6, .ref a7, .ref a8, .ref a9, .int (nI nS), .ref a10, .int (nI nM), .ref a11], aI D a2 6 ln, aI D a3 24 ks, aI D a4 384 tm, aI D a5 384 wo, aI D a6 384 ea, aI D bf (L + 1) z9]) hcv6) hD
  have hP : va_P D cls [oO mo 6 [.int 0, .ref a1, .int (nI nC), .ref a2, .ref a3, .ref a4, .ref a5, .ref a6, .ref a7, .ref a8, .ref a9, .int (nI nS), .ref a10, .int (nI nM), .ref a11], aI D a2 6 ln, aI D a3 24 ks, aI D a4 384 tm, aI D a5 384 wo, aI D a6 384 ea, aI D bf (L + 1) (bfF (fun q => evT n ft fv fe (nI q)) 0)] H := hP
  have hD : va_D A [oO mo 6 [.int 0, .ref a1, .int (nI nC), .ref a2, .ref a3, .ref a4, .ref a5, .ref a6, .ref a7, .ref a8, .ref a9, .int (nI nS), .ref a10, .int (nI nM), .ref a11], aI D a2 6 ln, aI D a3 24 ks, aI D a4 384 tm, aI D a5 384 wo, aI D a6 384 ea, aI D bf (L + 1) (bfF (fun q => evT n ft fv fe (nI q)) 0)] := hD
  exact loop59 _ 0 (Nat.lt_succ_self _) (by omega) _ _ _ hP hD hS (lv_sub hl [3, 4, 5, 6, 2, 1, 0] rfl)
