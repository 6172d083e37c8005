set_option maxHeartbeats 4000000 in
set_option maxRecDepth 100000 in
theorem c_size (l : Launch) (D : va_G) {r a n sz : Nat} {f : Nat → Int32}  : Met l yX2_size (ws_ yX2_size cX2_size 1 (some .int)) ({ frames := 0, cells := 0, slots := 0, locals := 0 } : Room) (va_Pc [.ref r] (PW D [oO r 2 [.ref a, .int (nI sz)], aI D a n f])) (vp_Si (fun v => v = nI sz)) 0 0 (fun _ => False) := by
  refine Met.ofW (cc := cX2_size) (maxL := 1) (ret := (some .int)) (by decide) rfl ?_
  intro p e s m args below meth c s₁ B hml hv
  obtain ⟨rfl, hG, hP⟩ := hv
  have hx := B.exec
  have hb := B.bytes
  have hr := B.returns
  have hts : ∀ w ∈ wsL_law, w.before _ s = true := fun w h => atoms_spec (ws := (ws_ yX2_size cX2_size 1 (some .int))) B.pre w (List.mem_cons_of_mem _ h)
  have hown : s.vm.findClass RX2 = some m.cls := findClass_of_methodNamed B.named
  have hlk := B.notSynchronized
  have hC : CallFix p m c cX2_size 1 s _ wsL_law RX2 := ⟨hx, hb, hml, hown, hts⟩
  have hl := lv_entry ([.ref r]) (n := 1) (Nat.le_of_ble_eq_true rfl)
  rw [lg_entry_eq]
  generalize (lg_sl ([.ref r]) ++ List.replicate (1 - (lg_sl ([.ref r])).length) Slot.unset).toArray = ls at hl ⊢
  have hl : lv_has ls 1 [(0, .ref r)] := hl
  refine lv_aload_n hx hb dX2_size_0 rfl (lv_at hl 0 rfl) ?_
  refine va_get (D := D) (ci := 2) (v := .int (nI sz)) (C := RX2) (T := TX2) (N := 2) hx hb hts inlX2 hown hG.K hP 0 rfl rfl 1 (by decide) (hts _ mF_X2_13) (fun _ h9 => h9) rfl dX2_size_1 ?_
  refine Ri hx hb hr hlk ?_ dX2_size_4
  exact rfl
set_option maxHeartbeats 4000000 in
set_option maxRecDepth 100000 in
theorem c_isCell (l : Launch) (D : va_G) {r a n sz : Nat} {f : Nat → Int32} {j : Nat} (hn : n < 2 ^ 31) (hs : sz ≤ n) (hj : j < sz) : Met l yX2_isCell (ws_ yX2_isCell cX2_isCell 2 (some .boolean)) ({ frames := 0, cells := 0, slots := 0, locals := 0 } : Room) (va_Pc [.ref r, .int (nI j)] (PW D [oO r 2 [.ref a, .int (nI sz)], aI D a n f])) (vp_Si (fun v => v = 1)) 0 0 (fun _ => False) := by
  refine Met.ofW (cc := cX2_isCell) (maxL := 2) (ret := (some .boolean)) (by decide) rfl ?_
  intro p e s m args below meth c s₁ B hml hv
  obtain ⟨rfl, hG, hP⟩ := hv
  have hx := B.exec
  have hb := B.bytes
  have hr := B.returns
  have hts : ∀ w ∈ wsL_law, w.before _ s = true := fun w h => atoms_spec (ws := (ws_ yX2_isCell cX2_isCell 2 (some .boolean))) B.pre w (List.mem_cons_of_mem _ h)
  have hown : s.vm.findClass RX2 = some m.cls := findClass_of_methodNamed B.named
  have hlk := B.notSynchronized
  have hC : CallFix p m c cX2_isCell 2 s _ wsL_law RX2 := ⟨hx, hb, hml, hown, hts⟩
  have hl := lv_entry ([.ref r, .int (nI j)]) (n := 2) (Nat.le_of_ble_eq_true rfl)
  rw [lg_entry_eq]
  generalize (lg_sl ([.ref r, .int (nI j)]) ++ List.replicate (2 - (lg_sl ([.ref r, .int (nI j)])).length) Slot.unset).toArray = ls at hl ⊢
  have hl : lv_has ls 2 [(0, .ref r), (1, .int (nI j))] := hl
  refine lv_iload_n hx hb dX2_isCell_0 rfl (lv_at hl 1 rfl) ?_
  refine lv_if_lt (tgt := 25) hx hb dX2_isCell_1 (by decide) (fun h9 => absurd ((nI_ltI (a := j) (b := 0) (by omega) (by omega)).mp h9) (by omega)) (fun _ => ?_)
  refine lv_iload_n hx hb dX2_isCell_4 rfl (lv_at hl 1 rfl) ?_
  refine lv_aload_n hx hb dX2_isCell_5 rfl (lv_at hl 0 rfl) ?_
  refine va_get (D := D) (ci := 2) (v := .int (nI sz)) (C := RX2) (T := TX2) (N := 2) hx hb hts inlX2 hown hG.K hP 0 rfl rfl 1 (by decide) (hts _ mF_X2_13) (fun _ h9 => h9) rfl dX2_isCell_6 ?_
  refine lv_icmp_ge (tgt := 25) hx hb dX2_isCell_9 (by decide) (fun h9 => absurd ((nI_leI (a := sz) (b := j) (by omega) (by omega)).mp h9) (by omega)) (fun _ => ?_)
  refine lv_iload_n hx hb dX2_isCell_12 rfl (lv_at hl 1 rfl) ?_
  refine lv_aload_n hx hb dX2_isCell_13 rfl (lv_at hl 0 rfl) ?_
  refine va_get (D := D) (ci := 2) (v := .ref a) (C := RX2) (T := TX2) (N := 2) hx hb hts inlX2 hown hG.K hP 0 rfl rfl 0 (by decide) (hts _ mF_X2_7) (fun _ h9 => h9) rfl dX2_isCell_14 ?_
  refine iln hx hb hG hP 1 rfl dX2_isCell_17 ?_
  refine lv_icmp_ge (tgt := 25) hx hb dX2_isCell_18 (by decide) (fun h9 => absurd ((nI_leI (a := n) (b := j) (by omega) (by omega)).mp h9) (by omega)) (fun _ => ?_)
  refine lv_iconst (v := 1) hx hb dX2_isCell_21 (by decide) ?_
  refine lv_goto (tgt := 26) hx hb dX2_isCell_22 (by decide) ?_
  refine Rz hx hb hr hlk (by first | rfl | decide) ?_ dX2_isCell_26
  exact rfl
set_option maxHeartbeats 4000000 in
set_option maxRecDepth 100000 in
theorem c_get (l : Launch) (D : va_G) {r a n sz : Nat} {f : Nat → Int32} {j : Nat} (hn : n < 2 ^ 31) (hs : sz ≤ n) (hj : j < sz) : Met l yX2_get (ws_ yX2_get cX2_get 2 (some .int)) ({ frames := 1, cells := 0, slots := 0, locals := 21 } : Room) (va_Pc [.ref r, .int (nI j)] (PW D [oO r 2 [.ref a, .int (nI sz)], aI D a n f])) (vp_Si (fun v => v = f j)) 0 0 (fun _ => False) := by
  refine Met.ofW (cc := cX2_get) (maxL := 2) (ret := (some .int)) (by decide) rfl ?_
  intro p e s m args below meth c s₁ B hml hv
  obtain ⟨rfl, hG, hP⟩ := hv
  have hx := B.exec
  have hb := B.bytes
  have hr := B.returns
  have hts : ∀ w ∈ wsL_law, w.before _ s = true := fun w h => atoms_spec (ws := (ws_ yX2_get cX2_get 2 (some .int))) B.pre w (List.mem_cons_of_mem _ h)
  have hown : s.vm.findClass RX2 = some m.cls := findClass_of_methodNamed B.named
  have hlk := B.notSynchronized
  have hC : CallFix p m c cX2_get 2 s _ wsL_law RX2 := ⟨hx, hb, hml, hown, hts⟩
  have hl := lv_entry ([.ref r, .int (nI j)]) (n := 2) (Nat.le_of_ble_eq_true rfl)
  rw [lg_entry_eq]
  generalize (lg_sl ([.ref r, .int (nI j)]) ++ List.replicate (2 - (lg_sl ([.ref r, .int (nI j)])).length) Slot.unset).toArray = ls at hl ⊢
  have hl : lv_has ls 2 [(0, .ref r), (1, .int (nI j))] := hl
  refine lv_aload_n hx hb dX2_get_0 rfl (lv_at hl 0 rfl) ?_
  refine lv_iload_n hx hb dX2_get_1 rfl (lv_at hl 1 rfl) ?_
  have hP9 := hP
  refine vp_callSi (pV (rest := []) (qc := (RX2, TX2, 2)) [.int (nI j)] 1 hC (c_isCell l D (r := r) (j := j) (a := a) (sz := sz) (n := n) (f := f) (by omega) (by omega) (by omega)) rfl (hP 0 _ rfl) (gV mM_X2_17 mI_X2_isCell mS_X2_isCell mN_X2 mC_X2_isCell) (by decide +kernel) rfl rfl ⟨Nat.le_of_ble_eq_true rfl, Nat.le_of_ble_eq_true rfl⟩ hG hP9 rfl hl.1 rfl (Nat.le_of_ble_eq_true rfl) dX2_get_2 ⟨Nat.le_of_ble_eq_true rfl, Nat.le_of_ble_eq_true rfl⟩) (fun r2 h2 => ?_)
  obtain rfl : r2 = 1 := h2
  refine lv_if_eq (tgt := 17) hx hb dX2_get_5 (by decide) (fun h9 => absurd h9 (by decide)) (fun _ => ?_)
  refine lv_aload_n hx hb dX2_get_8 rfl (lv_at hl 0 rfl) ?_
  refine va_get (D := D) (ci := 2) (v := .ref a) (C := RX2) (T := TX2) (N := 2) hx hb hts inlX2 hown hG.K hP 0 rfl rfl 0 (by decide) (hts _ mF_X2_7) (fun _ h9 => h9) rfl dX2_get_9 ?_
  refine lv_iload_n hx hb dX2_get_12 rfl (lv_at hl 1 rfl) ?_
  refine ild (n := n) (j := j) hx hb hG hP 1 rfl (by omega) (by omega) dX2_get_13 ?_
  refine lv_goto (tgt := 18) hx hb dX2_get_14 (by decide) ?_
  refine Ri hx hb hr hlk ?_ dX2_get_18
  exact rfl
set_option maxHeartbeats 4000000 in
set_option maxRecDepth 100000 in
theorem c_set (l : Launch) (D : va_G) {r a n sz : Nat} {f : Nat → Int32} {j : Nat} {x : Int32} (hz0 : Nat) (hn : n < 2 ^ 31) (hs : sz ≤ n) (hj : j < sz) : Met l yX2_set (ws_ yX2_set cX2_set 3 none) ({ frames := 1, cells := 0, slots := 0, locals := 21 } : Room) (va_Pc [.ref r, .int (nI j), .int x] (SW D [oO r 2 [.ref a, .int (nI sz)], aI D a n f] hz0)) (va_Qv (fun _ => True) (AT D (va_A [oO r 2 [.ref a, .int (nI sz)], aI D a n f] hz0) (fun _ : Unit => [oO r 2 [.ref a, .int (nI sz)], aI D a n (upd f j x)])) (va_A [oO r 2 [.ref a, .int (nI sz)], aI D a n f] hz0)) 0 0 (va_A [oO r 2 [.ref a, .int (nI sz)], aI D a n f] hz0) := by
  refine Met.ofW (cc := cX2_set) (maxL := 3) (ret := none) (by decide) rfl ?_
  intro p e s m args below meth c s₁ B hml hv
  obtain ⟨rfl, hsz, hG, hP, hD0⟩ := hv
  have hx := B.exec
  have hb := B.bytes
  have hr := B.returns
  have hts : ∀ w ∈ wsL_law, w.before _ s = true := fun w h => atoms_spec (ws := (ws_ yX2_set cX2_set 3 none)) B.pre w (List.mem_cons_of_mem _ h)
  have hown : s.vm.findClass RX2 = some m.cls := findClass_of_methodNamed B.named
  have hlk := B.notSynchronized
  have hC : CallFix p m c cX2_set 3 s _ wsL_law RX2 := ⟨hx, hb, hml, hown, hts⟩
  subst hsz
  have hD := hD0.self (sz := s.heap.size)
  generalize hAe : va_A [oO r 2 [.ref a, .int (nI sz)], aI D a n f] s.heap.size = A at hD ⊢
  have hA : ∀ q : Nat, s.heap.size ≤ q → A q := fun q h => by rw [← hAe]; exact Or.inr h
  have hS : va_S A s.heap s.heap [] := va_S.rf
  obtain ⟨H, hHe⟩ : ∃ H, H = s.heap := ⟨_, rfl⟩
  rw [← hHe] at hP
  have hS : va_S A s.heap H [] := by rw [hHe]; exact hS
  have hl := lv_entry ([.ref r, .int (nI j), .int x]) (n := 3) (Nat.le_of_ble_eq_true rfl)
  rw [lg_entry_eq]
  generalize (lg_sl ([.ref r, .int (nI j), .int x]) ++ List.replicate (3 - (lg_sl ([.ref r, .int (nI j), .int x])).length) Slot.unset).toArray = ls at hl ⊢
  have hl : lv_has ls 3 [(0, .ref r), (1, .int (nI j)), (2, .int x)] := hl
  rw [← hHe]
  refine lv_aload_n hx hb dX2_set_0 rfl (lv_at hl 0 rfl) ?_
  refine lv_iload_n hx hb dX2_set_1 rfl (lv_at hl 1 rfl) ?_
  have hP9 := hP
  refine vp_callSi (pV (rest := []) (qc := (RX2, TX2, 2)) [.int (nI j)] 1 hC (c_isCell l D (r := r) (j := j) (a := a) (sz := sz) (n := n) (f := f) (by omega) (by omega) (by omega)) rfl (hP 0 _ rfl) (gV mM_X2_17 mI_X2_isCell mS_X2_isCell mN_X2 mC_X2_isCell) (by decide +kernel) rfl rfl ⟨Nat.le_of_ble_eq_true rfl, Nat.le_of_ble_eq_true rfl⟩ hG hP9 rfl hl.1 rfl (Nat.le_of_ble_eq_true rfl) dX2_set_2 ⟨Nat.le_of_ble_eq_true rfl, Nat.le_of_ble_eq_true rfl⟩) (fun r2 h2 => ?_)
  obtain rfl : r2 = 1 := h2
  refine lv_if_eq (tgt := 15) hx hb dX2_set_5 (by decide) (fun h9 => absurd h9 (by decide)) (fun _ => ?_)
  refine lv_aload_n hx hb dX2_set_8 rfl (lv_at hl 0 rfl) ?_
  refine va_get (D := D) (ci := 2) (v := .ref a) (C := RX2) (T := TX2) (N := 2) hx hb hts inlX2 hown hG.K hP 0 rfl rfl 0 (by decide) (hts _ mF_X2_7) (fun _ h9 => h9) rfl dX2_set_9 ?_
  refine lv_iload_n hx hb dX2_set_12 rfl (lv_at hl 1 rfl) ?_
  refine lv_iload_n hx hb dX2_set_13 rfl (lv_at hl 2 rfl) ?_
  refine ist (n := n) (j := j) hx hb hG hP hD hS 1 rfl (by omega) (by omega) dX2_set_14 (fun H locs hP hD hS => ?_)
  have hP : va_P D cls [oO r 2 [.ref a, .int (nI sz)], aI D a n (upd f j x)] H := hP
  have hD : va_D A [oO r 2 [.ref a, .int (nI sz)], aI D a n (upd f j x)] := hD
  refine Wv () hx hb hr hlk ?_ hP hD hS (Nat.le_of_ble_eq_true rfl) (by first | exact Nat.le_of_ble_eq_true rfl | exact Nat.le_of_eq (Nat.zero_add _)) dX2_set_15
  exact trivial
set_option maxHeartbeats 4000000 in
set_option maxRecDepth 100000 in
theorem c_insert (l : Launch) (D : va_G) {r a n sz : Nat} {f : Nat → Int32} {j : Nat} {x : Int32} (hz0 : Nat) (hn : n < 2 ^ 31) (hs : sz < n) (hj : j ≤ sz) : Met l yX2_insert (ws_ yX2_insert cX2_insert 4 none) ({ frames := 0, cells := 0, slots := 0, locals := 0 } : Room) (va_Pc [.ref r, .int (nI j), .int x] (SW D [oO r 2 [.ref a, .int (nI sz)], aI D a n f] hz0)) (va_Qv (fun _ => True) (AT D (va_A [oO r 2 [.ref a, .int (nI sz)], aI D a n f] hz0) (fun _ : Unit => [oO r 2 [.ref a, .int (nI (sz + 1))], aI D a n (insF f j sz x)])) (va_A [oO r 2 [.ref a, .int (nI sz)], aI D a n f] hz0)) 0 0 (va_A [oO r 2 [.ref a, .int (nI sz)], aI D a n f] hz0) := by
  refine Met.ofW (cc := cX2_insert) (maxL := 4) (ret := none) (by decide) rfl ?_
  intro p e s m args below meth c s₁ B hml hv
  obtain ⟨rfl, hsz, hG, hP, hD0⟩ := hv
  have hx := B.exec
  have hb := B.bytes
  have hr := B.returns
  have hts : ∀ w ∈ wsL_law, w.before _ s = true := fun w h => atoms_spec (ws := (ws_ yX2_insert cX2_insert 4 none)) B.pre w (List.mem_cons_of_mem _ h)
  have hown : s.vm.findClass RX2 = some m.cls := findClass_of_methodNamed B.named
  have hlk := B.notSynchronized
  have hC : CallFix p m c cX2_insert 4 s _ wsL_law RX2 := ⟨hx, hb, hml, hown, hts⟩
  subst hsz
  have hD := hD0.self (sz := s.heap.size)
  generalize hAe : va_A [oO r 2 [.ref a, .int (nI sz)], aI D a n f] s.heap.size = A at hD ⊢
  have hA : ∀ q : Nat, s.heap.size ≤ q → A q := fun q h => by rw [← hAe]; exact Or.inr h
  have hS : va_S A s.heap s.heap [] := va_S.rf
  obtain ⟨H, hHe⟩ : ∃ H, H = s.heap := ⟨_, rfl⟩
  rw [← hHe] at hP
  have hS : va_S A s.heap H [] := by rw [hHe]; exact hS
  have hl := lv_entry ([.ref r, .int (nI j), .int x]) (n := 4) (Nat.le_of_ble_eq_true rfl)
  rw [lg_entry_eq]
  generalize (lg_sl ([.ref r, .int (nI j), .int x]) ++ List.replicate (4 - (lg_sl ([.ref r, .int (nI j), .int x])).length) Slot.unset).toArray = ls at hl ⊢
  have hl : lv_has ls 4 [(0, .ref r), (1, .int (nI j)), (2, .int x)] := hl
  rw [← hHe]
  refine lv_iload_n hx hb dX2_insert_0 rfl (lv_at hl 1 rfl) ?_
  refine lv_if_lt (tgt := 24) hx hb dX2_insert_1 (by decide) (fun h9 => absurd ((nI_ltI (a := j) (b := 0) (by omega) (by omega)).mp h9) (by omega)) (fun _ => ?_)
  refine lv_iload_n hx hb dX2_insert_4 rfl (lv_at hl 1 rfl) ?_
  refine lv_aload_n hx hb dX2_insert_5 rfl (lv_at hl 0 rfl) ?_
  refine va_get (D := D) (ci := 2) (v := .int (nI sz)) (C := RX2) (T := TX2) (N := 2) hx hb hts inlX2 hown hG.K hP 0 rfl rfl 1 (by decide) (hts _ mF_X2_13) (fun _ h9 => h9) rfl dX2_insert_6 ?_
  refine lv_icmp_gt (tgt := 24) hx hb dX2_insert_9 (by decide) (fun h9 => absurd ((nI_ltI (a := sz) (b := j) (by omega) (by omega)).mp h9) (by omega)) (fun _ => ?_)
  refine lv_aload_n hx hb dX2_insert_12 rfl (lv_at hl 0 rfl) ?_
  refine va_get (D := D) (ci := 2) (v := .int (nI sz)) (C := RX2) (T := TX2) (N := 2) hx hb hts inlX2 hown hG.K hP 0 rfl rfl 1 (by decide) (hts _ mF_X2_13) (fun _ h9 => h9) rfl dX2_insert_13 ?_
  refine lv_aload_n hx hb dX2_insert_16 rfl (lv_at hl 0 rfl) ?_
  refine va_get (D := D) (ci := 2) (v := .ref a) (C := RX2) (T := TX2) (N := 2) hx hb hts inlX2 hown hG.K hP 0 rfl rfl 0 (by decide) (hts _ mF_X2_7) (fun _ h9 => h9) rfl dX2_insert_17 ?_
  refine iln hx hb hG hP 1 rfl dX2_insert_20 ?_
  refine lv_icmp_lt (tgt := 25) hx hb dX2_insert_21 (by decide) (fun _ => ?_) (fun h9 => absurd ((nI_ltI (a := sz) (b := n) (by omega) (by omega)).mpr (by omega)) h9)
  refine lv_aload_n hx hb dX2_insert_25 rfl (lv_at hl 0 rfl) ?_
  refine va_get (D := D) (ci := 2) (v := .int (nI sz)) (C := RX2) (T := TX2) (N := 2) hx hb hts inlX2 hown hG.K hP 0 rfl rfl 1 (by decide) (hts _ mF_X2_13) (fun _ h9 => h9) rfl dX2_insert_26 ?_
  refine lv_istore_n (lv' := [(3, .int (nI sz)), (0, .ref r), (1, .int (nI j)), (2, .int x)]) hx hb dX2_insert_29 rfl hl (by decide) rfl (fun ls hl => ?_)
  have loop30 : ∀ (d9 : Nat) (k : Nat), k < d9 → (j ≤ k) → (k ≤ sz) → ∀ (H : Heap) (locs : List Loc) (ls : Array Slot), va_P D cls [oO r 2 [.ref a, .int (nI sz)], aI D a n (shF f k sz)] H → va_D A [oO r 2 [.ref a, .int (nI sz)], aI D a n (shF f k sz)] → va_S A s.heap H locs → lv_has ls 4 [(0, .ref r), (1, .int (nI j)), (2, .int x), (3, .int (nI k))] → W p l e ({ frames := 0, cells := 0, slots := 0, locals := 0 } : Room) s m ([.ref r, .int (nI j), .int x] : List Value).toArray below meth c H locs 0 0 (MQ below (va_Qv (fun _ => True) (AT D A (fun _ : Unit => [oO r 2 [.ref a, .int (nI (sz + 1))], aI D a n (insF f j sz x)])) A) ([.ref r, .int (nI j), .int x] : List Value).toArray s 0 0 A) (F0 m 30 ls []) := by
    intro d9
    induction d9 with
    | zero => intro k hd; exact absurd hd (Nat.not_lt_zero _)
    | succ d9 ih30 =>
      intro k hd30 hk1 hk2 H locs ls hP hD hS hl
      refine lv_iload_n hx hb dX2_insert_30 rfl (lv_at hl 3 rfl) ?_
      refine lv_iload_n hx hb dX2_insert_31 rfl (lv_at hl 1 rfl) ?_
      refine lv_icmp_le (tgt := 55) hx hb dX2_insert_32 (by decide) (fun c32 => ?_) (fun c32 => ?_)
      · skip
        have n32 := (nI_leI (a := k) (b := j) (by omega) (by omega)).mp c32
        refine lv_aload_n hx hb dX2_insert_55 rfl (lv_at hl 0 rfl) ?_
        refine va_get (D := D) (ci := 2) (v := .ref a) (C := RX2) (T := TX2) (N := 2) hx hb hts inlX2 hown hG.K hP 0 rfl rfl 0 (by decide) (hts _ mF_X2_7) (fun _ h9 => h9) rfl dX2_insert_56 ?_
        refine lv_iload_n hx hb dX2_insert_59 rfl (lv_at hl 1 rfl) ?_
        refine lv_iload_n hx hb dX2_insert_60 rfl (lv_at hl 2 rfl) ?_
        refine ist (n := n) (j := j) hx hb hG hP hD hS 1 rfl (by omega) (by omega) dX2_insert_61 (fun H locs hP hD hS => ?_)
        have hfn : upd (shF f k sz) j x = (insF f j sz x) := by
          have e : k = j := by omega
          subst e
          rfl
        have hP : va_P D cls [oO r 2 [.ref a, .int (nI sz)], aI D a n (insF f j sz x)] H := by rw [← hfn]; exact hP
        have hD : va_D A [oO r 2 [.ref a, .int (nI sz)], aI D a n (insF f j sz x)] := by rw [← hfn]; exact hD
        refine lv_aload_n hx hb dX2_insert_62 rfl (lv_at hl 0 rfl) ?_
        refine lv_dup hx hb dX2_insert_63 rfl ?_
        refine va_get (D := D) (ci := 2) (v := .int (nI sz)) (C := RX2) (T := TX2) (N := 2) hx hb hts inlX2 hown hG.K hP 0 rfl rfl 1 (by decide) (hts _ mF_X2_13) (fun _ h9 => h9) rfl dX2_insert_64 ?_
        refine lv_iconst (v := 1) hx hb dX2_insert_67 (by decide) ?_
        refine lv_iadd hx hb dX2_insert_68 ?_
        refine tpi (y := nI (sz + 1)) (nI_add sz 1) ?_
        refine va_put (D := D) (ci := 2) (v := .int (nI (sz + 1))) (ty := .int) (C := RX2) (T := TX2) (N := 2) hx hb hts inlX2 tyX2 tyX2_ok nmX2 hown hG.K hP hD hS 0 rfl rfl 1 (by decide) (hts _ mF_X2_13) (fun _ h9 => h9) rfl (by decide +kernel) rfl rfl (Nat.le_of_ble_eq_true rfl) dX2_insert_69 (fun H locs hP hD hS => ?_)
        have hP : va_P D cls [oO r 2 [.ref a, .int (nI (sz + 1))], aI D a n (insF f j sz x)] H := hP
        have hD : va_D A [oO r 2 [.ref a, .int (nI (sz + 1))], aI D a n (insF f j sz x)] := hD
        refine Wv () hx hb hr hlk ?_ hP hD hS (Nat.le_of_ble_eq_true rfl) (by first | exact Nat.le_of_ble_eq_true rfl | exact Nat.le_of_eq (Nat.zero_add _)) dX2_insert_72
        exact trivial
      · skip
        have n32 := mt (nI_leI (a := k) (b := j) (by omega) (by omega)).mpr c32
        refine lv_aload_n hx hb dX2_insert_35 rfl (lv_at hl 0 rfl) ?_
        refine va_get (D := D) (ci := 2) (v := .ref a) (C := RX2) (T := TX2) (N := 2) hx hb hts inlX2 hown hG.K hP 0 rfl rfl 0 (by decide) (hts _ mF_X2_7) (fun _ h9 => h9) rfl dX2_insert_36 ?_
        refine lv_iload_n hx hb dX2_insert_39 rfl (lv_at hl 3 rfl) ?_
        refine lv_aload_n hx hb dX2_insert_40 rfl (lv_at hl 0 rfl) ?_
        refine va_get (D := D) (ci := 2) (v := .ref a) (C := RX2) (T := TX2) (N := 2) hx hb hts inlX2 hown hG.K hP 0 rfl rfl 0 (by decide) (hts _ mF_X2_7) (fun _ h9 => h9) rfl dX2_insert_41 ?_
        refine lv_iload_n hx hb dX2_insert_44 rfl (lv_at hl 3 rfl) ?_
        refine lv_iconst (v := 1) hx hb dX2_insert_45 (by decide) ?_
        refine lv_isub hx hb dX2_insert_46 ?_
        refine tpi (y := nI (k - 1)) (pk_sub (a := k) (b := 1) (by omega)) ?_
        refine ild (n := n) (j := k - 1) hx hb hG hP 1 rfl (by omega) (by omega) dX2_insert_47 ?_
        refine ist (n := n) (j := k) hx hb hG hP hD hS 1 rfl (by omega) (by omega) dX2_insert_48 (fun H locs hP hD hS => ?_)
        have hfn : upd (shF f k sz) k ((shF f k sz) (k - 1)) = (shF f (k - 1) sz) := shF_step (by omega) (by omega)
        have hP : va_P D cls [oO r 2 [.ref a, .int (nI sz)], aI D a n (shF f (k - 1) sz)] H := by rw [← hfn]; exact hP
        have hD : va_D A [oO r 2 [.ref a, .int (nI sz)], aI D a n (shF f (k - 1) sz)] := by rw [← hfn]; exact hD
        refine lv_iinc (v := nI (k - 1)) (lv' := [(3, .int (nI (k - 1))), (0, .ref r), (1, .int (nI j)), (2, .int x)]) hx hb dX2_insert_49 hl (k := 3) rfl (sb_m1 (by omega)) (by decide) rfl (fun ls hl => ?_)
        refine lv_goto (tgt := 30) hx hb dX2_insert_52 (by decide) ?_
        exact ih30 (k - 1) (by omega) (by omega) (by omega) _ _ _ hP hD hS (lv_sub hl [1, 2, 3, 0] rfl)
  have hcv1 : (shF f sz sz) = f := shF_self f sz
  have hP := Eq.mpr (congrArg (fun z9 => va_P D cls [oO r 2 [.ref a, .int (nI sz)], aI D a n z9] H) hcv1) hP
  have hD := Eq.mpr (congrArg (fun z9 => va_D A [oO r 2 [.ref a, .int (nI sz)], aI D a n z9]) hcv1) hD
  have hP : va_P D cls [oO r 2 [.ref a, .int (nI sz)], aI D a n (shF f sz sz)] H := hP
  have hD : va_D A [oO r 2 [.ref a, .int (nI sz)], aI D a n (shF f sz sz)] := hD
  exact loop30 _ sz (Nat.lt_succ_self _) (by omega) (by omega) _ _ _ hP hD hS (lv_sub hl [1, 2, 3, 0] rfl)
set_option maxHeartbeats 4000000 in
set_option maxRecDepth 100000 in
theorem c_delete (l : Launch) (D : va_G) {r a n sz : Nat} {f : Nat → Int32} {j : Nat} (hz0 : Nat) (hn : n < 2 ^ 31) (hs : sz ≤ n) (hj : j < sz) : Met l yX2_delete (ws_ yX2_delete cX2_delete 3 none) ({ frames := 1, cells := 0, slots := 0, locals := 21 } : Room) (va_Pc [.ref r, .int (nI j)] (SW D [oO r 2 [.ref a, .int (nI sz)], aI D a n f] hz0)) (va_Qv (fun _ => True) (AT D (va_A [oO r 2 [.ref a, .int (nI sz)], aI D a n f] hz0) (fun _ : Unit => [oO r 2 [.ref a, .int (nI (sz - 1))], aI D a n (dlF f j sz)])) (va_A [oO r 2 [.ref a, .int (nI sz)], aI D a n f] hz0)) 0 0 (va_A [oO r 2 [.ref a, .int (nI sz)], aI D a n f] hz0) := by
  refine Met.ofW (cc := cX2_delete) (maxL := 3) (ret := none) (by decide) rfl ?_
  intro p e s m args below meth c s₁ B hml hv
  obtain ⟨rfl, hsz, hG, hP, hD0⟩ := hv
  have hx := B.exec
  have hb := B.bytes
  have hr := B.returns
  have hts : ∀ w ∈ wsL_law, w.before _ s = true := fun w h => atoms_spec (ws := (ws_ yX2_delete cX2_delete 3 none)) B.pre w (List.mem_cons_of_mem _ h)
  have hown : s.vm.findClass RX2 = some m.cls := findClass_of_methodNamed B.named
  have hlk := B.notSynchronized
  have hC : CallFix p m c cX2_delete 3 s _ wsL_law RX2 := ⟨hx, hb, hml, hown, hts⟩
  subst hsz
  have hD := hD0.self (sz := s.heap.size)
  generalize hAe : va_A [oO r 2 [.ref a, .int (nI sz)], aI D a n f] s.heap.size = A at hD ⊢
  have hA : ∀ q : Nat, s.heap.size ≤ q → A q := fun q h => by rw [← hAe]; exact Or.inr h
  have hS : va_S A s.heap s.heap [] := va_S.rf
  obtain ⟨H, hHe⟩ : ∃ H, H = s.heap := ⟨_, rfl⟩
  rw [← hHe] at hP
  have hS : va_S A s.heap H [] := by rw [hHe]; exact hS
  have hl := lv_entry ([.ref r, .int (nI j)]) (n := 3) (Nat.le_of_ble_eq_true rfl)
  rw [lg_entry_eq]
  generalize (lg_sl ([.ref r, .int (nI j)]) ++ List.replicate (3 - (lg_sl ([.ref r, .int (nI j)])).length) Slot.unset).toArray = ls at hl ⊢
  have hl : lv_has ls 3 [(0, .ref r), (1, .int (nI j))] := hl
  rw [← hHe]
  refine lv_aload_n hx hb dX2_delete_0 rfl (lv_at hl 0 rfl) ?_
  refine lv_iload_n hx hb dX2_delete_1 rfl (lv_at hl 1 rfl) ?_
  have hP9 := hP
  refine vp_callSi (pV (rest := []) (qc := (RX2, TX2, 2)) [.int (nI j)] 1 hC (c_isCell l D (r := r) (j := j) (a := a) (sz := sz) (n := n) (f := f) (by omega) (by omega) (by omega)) rfl (hP 0 _ rfl) (gV mM_X2_17 mI_X2_isCell mS_X2_isCell mN_X2 mC_X2_isCell) (by decide +kernel) rfl rfl ⟨Nat.le_of_ble_eq_true rfl, Nat.le_of_ble_eq_true rfl⟩ hG hP9 rfl hl.1 rfl (Nat.le_of_ble_eq_true rfl) dX2_delete_2 ⟨Nat.le_of_ble_eq_true rfl, Nat.le_of_ble_eq_true rfl⟩) (fun r2 h2 => ?_)
  obtain rfl : r2 = 1 := h2
  refine lv_if_ne (tgt := 9) hx hb dX2_delete_5 (by decide) (fun _ => ?_) (fun h9 => absurd h9 (by decide))
  refine lv_iload_n hx hb dX2_delete_9 rfl (lv_at hl 1 rfl) ?_
  refine lv_iconst (v := 1) hx hb dX2_delete_10 (by decide) ?_
  refine lv_iadd hx hb dX2_delete_11 ?_
  refine tpi (y := nI (j + 1)) (nI_add j 1) ?_
  refine lv_istore_n (lv' := [(2, .int (nI (j + 1))), (0, .ref r), (1, .int (nI j))]) hx hb dX2_delete_12 rfl hl (by decide) rfl (fun ls hl => ?_)
  have loop13 : ∀ (d9 : Nat) (k : Nat), (sz - k) < d9 → (j < k) → (k ≤ sz) → ∀ (H : Heap) (locs : List Loc) (ls : Array Slot), va_P D cls [oO r 2 [.ref a, .int (nI sz)], aI D a n (dlF f j k)] H → va_D A [oO r 2 [.ref a, .int (nI sz)], aI D a n (dlF f j k)] → va_S A s.heap H locs → lv_has ls 3 [(0, .ref r), (1, .int (nI j)), (2, .int (nI k))] → W p l e ({ frames := 1, cells := 0, slots := 0, locals := 21 } : Room) s m ([.ref r, .int (nI j)] : List Value).toArray below meth c H locs 0 0 (MQ below (va_Qv (fun _ => True) (AT D A (fun _ : Unit => [oO r 2 [.ref a, .int (nI (sz - 1))], aI D a n (dlF f j sz)])) A) ([.ref r, .int (nI j)] : List Value).toArray s 0 0 A) (F0 m 13 ls []) := by
    intro d9
    induction d9 with
    | zero => intro k hd; exact absurd hd (Nat.not_lt_zero _)
    | succ d9 ih13 =>
      intro k hd13 hk1 hk2 H locs ls hP hD hS hl
      refine lv_iload_n hx hb dX2_delete_13 rfl (lv_at hl 2 rfl) ?_
      refine lv_aload_n hx hb dX2_delete_14 rfl (lv_at hl 0 rfl) ?_
      refine va_get (D := D) (ci := 2) (v := .int (nI sz)) (C := RX2) (T := TX2) (N := 2) hx hb hts inlX2 hown hG.K hP 0 rfl rfl 1 (by decide) (hts _ mF_X2_13) (fun _ h9 => h9) rfl dX2_delete_15 ?_
      refine lv_icmp_ge (tgt := 50) hx hb dX2_delete_18 (by decide) (fun c18 => ?_) (fun c18 => ?_)
      · skip
        have n18 := (nI_leI (a := sz) (b := k) (by omega) (by omega)).mp c18
        have hcv1 : (dlF f j sz) = (dlF f j k) := by
          have e : k = sz := by omega
          subst e
          rfl
        have hP := Eq.mpr (congrArg (fun z9 => va_P D cls [oO r 2 [.ref a, .int (nI sz)], aI D a n z9] H) hcv1) hP
        have hD := Eq.mpr (congrArg (fun z9 => va_D A [oO r 2 [.ref a, .int (nI sz)], aI D a n z9]) hcv1) hD
        have hP : va_P D cls [oO r 2 [.ref a, .int (nI sz)], aI D a n (dlF f j sz)] H := hP
        have hD : va_D A [oO r 2 [.ref a, .int (nI sz)], aI D a n (dlF f j sz)] := hD
        refine lv_aload_n hx hb dX2_delete_50 rfl (lv_at hl 0 rfl) ?_
        refine lv_dup hx hb dX2_delete_51 rfl ?_
        refine va_get (D := D) (ci := 2) (v := .int (nI sz)) (C := RX2) (T := TX2) (N := 2) hx hb hts inlX2 hown hG.K hP 0 rfl rfl 1 (by decide) (hts _ mF_X2_13) (fun _ h9 => h9) rfl dX2_delete_52 ?_
        refine lv_iconst (v := 1) hx hb dX2_delete_55 (by decide) ?_
        refine lv_isub hx hb dX2_delete_56 ?_
        refine tpi (y := nI (sz - 1)) (pk_sub (a := sz) (b := 1) (by omega)) ?_
        refine va_put (D := D) (ci := 2) (v := .int (nI (sz - 1))) (ty := .int) (C := RX2) (T := TX2) (N := 2) hx hb hts inlX2 tyX2 tyX2_ok nmX2 hown hG.K hP hD hS 0 rfl rfl 1 (by decide) (hts _ mF_X2_13) (fun _ h9 => h9) rfl (by decide +kernel) rfl rfl (Nat.le_of_ble_eq_true rfl) dX2_delete_57 (fun H locs hP hD hS => ?_)
        have hP : va_P D cls [oO r 2 [.ref a, .int (nI (sz - 1))], aI D a n (dlF f j sz)] H := hP
        have hD : va_D A [oO r 2 [.ref a, .int (nI (sz - 1))], aI D a n (dlF f j sz)] := hD
        refine Wv () hx hb hr hlk ?_ hP hD hS (Nat.le_of_ble_eq_true rfl) (by first | exact Nat.le_of_ble_eq_true rfl | exact Nat.le_of_eq (Nat.zero_add _)) dX2_delete_60
        exact trivial
      · skip
        have n18 := mt (nI_leI (a := sz) (b := k) (by omega) (by omega)).mpr c18
        refine lv_iload_n hx hb dX2_delete_21 rfl (lv_at hl 2 rfl) ?_
        refine lv_aload_n hx hb dX2_delete_22 rfl (lv_at hl 0 rfl) ?_
        refine va_get (D := D) (ci := 2) (v := .ref a) (C := RX2) (T := TX2) (N := 2) hx hb hts inlX2 hown hG.K hP 0 rfl rfl 0 (by decide) (hts _ mF_X2_7) (fun _ h9 => h9) rfl dX2_delete_23 ?_
        refine iln hx hb hG hP 1 rfl dX2_delete_26 ?_
        refine lv_icmp_ge (tgt := 50) hx hb dX2_delete_27 (by decide) (fun h9 => absurd ((nI_leI (a := n) (b := k) (by omega) (by omega)).mp h9) (by omega)) (fun _ => ?_)
        refine lv_aload_n hx hb dX2_delete_30 rfl (lv_at hl 0 rfl) ?_
        refine va_get (D := D) (ci := 2) (v := .ref a) (C := RX2) (T := TX2) (N := 2) hx hb hts inlX2 hown hG.K hP 0 rfl rfl 0 (by decide) (hts _ mF_X2_7) (fun _ h9 => h9) rfl dX2_delete_31 ?_
        refine lv_iload_n hx hb dX2_delete_34 rfl (lv_at hl 2 rfl) ?_
        refine lv_iconst (v := 1) hx hb dX2_delete_35 (by decide) ?_
        refine lv_isub hx hb dX2_delete_36 ?_
        refine tpi (y := nI (k - 1)) (pk_sub (a := k) (b := 1) (by omega)) ?_
        refine lv_aload_n hx hb dX2_delete_37 rfl (lv_at hl 0 rfl) ?_
        refine va_get (D := D) (ci := 2) (v := .ref a) (C := RX2) (T := TX2) (N := 2) hx hb hts inlX2 hown hG.K hP 0 rfl rfl 0 (by decide) (hts _ mF_X2_7) (fun _ h9 => h9) rfl dX2_delete_38 ?_
        refine lv_iload_n hx hb dX2_delete_41 rfl (lv_at hl 2 rfl) ?_
        refine ild (n := n) (j := k) hx hb hG hP 1 rfl (by omega) (by omega) dX2_delete_42 ?_
        refine ist (n := n) (j := k - 1) hx hb hG hP hD hS 1 rfl (by omega) (by omega) dX2_delete_43 (fun H locs hP hD hS => ?_)
        have hfn : upd (dlF f j k) (k - 1) ((dlF f j k) k) = (dlF f j (k + 1)) := dlF_step (by omega)
        have hP : va_P D cls [oO r 2 [.ref a, .int (nI sz)], aI D a n (dlF f j (k + 1))] H := by rw [← hfn]; exact hP
        have hD : va_D A [oO r 2 [.ref a, .int (nI sz)], aI D a n (dlF f j (k + 1))] := by rw [← hfn]; exact hD
        refine lv_iinc (v := nI (k + 1)) (lv' := [(2, .int (nI (k + 1))), (0, .ref r), (1, .int (nI j))]) hx hb dX2_delete_44 hl (k := 2) rfl (nI_1 _) (by decide) rfl (fun ls hl => ?_)
        refine lv_goto (tgt := 13) hx hb dX2_delete_47 (by decide) ?_
        exact ih13 (k + 1) (by omega) (by omega) (by omega) _ _ _ hP hD hS (lv_sub hl [1, 2, 0] rfl)
  have hcv2 : (dlF f j (j + 1)) = f := dlF_self f j
  have hP := Eq.mpr (congrArg (fun z9 => va_P D cls [oO r 2 [.ref a, .int (nI sz)], aI D a n z9] H) hcv2) hP
  have hD := Eq.mpr (congrArg (fun z9 => va_D A [oO r 2 [.ref a, .int (nI sz)], aI D a n z9]) hcv2) hD
  have hP : va_P D cls [oO r 2 [.ref a, .int (nI sz)], aI D a n (dlF f j (j + 1))] H := hP
  have hD : va_D A [oO r 2 [.ref a, .int (nI sz)], aI D a n (dlF f j (j + 1))] := hD
  exact loop13 _ (j + 1) (Nat.lt_succ_self _) (by omega) (by omega) _ _ _ hP hD hS (lv_sub hl [1, 2, 0] rfl)
set_option maxHeartbeats 4000000 in
set_option maxRecDepth 100000 in
theorem c_shorten (l : Launch) (D : va_G) {r a n sz : Nat} {f : Nat → Int32} {j : Nat} (hz0 : Nat) (hn : n < 2 ^ 31) (hs : sz ≤ n) (hj : j < 2 ^ 31) : Met l yX2_shorten (ws_ yX2_shorten cX2_shorten 2 none) ({ frames := 0, cells := 0, slots := 0, locals := 0 } : Room) (va_Pc [.ref r, .int (nI j)] (SW D [oO r 2 [.ref a, .int (nI sz)], aI D a n f] hz0)) (va_Qv (fun _ => True) (AT D (va_A [oO r 2 [.ref a, .int (nI sz)], aI D a n f] hz0) (fun _ : Unit => [oO r 2 [.ref a, .int (nI (min j sz))], aI D a n f])) (va_A [oO r 2 [.ref a, .int (nI sz)], aI D a n f] hz0)) 0 0 (va_A [oO r 2 [.ref a, .int (nI sz)], aI D a n f] hz0) := by
  refine Met.ofW (cc := cX2_shorten) (maxL := 2) (ret := none) (by decide) rfl ?_
  intro p e s m args below meth c s₁ B hml hv
  obtain ⟨rfl, hsz, hG, hP, hD0⟩ := hv
  have hx := B.exec
  have hb := B.bytes
  have hr := B.returns
  have hts : ∀ w ∈ wsL_law, w.before _ s = true := fun w h => atoms_spec (ws := (ws_ yX2_shorten cX2_shorten 2 none)) B.pre w (List.mem_cons_of_mem _ h)
  have hown : s.vm.findClass RX2 = some m.cls := findClass_of_methodNamed B.named
  have hlk := B.notSynchronized
  have hC : CallFix p m c cX2_shorten 2 s _ wsL_law RX2 := ⟨hx, hb, hml, hown, hts⟩
  subst hsz
  have hD := hD0.self (sz := s.heap.size)
  generalize hAe : va_A [oO r 2 [.ref a, .int (nI sz)], aI D a n f] s.heap.size = A at hD ⊢
  have hA : ∀ q : Nat, s.heap.size ≤ q → A q := fun q h => by rw [← hAe]; exact Or.inr h
  have hS : va_S A s.heap s.heap [] := va_S.rf
  obtain ⟨H, hHe⟩ : ∃ H, H = s.heap := ⟨_, rfl⟩
  rw [← hHe] at hP
  have hS : va_S A s.heap H [] := by rw [hHe]; exact hS
  have hl := lv_entry ([.ref r, .int (nI j)]) (n := 2) (Nat.le_of_ble_eq_true rfl)
  rw [lg_entry_eq]
  generalize (lg_sl ([.ref r, .int (nI j)]) ++ List.replicate (2 - (lg_sl ([.ref r, .int (nI j)])).length) Slot.unset).toArray = ls at hl ⊢
  have hl : lv_has ls 2 [(0, .ref r), (1, .int (nI j))] := hl
  rw [← hHe]
  refine lv_iload_n hx hb dX2_shorten_0 rfl (lv_at hl 1 rfl) ?_
  refine lv_if_lt (tgt := 17) hx hb dX2_shorten_1 (by decide) (fun h9 => absurd ((nI_ltI (a := j) (b := 0) (by omega) (by omega)).mp h9) (by omega)) (fun _ => ?_)
  refine lv_iload_n hx hb dX2_shorten_4 rfl (lv_at hl 1 rfl) ?_
  refine lv_aload_n hx hb dX2_shorten_5 rfl (lv_at hl 0 rfl) ?_
  refine va_get (D := D) (ci := 2) (v := .int (nI sz)) (C := RX2) (T := TX2) (N := 2) hx hb hts inlX2 hown hG.K hP 0 rfl rfl 1 (by decide) (hts _ mF_X2_13) (fun _ h9 => h9) rfl dX2_shorten_6 ?_
  refine lv_icmp_ge (tgt := 17) hx hb dX2_shorten_9 (by decide) (fun c9 => ?_) (fun c9 => ?_)
  · skip
    have n9 := (nI_leI (a := sz) (b := j) (by omega) (by omega)).mp c9
    have hcv1 : (.int (nI (min j sz)) : Value) = (.int (nI sz)) := by first | rw [Nat.min_eq_right (by omega)] | rw [Nat.min_eq_left (by omega)]
    have hP := Eq.mpr (congrArg (fun z9 => va_P D cls [oO r 2 [.ref a, z9], aI D a n f] H) hcv1) hP
    have hD := Eq.mpr (congrArg (fun z9 => va_D A [oO r 2 [.ref a, z9], aI D a n f]) hcv1) hD
    have hP : va_P D cls [oO r 2 [.ref a, .int (nI (min j sz))], aI D a n f] H := hP
    have hD : va_D A [oO r 2 [.ref a, .int (nI (min j sz))], aI D a n f] := hD
    refine Wv () hx hb hr hlk ?_ hP hD hS (Nat.le_of_ble_eq_true rfl) (by first | exact Nat.le_of_ble_eq_true rfl | exact Nat.le_of_eq (Nat.zero_add _)) dX2_shorten_17
    exact trivial
  · skip
    have n9 := mt (nI_leI (a := sz) (b := j) (by omega) (by omega)).mpr c9
    refine lv_aload_n hx hb dX2_shorten_12 rfl (lv_at hl 0 rfl) ?_
    refine lv_iload_n hx hb dX2_shorten_13 rfl (lv_at hl 1 rfl) ?_
    refine va_put (D := D) (ci := 2) (v := .int (nI j)) (ty := .int) (C := RX2) (T := TX2) (N := 2) hx hb hts inlX2 tyX2 tyX2_ok nmX2 hown hG.K hP hD hS 0 rfl rfl 1 (by decide) (hts _ mF_X2_13) (fun _ h9 => h9) rfl (by decide +kernel) rfl rfl (Nat.le_of_ble_eq_true rfl) dX2_shorten_14 (fun H locs hP hD hS => ?_)
    have hP : va_P D cls [oO r 2 [.ref a, .int (nI j)], aI D a n f] H := hP
    have hD : va_D A [oO r 2 [.ref a, .int (nI j)], aI D a n f] := hD
    have hcv2 : (.int (nI (min j sz)) : Value) = (.int (nI j)) := by first | rw [Nat.min_eq_right (by omega)] | rw [Nat.min_eq_left (by omega)]
    have hP := Eq.mpr (congrArg (fun z9 => va_P D cls [oO r 2 [.ref a, z9], aI D a n f] H) hcv2) hP
    have hD := Eq.mpr (congrArg (fun z9 => va_D A [oO r 2 [.ref a, z9], aI D a n f]) hcv2) hD
    have hP : va_P D cls [oO r 2 [.ref a, .int (nI (min j sz))], aI D a n f] H := hP
    have hD : va_D A [oO r 2 [.ref a, .int (nI (min j sz))], aI D a n f] := hD
    refine Wv () hx hb hr hlk ?_ hP hD hS (Nat.le_of_ble_eq_true rfl) (by first | exact Nat.le_of_ble_eq_true rfl | exact Nat.le_of_eq (Nat.zero_add _)) dX2_shorten_17
    exact trivial
set_option maxHeartbeats 4000000 in
set_option maxRecDepth 100000 in
theorem c_countUpTo (l : Launch) (D : va_G) {r a n sz : Nat} {f : Nat → Int32} {x : Int32} (hn : n < 2 ^ 31) (hs : sz ≤ n) : Met l yX2_countUpTo (ws_ yX2_countUpTo cX2_countUpTo 3 (some .int)) ({ frames := 2, cells := 0, slots := 0, locals := 42 } : Room) (va_Pc [.ref r, .int x] (PW D [oO r 2 [.ref a, .int (nI sz)], aI D a n f])) (vp_Si (fun v => v = nI (cntLe f x sz))) 0 0 (fun _ => False) := by
  refine Met.ofW (cc := cX2_countUpTo) (maxL := 3) (ret := (some .int)) (by decide) rfl ?_
  intro p e s m args below meth c s₁ B hml hv
  obtain ⟨rfl, hG, hP⟩ := hv
  have hx := B.exec
  have hb := B.bytes
  have hr := B.returns
  have hts : ∀ w ∈ wsL_law, w.before _ s = true := fun w h => atoms_spec (ws := (ws_ yX2_countUpTo cX2_countUpTo 3 (some .int))) B.pre w (List.mem_cons_of_mem _ h)
  have hown : s.vm.findClass RX2 = some m.cls := findClass_of_methodNamed B.named
  have hlk := B.notSynchronized
  have hC : CallFix p m c cX2_countUpTo 3 s _ wsL_law RX2 := ⟨hx, hb, hml, hown, hts⟩
  have hl := lv_entry ([.ref r, .int x]) (n := 3) (Nat.le_of_ble_eq_true rfl)
  rw [lg_entry_eq]
  generalize (lg_sl ([.ref r, .int x]) ++ List.replicate (3 - (lg_sl ([.ref r, .int x])).length) Slot.unset).toArray = ls at hl ⊢
  have hl : lv_has ls 3 [(0, .ref r), (1, .int x)] := hl
  refine lv_aload_n hx hb dX2_countUpTo_0 rfl (lv_at hl 0 rfl) ?_
  refine va_get (D := D) (ci := 2) (v := .int (nI sz)) (C := RX2) (T := TX2) (N := 2) hx hb hts inlX2 hown hG.K hP 0 rfl rfl 1 (by decide) (hts _ mF_X2_13) (fun _ h9 => h9) rfl dX2_countUpTo_1 ?_
  refine lv_istore_n (lv' := [(2, .int (nI sz)), (0, .ref r), (1, .int x)]) hx hb dX2_countUpTo_4 rfl hl (by decide) rfl (fun ls hl => ?_)
  have loop5 : ∀ (d9 : Nat) (k : Nat), k < d9 → (cntLe f x k = cntLe f x sz) → (k ≤ sz) → ∀ (ls : Array Slot), lv_has ls 3 [(0, .ref r), (1, .int x), (2, .int (nI k))] → W p l e ({ frames := 2, cells := 0, slots := 0, locals := 42 } : Room) s m ([.ref r, .int x] : List Value).toArray below meth c s.heap [] 0 0 (MQ below (vp_Si (fun v => v = nI (cntLe f x sz))) ([.ref r, .int x] : List Value).toArray s 0 0 (fun _ => False)) (F0 m 5 ls []) := by
    intro d9
    induction d9 with
    | zero => intro k hd; exact absurd hd (Nat.not_lt_zero _)
    | succ d9 ih5 =>
      intro k hd5 hk1 hk2 ls hl
      refine lv_iload_n hx hb dX2_countUpTo_5 rfl (lv_at hl 2 rfl) ?_
      refine lv_if_le (tgt := 26) hx hb dX2_countUpTo_6 (by decide) (fun c6 => ?_) (fun c6 => ?_)
      · skip
        have n6 := (nI_leI (a := k) (b := 0) (by omega) (by omega)).mp c6
        have hE : nI k = nI (cntLe f x sz) := by
          rw [← hk1]
          first
          | rw [cntLe_stop (by omega) c17]
          | have e : k = 0 := by omega
            subst e
            rfl
        refine lv_iload_n hx hb dX2_countUpTo_26 rfl (lv_at hl 2 rfl) ?_
        refine Ri hx hb hr hlk ?_ dX2_countUpTo_27
        exact hE
      · skip
        have n6 := mt (nI_leI (a := k) (b := 0) (by omega) (by omega)).mpr c6
        refine lv_aload_n hx hb dX2_countUpTo_9 rfl (lv_at hl 0 rfl) ?_
        refine lv_iload_n hx hb dX2_countUpTo_10 rfl (lv_at hl 2 rfl) ?_
        refine lv_iconst (v := 1) hx hb dX2_countUpTo_11 (by decide) ?_
        refine lv_isub hx hb dX2_countUpTo_12 ?_
        refine tpi (y := nI (k - 1)) (pk_sub (a := k) (b := 1) (by omega)) ?_
        have hP9 := hP
        refine vp_callSi (pV (rest := []) (qc := (RX2, TX2, 2)) [.int (nI (k - 1))] 1 hC (c_get l D (r := r) (j := k - 1) (a := a) (sz := sz) (n := n) (f := f) (by omega) (by omega) (by omega)) rfl (hP 0 _ rfl) (gV mM_X2_25 mI_X2_get mS_X2_get mN_X2 mC_X2_get) (by decide +kernel) rfl rfl ⟨Nat.le_of_ble_eq_true rfl, Nat.le_of_ble_eq_true rfl⟩ hG hP9 rfl hl.1 rfl (Nat.le_of_ble_eq_true rfl) dX2_countUpTo_13 ⟨Nat.le_of_ble_eq_true rfl, Nat.le_of_ble_eq_true rfl⟩) (fun r13 h13 => ?_)
        obtain rfl : r13 = (f (k - 1)) := h13
        refine lv_iload_n hx hb dX2_countUpTo_16 rfl (lv_at hl 1 rfl) ?_
        refine lv_icmp_le (tgt := 26) hx hb dX2_countUpTo_17 (by decide) (fun c17 => ?_) (fun c17 => ?_)
        · skip
          have hE : nI k = nI (cntLe f x sz) := by
            rw [← hk1]
            first
            | rw [cntLe_stop (by omega) c17]
            | have e : k = 0 := by omega
              subst e
              rfl
          refine lv_iload_n hx hb dX2_countUpTo_26 rfl (lv_at hl 2 rfl) ?_
          refine Ri hx hb hr hlk ?_ dX2_countUpTo_27
          exact hE
        · skip
          refine lv_iinc (v := nI (k - 1)) (lv' := [(2, .int (nI (k - 1))), (0, .ref r), (1, .int x)]) hx hb dX2_countUpTo_20 hl (k := 2) rfl (sb_m1 (by omega)) (by decide) rfl (fun ls hl => ?_)
          refine lv_goto (tgt := 5) hx hb dX2_countUpTo_23 (by decide) ?_
          exact ih5 (k - 1) (by omega) (by rw [cntLe_go (by omega) c17]; exact hk1) (by omega) _ (lv_sub hl [1, 2, 0] rfl)
  exact loop5 _ sz (Nat.lt_succ_self _) (rfl) (by omega) _ (lv_sub hl [1, 2, 0] rfl)
set_option maxHeartbeats 4000000 in
set_option maxRecDepth 100000 in
theorem c_reverse (l : Launch) (D : va_G) {r a n sz : Nat} {f : Nat → Int32} (hz0 : Nat) (hn : n < 2 ^ 31) (hs : sz ≤ n) : Met l yX2_reverse (ws_ yX2_reverse cX2_reverse 3 none) ({ frames := 2, cells := 0, slots := 0, locals := 43 } : Room) (va_Pc [.ref r] (SW D [oO r 2 [.ref a, .int (nI sz)], aI D a n f] hz0)) (va_Qv (fun _ => True) (AT D (va_A [oO r 2 [.ref a, .int (nI sz)], aI D a n f] hz0) (fun _ : Unit => [oO r 2 [.ref a, .int (nI sz)], aI D a n (rvF f sz)])) (va_A [oO r 2 [.ref a, .int (nI sz)], aI D a n f] hz0)) 0 0 (va_A [oO r 2 [.ref a, .int (nI sz)], aI D a n f] hz0) := by
  refine Met.ofW (cc := cX2_reverse) (maxL := 3) (ret := none) (by decide) rfl ?_
  intro p e s m args below meth c s₁ B hml hv
  obtain ⟨rfl, hsz, hG, hP, hD0⟩ := hv
  have hx := B.exec
  have hb := B.bytes
  have hr := B.returns
  have hts : ∀ w ∈ wsL_law, w.before _ s = true := fun w h => atoms_spec (ws := (ws_ yX2_reverse cX2_reverse 3 none)) B.pre w (List.mem_cons_of_mem _ h)
  have hown : s.vm.findClass RX2 = some m.cls := findClass_of_methodNamed B.named
  have hlk := B.notSynchronized
  have hC : CallFix p m c cX2_reverse 3 s _ wsL_law RX2 := ⟨hx, hb, hml, hown, hts⟩
  subst hsz
  have hD := hD0.self (sz := s.heap.size)
  generalize hAe : va_A [oO r 2 [.ref a, .int (nI sz)], aI D a n f] s.heap.size = A at hD ⊢
  have hA : ∀ q : Nat, s.heap.size ≤ q → A q := fun q h => by rw [← hAe]; exact Or.inr h
  have hS : va_S A s.heap s.heap [] := va_S.rf
  obtain ⟨H, hHe⟩ : ∃ H, H = s.heap := ⟨_, rfl⟩
  rw [← hHe] at hP
  have hS : va_S A s.heap H [] := by rw [hHe]; exact hS
  have hl := lv_entry ([.ref r]) (n := 3) (Nat.le_of_ble_eq_true rfl)
  rw [lg_entry_eq]
  generalize (lg_sl ([.ref r]) ++ List.replicate (3 - (lg_sl ([.ref r])).length) Slot.unset).toArray = ls at hl ⊢
  have hl : lv_has ls 3 [(0, .ref r)] := hl
  rw [← hHe]
  refine lv_iconst (v := 0) hx hb dX2_reverse_0 (by decide) ?_
  refine lv_istore_n (lv' := [(1, .int 0), (0, .ref r)]) hx hb dX2_reverse_1 rfl hl (by decide) rfl (fun ls hl => ?_)
  have loop2 : ∀ (d9 : Nat) (k : Nat), (sz / 2 - k) < d9 → (k ≤ sz / 2) → ∀ (H : Heap) (locs : List Loc) (ls : Array Slot), va_P D cls [oO r 2 [.ref a, .int (nI sz)], aI D a n (rvP f k sz)] H → va_D A [oO r 2 [.ref a, .int (nI sz)], aI D a n (rvP f k sz)] → va_S A s.heap H locs → lv_has ls 3 [(0, .ref r), (1, .int (nI k))] → W p l e ({ frames := 2, cells := 0, slots := 0, locals := 43 } : Room) s m ([.ref r] : List Value).toArray below meth c H locs 0 0 (MQ below (va_Qv (fun _ => True) (AT D A (fun _ : Unit => [oO r 2 [.ref a, .int (nI sz)], aI D a n (rvF f sz)])) A) ([.ref r] : List Value).toArray s 0 0 A) (F0 m 2 ls []) := by
    intro d9
    induction d9 with
    | zero => intro k hd; exact absurd hd (Nat.not_lt_zero _)
    | succ d9 ih2 =>
      intro k hd2 hk H locs ls hP hD hS hl
      refine lv_iload_n hx hb dX2_reverse_2 rfl (lv_at hl 1 rfl) ?_
      refine lv_aload_n hx hb dX2_reverse_3 rfl (lv_at hl 0 rfl) ?_
      refine va_get (D := D) (ci := 2) (v := .int (nI sz)) (C := RX2) (T := TX2) (N := 2) hx hb hts inlX2 hown hG.K hP 0 rfl rfl 1 (by decide) (hts _ mF_X2_13) (fun _ h9 => h9) rfl dX2_reverse_4 ?_
      refine lv_iconst (v := 2) hx hb dX2_reverse_7 (by decide) ?_
      refine lv_idiv hx hb dX2_reverse_8 (by decide) ?_
      refine tpi (y := nI (sz / 2)) (nI_half (by omega)) ?_
      refine lv_icmp_ge (tgt := 54) hx hb dX2_reverse_9 (by decide) (fun c9 => ?_) (fun c9 => ?_)
      · skip
        have n9 := (nI_leI (a := sz / 2) (b := k) (by omega) (by omega)).mp c9
        have hcv1 : (rvF f sz) = (rvP f k sz) := (rvP_end (k := k) (by omega) (by omega)).symm
        have hP := Eq.mpr (congrArg (fun z9 => va_P D cls [oO r 2 [.ref a, .int (nI sz)], aI D a n z9] H) hcv1) hP
        have hD := Eq.mpr (congrArg (fun z9 => va_D A [oO r 2 [.ref a, .int (nI sz)], aI D a n z9]) hcv1) hD
        have hP : va_P D cls [oO r 2 [.ref a, .int (nI sz)], aI D a n (rvF f sz)] H := hP
        have hD : va_D A [oO r 2 [.ref a, .int (nI sz)], aI D a n (rvF f sz)] := hD
        refine Wv () hx hb hr hlk ?_ hP hD hS (Nat.le_of_ble_eq_true rfl) (by first | exact Nat.le_of_ble_eq_true rfl | exact Nat.le_of_eq (Nat.zero_add _)) dX2_reverse_54
        exact trivial
      · skip
        have n9 := mt (nI_leI (a := sz / 2) (b := k) (by omega) (by omega)).mpr c9
        refine lv_aload_n hx hb dX2_reverse_12 rfl (lv_at hl 0 rfl) ?_
        refine lv_iload_n hx hb dX2_reverse_13 rfl (lv_at hl 1 rfl) ?_
        have hP9 := hP
        refine vp_callSi (pV (rest := []) (qc := (RX2, TX2, 2)) [.int (nI k)] 1 hC (c_get l D (r := r) (j := k) (a := a) (sz := sz) (n := n) (f := rvP f k sz) (by omega) (by omega) (by omega)) rfl (hP 0 _ rfl) (gV mM_X2_25 mI_X2_get mS_X2_get mN_X2 mC_X2_get) (by decide +kernel) rfl rfl ⟨Nat.le_of_ble_eq_true rfl, Nat.le_of_ble_eq_true rfl⟩ hG hP9 rfl hl.1 rfl (Nat.le_of_ble_eq_true rfl) dX2_reverse_14 ⟨Nat.le_of_ble_eq_true rfl, Nat.le_of_ble_eq_true rfl⟩) (fun r14 h14 => ?_)
        obtain rfl : r14 = ((rvP f k sz) k) := h14
        refine lv_istore_n (lv' := [(2, .int ((rvP f k sz) k)), (0, .ref r), (1, .int (nI k))]) hx hb dX2_reverse_17 rfl hl (by decide) rfl (fun ls hl => ?_)
        refine lv_aload_n hx hb dX2_reverse_18 rfl (lv_at hl 1 rfl) ?_
        refine lv_iload_n hx hb dX2_reverse_19 rfl (lv_at hl 2 rfl) ?_
        refine lv_aload_n hx hb dX2_reverse_20 rfl (lv_at hl 1 rfl) ?_
        refine lv_aload_n hx hb dX2_reverse_21 rfl (lv_at hl 1 rfl) ?_
        refine va_get (D := D) (ci := 2) (v := .int (nI sz)) (C := RX2) (T := TX2) (N := 2) hx hb hts inlX2 hown hG.K hP 0 rfl rfl 1 (by decide) (hts _ mF_X2_13) (fun _ h9 => h9) rfl dX2_reverse_22 ?_
        refine lv_iconst (v := 1) hx hb dX2_reverse_25 (by decide) ?_
        refine lv_isub hx hb dX2_reverse_26 ?_
        refine tpi (y := nI (sz - 1)) (pk_sub (a := sz) (b := 1) (by omega)) ?_
        refine lv_iload_n hx hb dX2_reverse_27 rfl (lv_at hl 2 rfl) ?_
        refine lv_isub hx hb dX2_reverse_28 ?_
        refine tpi (y := nI ((sz - 1) - k)) (pk_sub (a := (sz - 1)) (b := k) (by omega)) ?_
        have hP9 := hP
        refine vp_callSi (pV (rest := [.int (nI k), .ref r]) (qc := (RX2, TX2, 2)) [.int (nI ((sz - 1) - k))] 1 hC (c_get l D (r := r) (j := (sz - 1) - k) (a := a) (sz := sz) (n := n) (f := rvP f k sz) (by omega) (by omega) (by omega)) rfl (hP 0 _ rfl) (gV mM_X2_25 mI_X2_get mS_X2_get mN_X2 mC_X2_get) (by decide +kernel) rfl rfl ⟨Nat.le_of_ble_eq_true rfl, Nat.le_of_ble_eq_true rfl⟩ hG hP9 rfl hl.1 rfl (Nat.le_of_ble_eq_true rfl) dX2_reverse_29 ⟨Nat.le_of_ble_eq_true rfl, Nat.le_of_ble_eq_true rfl⟩) (fun r29 h29 => ?_)
        obtain rfl : r29 = ((rvP f k sz) ((sz - 1) - k)) := h29
        have hP9 := hP.sub (ws' := [oO r 2 [.ref a, .int (nI sz)], aI D a n (rvP f k sz)]) [0, 1] rfl
        have hD9 := (hD.sub (ws' := [oO r 2 [.ref a, .int (nI sz)], aI D a n (rvP f k sz)]) [0, 1] (by decide) rfl).weaken (B := fun _ => True) (fun _ _ _ _ => trivial)
        refine kv (wr := []) (rV (rest := []) (qc := (RX2, TX2, 2)) [.int (nI k), .int ((rvP f k sz) ((sz - 1) - k))] 2 0 0 hC (c_set l D (r := r) (j := k) (x := (rvP f k sz) ((sz - 1) - k)) (a := a) (sz := sz) (n := n) (f := rvP f k sz) (hz0 := H.size) (by omega) (by omega) (by omega)) rfl (hP 0 _ rfl) (gV mM_X2_29 mI_X2_set mS_X2_set mN_X2 mC_X2_set) (by decide +kernel) rfl rfl ⟨Nat.le_of_ble_eq_true rfl, Nat.le_of_ble_eq_true rfl⟩ hG hP9 hD9 rfl hl.1 rfl (Nat.le_of_ble_eq_true rfl) dX2_reverse_32 ⟨Nat.le_of_ble_eq_true rfl, Nat.le_of_ble_eq_true rfl⟩) hP hD hS hA [0, 1] [] rfl rfl (by decide) (by decide) (fun u32 H locs h32 hP hD hS hz hfr => ?_)
        have hP : va_P D cls [oO r 2 [.ref a, .int (nI sz)], aI D a n (upd (rvP f k sz) k ((rvP f k sz) ((sz - 1) - k)))] H := hP
        have hD : va_D A [oO r 2 [.ref a, .int (nI sz)], aI D a n (upd (rvP f k sz) k ((rvP f k sz) ((sz - 1) - k)))] := hD
        refine lv_aload_n hx hb dX2_reverse_35 rfl (lv_at hl 1 rfl) ?_
        refine lv_aload_n hx hb dX2_reverse_36 rfl (lv_at hl 1 rfl) ?_
        refine va_get (D := D) (ci := 2) (v := .int (nI sz)) (C := RX2) (T := TX2) (N := 2) hx hb hts inlX2 hown hG.K hP 0 rfl rfl 1 (by decide) (hts _ mF_X2_13) (fun _ h9 => h9) rfl dX2_reverse_37 ?_
        refine lv_iconst (v := 1) hx hb dX2_reverse_40 (by decide) ?_
        refine lv_isub hx hb dX2_reverse_41 ?_
        refine tpi (y := nI (sz - 1)) (pk_sub (a := sz) (b := 1) (by omega)) ?_
        refine lv_iload_n hx hb dX2_reverse_42 rfl (lv_at hl 2 rfl) ?_
        refine lv_isub hx hb dX2_reverse_43 ?_
        refine tpi (y := nI ((sz - 1) - k)) (pk_sub (a := (sz - 1)) (b := k) (by omega)) ?_
        refine lv_iload_n hx hb dX2_reverse_44 rfl (lv_at hl 0 rfl) ?_
        have hP9 := hP.sub (ws' := [oO r 2 [.ref a, .int (nI sz)], aI D a n (upd (rvP f k sz) k ((rvP f k sz) ((sz - 1) - k)))]) [0, 1] rfl
        have hD9 := (hD.sub (ws' := [oO r 2 [.ref a, .int (nI sz)], aI D a n (upd (rvP f k sz) k ((rvP f k sz) ((sz - 1) - k)))]) [0, 1] (by decide) rfl).weaken (B := fun _ => True) (fun _ _ _ _ => trivial)
        refine kv (wr := []) (rV (rest := []) (qc := (RX2, TX2, 2)) [.int (nI ((sz - 1) - k)), .int ((rvP f k sz) k)] 2 0 0 hC (c_set l D (r := r) (j := (sz - 1) - k) (x := (rvP f k sz) k) (a := a) (sz := sz) (n := n) (f := upd (rvP f k sz) k ((rvP f k sz) ((sz - 1) - k))) (hz0 := H.size) (by omega) (by omega) (by omega)) rfl (hP 0 _ rfl) (gV mM_X2_29 mI_X2_set mS_X2_set mN_X2 mC_X2_set) (by decide +kernel) rfl rfl ⟨Nat.le_of_ble_eq_true rfl, Nat.le_of_ble_eq_true rfl⟩ hG hP9 hD9 rfl hl.1 rfl (Nat.le_of_ble_eq_true rfl) dX2_reverse_45 ⟨Nat.le_of_ble_eq_true rfl, Nat.le_of_ble_eq_true rfl⟩) hP hD hS hA [0, 1] [] rfl rfl (by decide) (by decide) (fun u45 H locs h45 hP hD hS hz hfr => ?_)
        have hP : va_P D cls [oO r 2 [.ref a, .int (nI sz)], aI D a n (upd (upd (rvP f k sz) k ((rvP f k sz) ((sz - 1) - k))) ((sz - 1) - k) ((rvP f k sz) k))] H := hP
        have hD : va_D A [oO r 2 [.ref a, .int (nI sz)], aI D a n (upd (upd (rvP f k sz) k ((rvP f k sz) ((sz - 1) - k))) ((sz - 1) - k) ((rvP f k sz) k))] := hD
        have hcv2 : (rvP f (k + 1) sz) = (upd (upd (rvP f k sz) k ((rvP f k sz) ((sz - 1) - k))) ((sz - 1) - k) ((rvP f k sz) k)) := (rvP_step (by omega)).symm
        have hP := Eq.mpr (congrArg (fun z9 => va_P D cls [oO r 2 [.ref a, .int (nI sz)], aI D a n z9] H) hcv2) hP
        have hD := Eq.mpr (congrArg (fun z9 => va_D A [oO r 2 [.ref a, .int (nI sz)], aI D a n z9]) hcv2) hD
        have hP : va_P D cls [oO r 2 [.ref a, .int (nI sz)], aI D a n (rvP f (k + 1) sz)] H := hP
        have hD : va_D A [oO r 2 [.ref a, .int (nI sz)], aI D a n (rvP f (k + 1) sz)] := hD
        refine lv_iinc (v := nI (k + 1)) (lv' := [(1, .int (nI (k + 1))), (2, .int ((rvP f k sz) k)), (0, .ref r)]) hx hb dX2_reverse_48 hl (k := 2) rfl (nI_1 _) (by decide) rfl (fun ls hl => ?_)
        refine lv_goto (tgt := 2) hx hb dX2_reverse_51 (by decide) ?_
        exact ih2 (k + 1) (by omega) (by omega) _ _ _ hP hD hS (lv_sub hl [2, 0] rfl)
  have hcv3 : (rvP f 0 sz) = f := rvP_0 f sz
  have hP := Eq.mpr (congrArg (fun z9 => va_P D cls [oO r 2 [.ref a, .int (nI sz)], aI D a n z9] H) hcv3) hP
  have hD := Eq.mpr (congrArg (fun z9 => va_D A [oO r 2 [.ref a, .int (nI sz)], aI D a n z9]) hcv3) hD
  have hP : va_P D cls [oO r 2 [.ref a, .int (nI sz)], aI D a n (rvP f 0 sz)] H := hP
  have hD : va_D A [oO r 2 [.ref a, .int (nI sz)], aI D a n (rvP f 0 sz)] := hD
  exact loop2 _ 0 (Nat.lt_succ_self _) (by omega) _ _ _ hP hD hS (lv_sub hl [1, 0] rfl)
set_option maxHeartbeats 4000000 in
set_option maxRecDepth 100000 in
theorem c_mirrorTimes (l : Launch) (D : va_G) {r a n sz : Nat} {f : Nat → Int32} {x : Int32} (hz0 : Nat) (hn : n < 2 ^ 31) (hs : sz ≤ n) : Met l yX2_mirrorTimes (ws_ yX2_mirrorTimes cX2_mirrorTimes 3 none) ({ frames := 3, cells := 0, slots := 0, locals := 65 } : Room) (va_Pc [.ref r, .int x] (SW D [oO r 2 [.ref a, .int (nI sz)], aI D a n f] hz0)) (va_Qv (fun _ => True) (AT D (va_A [oO r 2 [.ref a, .int (nI sz)], aI D a n f] hz0) (fun _ : Unit => [oO r 2 [.ref a, .int (nI sz)], aI D a n (rvF (mpF (fun z => x - z) f sz) sz)])) (va_A [oO r 2 [.ref a, .int (nI sz)], aI D a n f] hz0)) 0 0 (va_A [oO r 2 [.ref a, .int (nI sz)], aI D a n f] hz0) := by
  refine Met.ofW (cc := cX2_mirrorTimes) (maxL := 3) (ret := none) (by decide) rfl ?_
  intro p e s m args below meth c s₁ B hml hv
  obtain ⟨rfl, hsz, hG, hP, hD0⟩ := hv
  have hx := B.exec
  have hb := B.bytes
  have hr := B.returns
  have hts : ∀ w ∈ wsL_law, w.before _ s = true := fun w h => atoms_spec (ws := (ws_ yX2_mirrorTimes cX2_mirrorTimes 3 none)) B.pre w (List.mem_cons_of_mem _ h)
  have hown : s.vm.findClass RX2 = some m.cls := findClass_of_methodNamed B.named
  have hlk := B.notSynchronized
  have hC : CallFix p m c cX2_mirrorTimes 3 s _ wsL_law RX2 := ⟨hx, hb, hml, hown, hts⟩
  subst hsz
  have hD := hD0.self (sz := s.heap.size)
  generalize hAe : va_A [oO r 2 [.ref a, .int (nI sz)], aI D a n f] s.heap.size = A at hD ⊢
  have hA : ∀ q : Nat, s.heap.size ≤ q → A q := fun q h => by rw [← hAe]; exact Or.inr h
  have hS : va_S A s.heap s.heap [] := va_S.rf
  obtain ⟨H, hHe⟩ : ∃ H, H = s.heap := ⟨_, rfl⟩
  rw [← hHe] at hP
  have hS : va_S A s.heap H [] := by rw [hHe]; exact hS
  have hl := lv_entry ([.ref r, .int x]) (n := 3) (Nat.le_of_ble_eq_true rfl)
  rw [lg_entry_eq]
  generalize (lg_sl ([.ref r, .int x]) ++ List.replicate (3 - (lg_sl ([.ref r, .int x])).length) Slot.unset).toArray = ls at hl ⊢
  have hl : lv_has ls 3 [(0, .ref r), (1, .int x)] := hl
  rw [← hHe]
  refine lv_iconst (v := 0) hx hb dX2_mirrorTimes_0 (by decide) ?_
  refine lv_istore_n (lv' := [(2, .int 0), (0, .ref r), (1, .int x)]) hx hb dX2_mirrorTimes_1 rfl hl (by decide) rfl (fun ls hl => ?_)
  have loop2 : ∀ (d9 : Nat) (k : Nat), (sz - k) < d9 → (k ≤ sz) → ∀ (H : Heap) (locs : List Loc) (ls : Array Slot), va_P D cls [oO r 2 [.ref a, .int (nI sz)], aI D a n (mpF (fun z => x - z) f k)] H → va_D A [oO r 2 [.ref a, .int (nI sz)], aI D a n (mpF (fun z => x - z) f k)] → va_S A s.heap H locs → lv_has ls 3 [(0, .ref r), (1, .int x), (2, .int (nI k))] → W p l e ({ frames := 3, cells := 0, slots := 0, locals := 65 } : Room) s m ([.ref r, .int x] : List Value).toArray below meth c H locs 0 0 (MQ below (va_Qv (fun _ => True) (AT D A (fun _ : Unit => [oO r 2 [.ref a, .int (nI sz)], aI D a n (rvF (mpF (fun z => x - z) f sz) sz)])) A) ([.ref r, .int x] : List Value).toArray s 0 0 A) (F0 m 2 ls []) := by
    intro d9
    induction d9 with
    | zero => intro k hd; exact absurd hd (Nat.not_lt_zero _)
    | succ d9 ih2 =>
      intro k hd2 hk H locs ls hP hD hS hl
      refine lv_iload_n hx hb dX2_mirrorTimes_2 rfl (lv_at hl 2 rfl) ?_
      refine lv_aload_n hx hb dX2_mirrorTimes_3 rfl (lv_at hl 0 rfl) ?_
      refine va_get (D := D) (ci := 2) (v := .int (nI sz)) (C := RX2) (T := TX2) (N := 2) hx hb hts inlX2 hown hG.K hP 0 rfl rfl 1 (by decide) (hts _ mF_X2_13) (fun _ h9 => h9) rfl dX2_mirrorTimes_4 ?_
      refine lv_icmp_ge (tgt := 28) hx hb dX2_mirrorTimes_7 (by decide) (fun c7 => ?_) (fun c7 => ?_)
      · skip
        have n7 := (nI_leI (a := sz) (b := k) (by omega) (by omega)).mp c7
        have hcv1 : (mpF (fun z => x - z) f sz) = (mpF (fun z => x - z) f k) := by
          have e : k = sz := by omega
          subst e
          rfl
        have hP := Eq.mpr (congrArg (fun z9 => va_P D cls [oO r 2 [.ref a, .int (nI sz)], aI D a n z9] H) hcv1) hP
        have hD := Eq.mpr (congrArg (fun z9 => va_D A [oO r 2 [.ref a, .int (nI sz)], aI D a n z9]) hcv1) hD
        have hP : va_P D cls [oO r 2 [.ref a, .int (nI sz)], aI D a n (mpF (fun z => x - z) f sz)] H := hP
        have hD : va_D A [oO r 2 [.ref a, .int (nI sz)], aI D a n (mpF (fun z => x - z) f sz)] := hD
        refine lv_aload_n hx hb dX2_mirrorTimes_28 rfl (lv_at hl 0 rfl) ?_
        have hP9 := hP.sub (ws' := [oO r 2 [.ref a, .int (nI sz)], aI D a n (mpF (fun z => x - z) f sz)]) [0, 1] rfl
        have hD9 := (hD.sub (ws' := [oO r 2 [.ref a, .int (nI sz)], aI D a n (mpF (fun z => x - z) f sz)]) [0, 1] (by decide) rfl).weaken (B := fun _ => True) (fun _ _ _ _ => trivial)
        refine kv (wr := []) (rV (rest := []) (qc := (RX2, TX2, 2)) [] 0 0 0 hC (c_reverse l D (r := r) (a := a) (sz := sz) (n := n) (f := mpF (fun z => x - z) f sz) (hz0 := H.size) (by omega) (by omega)) rfl (hP 0 _ rfl) (gV mM_X2_32 mI_X2_reverse mS_X2_reverse mN_X2 mC_X2_reverse) (by decide +kernel) rfl rfl ⟨Nat.le_of_ble_eq_true rfl, Nat.le_of_ble_eq_true rfl⟩ hG hP9 hD9 rfl hl.1 rfl (Nat.le_of_ble_eq_true rfl) dX2_mirrorTimes_29 ⟨Nat.le_of_ble_eq_true rfl, Nat.le_of_ble_eq_true rfl⟩) hP hD hS hA [0, 1] [] rfl rfl (by decide) (by decide) (fun u29 H locs h29 hP hD hS hz hfr => ?_)
        have hP : va_P D cls [oO r 2 [.ref a, .int (nI sz)], aI D a n (rvF (mpF (fun z => x - z) f sz) sz)] H := hP
        have hD : va_D A [oO r 2 [.ref a, .int (nI sz)], aI D a n (rvF (mpF (fun z => x - z) f sz) sz)] := hD
        refine Wv () hx hb hr hlk ?_ hP hD hS (Nat.le_of_ble_eq_true rfl) (by first | exact Nat.le_of_ble_eq_true rfl | exact Nat.le_of_eq (Nat.zero_add _)) dX2_mirrorTimes_32
        exact trivial
      · skip
        have n7 := mt (nI_leI (a := sz) (b := k) (by omega) (by omega)).mpr c7
        refine lv_aload_n hx hb dX2_mirrorTimes_10 rfl (lv_at hl 0 rfl) ?_
        refine lv_iload_n hx hb dX2_mirrorTimes_11 rfl (lv_at hl 2 rfl) ?_
        refine lv_iload_n hx hb dX2_mirrorTimes_12 rfl (lv_at hl 1 rfl) ?_
        refine lv_aload_n hx hb dX2_mirrorTimes_13 rfl (lv_at hl 0 rfl) ?_
        refine lv_iload_n hx hb dX2_mirrorTimes_14 rfl (lv_at hl 2 rfl) ?_
        have hP9 := hP
        refine vp_callSi (pV (rest := [.int x, .int (nI k), .ref r]) (qc := (RX2, TX2, 2)) [.int (nI k)] 1 hC (c_get l D (r := r) (j := k) (a := a) (sz := sz) (n := n) (f := mpF (fun z => x - z) f k) (by omega) (by omega) (by omega)) rfl (hP 0 _ rfl) (gV mM_X2_25 mI_X2_get mS_X2_get mN_X2 mC_X2_get) (by decide +kernel) rfl rfl ⟨Nat.le_of_ble_eq_true rfl, Nat.le_of_ble_eq_true rfl⟩ hG hP9 rfl hl.1 rfl (Nat.le_of_ble_eq_true rfl) dX2_mirrorTimes_15 ⟨Nat.le_of_ble_eq_true rfl, Nat.le_of_ble_eq_true rfl⟩) (fun r15 h15 => ?_)
        obtain rfl : r15 = ((mpF (fun z => x - z) f k) k) := h15
        refine lv_isub hx hb dX2_mirrorTimes_18 ?_
        have hP9 := hP.sub (ws' := [oO r 2 [.ref a, .int (nI sz)], aI D a n (mpF (fun z => x - z) f k)]) [0, 1] rfl
        have hD9 := (hD.sub (ws' := [oO r 2 [.ref a, .int (nI sz)], aI D a n (mpF (fun z => x - z) f k)]) [0, 1] (by decide) rfl).weaken (B := fun _ => True) (fun _ _ _ _ => trivial)
        refine kv (wr := []) (rV (rest := []) (qc := (RX2, TX2, 2)) [.int (nI k), .int (x - ((mpF (fun z => x - z) f k) k))] 2 0 0 hC (c_set l D (r := r) (j := k) (x := x - ((mpF (fun z => x - z) f k) k)) (a := a) (sz := sz) (n := n) (f := mpF (fun z => x - z) f k) (hz0 := H.size) (by omega) (by omega) (by omega)) rfl (hP 0 _ rfl) (gV mM_X2_29 mI_X2_set mS_X2_set mN_X2 mC_X2_set) (by decide +kernel) rfl rfl ⟨Nat.le_of_ble_eq_true rfl, Nat.le_of_ble_eq_true rfl⟩ hG hP9 hD9 rfl hl.1 rfl (Nat.le_of_ble_eq_true rfl) dX2_mirrorTimes_19 ⟨Nat.le_of_ble_eq_true rfl, Nat.le_of_ble_eq_true rfl⟩) hP hD hS hA [0, 1] [] rfl rfl (by decide) (by decide) (fun u19 H locs h19 hP hD hS hz hfr => ?_)
        have hP : va_P D cls [oO r 2 [.ref a, .int (nI sz)], aI D a n (upd (mpF (fun z => x - z) f k) k (x - ((mpF (fun z => x - z) f k) k)))] H := hP
        have hD : va_D A [oO r 2 [.ref a, .int (nI sz)], aI D a n (upd (mpF (fun z => x - z) f k) k (x - ((mpF (fun z => x - z) f k) k)))] := hD
        have hcv2 : (mpF (fun z => x - z) f (k + 1)) = (upd (mpF (fun z => x - z) f k) k (x - ((mpF (fun z => x - z) f k) k))) := by rw [mpF_at]; exact (mpF_step (fun z => x - z) f k).symm
        have hP := Eq.mpr (congrArg (fun z9 => va_P D cls [oO r 2 [.ref a, .int (nI sz)], aI D a n z9] H) hcv2) hP
        have hD := Eq.mpr (congrArg (fun z9 => va_D A [oO r 2 [.ref a, .int (nI sz)], aI D a n z9]) hcv2) hD
        have hP : va_P D cls [oO r 2 [.ref a, .int (nI sz)], aI D a n (mpF (fun z => x - z) f (k + 1))] H := hP
        have hD : va_D A [oO r 2 [.ref a, .int (nI sz)], aI D a n (mpF (fun z => x - z) f (k + 1))] := hD
        refine lv_iinc (v := nI (k + 1)) (lv' := [(2, .int (nI (k + 1))), (0, .ref r), (1, .int x)]) hx hb dX2_mirrorTimes_22 hl (k := 2) rfl (nI_1 _) (by decide) rfl (fun ls hl => ?_)
        refine lv_goto (tgt := 2) hx hb dX2_mirrorTimes_25 (by decide) ?_
        exact ih2 (k + 1) (by omega) (by omega) _ _ _ hP hD hS (lv_sub hl [1, 2, 0] rfl)
  have hcv3 : (mpF (fun z => x - z) f 0) = f := mpF_0 _ f
  have hP := Eq.mpr (congrArg (fun z9 => va_P D cls [oO r 2 [.ref a, .int (nI sz)], aI D a n z9] H) hcv3) hP
  have hD := Eq.mpr (congrArg (fun z9 => va_D A [oO r 2 [.ref a, .int (nI sz)], aI D a n z9]) hcv3) hD
  have hP : va_P D cls [oO r 2 [.ref a, .int (nI sz)], aI D a n (mpF (fun z => x - z) f 0)] H := hP
  have hD : va_D A [oO r 2 [.ref a, .int (nI sz)], aI D a n (mpF (fun z => x - z) f 0)] := hD
  exact loop2 _ 0 (Nat.lt_succ_self _) (by omega) _ _ _ hP hD hS (lv_sub hl [1, 2, 0] rfl)
set_option maxHeartbeats 4000000 in
set_option maxRecDepth 100000 in
theorem c_append (l : Launch) (D : va_G) {r a n sz : Nat} {f : Nat → Int32} {x : Int32} (hz0 : Nat) (hn : n < 2 ^ 31) (hs : sz < n) : Met l yX2_append (ws_ yX2_append cX2_append 2 none) ({ frames := 1, cells := 0, slots := 0, locals := 23 } : Room) (va_Pc [.ref r, .int x] (SW D [oO r 2 [.ref a, .int (nI sz)], aI D a n f] hz0)) (va_Qv (fun _ => True) (AT D (va_A [oO r 2 [.ref a, .int (nI sz)], aI D a n f] hz0) (fun _ : Unit => [oO r 2 [.ref a, .int (nI (sz + 1))], aI D a n (insF f sz sz x)])) (va_A [oO r 2 [.ref a, .int (nI sz)], aI D a n f] hz0)) 0 0 (va_A [oO r 2 [.ref a, .int (nI sz)], aI D a n f] hz0) := by
  refine Met.ofW (cc := cX2_append) (maxL := 2) (ret := none) (by decide) rfl ?_
  intro p e s m args below meth c s₁ B hml hv
  obtain ⟨rfl, hsz, hG, hP, hD0⟩ := hv
  have hx := B.exec
  have hb := B.bytes
  have hr := B.returns
  have hts : ∀ w ∈ wsL_law, w.before _ s = true := fun w h => atoms_spec (ws := (ws_ yX2_append cX2_append 2 none)) B.pre w (List.mem_cons_of_mem _ h)
  have hown : s.vm.findClass RX2 = some m.cls := findClass_of_methodNamed B.named
  have hlk := B.notSynchronized
  have hC : CallFix p m c cX2_append 2 s _ wsL_law RX2 := ⟨hx, hb, hml, hown, hts⟩
  subst hsz
  have hD := hD0.self (sz := s.heap.size)
  generalize hAe : va_A [oO r 2 [.ref a, .int (nI sz)], aI D a n f] s.heap.size = A at hD ⊢
  have hA : ∀ q : Nat, s.heap.size ≤ q → A q := fun q h => by rw [← hAe]; exact Or.inr h
  have hS : va_S A s.heap s.heap [] := va_S.rf
  obtain ⟨H, hHe⟩ : ∃ H, H = s.heap := ⟨_, rfl⟩
  rw [← hHe] at hP
  have hS : va_S A s.heap H [] := by rw [hHe]; exact hS
  have hl := lv_entry ([.ref r, .int x]) (n := 2) (Nat.le_of_ble_eq_true rfl)
  rw [lg_entry_eq]
  generalize (lg_sl ([.ref r, .int x]) ++ List.replicate (2 - (lg_sl ([.ref r, .int x])).length) Slot.unset).toArray = ls at hl ⊢
  have hl : lv_has ls 2 [(0, .ref r), (1, .int x)] := hl
  rw [← hHe]
  refine lv_aload_n hx hb dX2_append_0 rfl (lv_at hl 0 rfl) ?_
  refine lv_aload_n hx hb dX2_append_1 rfl (lv_at hl 0 rfl) ?_
  refine va_get (D := D) (ci := 2) (v := .int (nI sz)) (C := RX2) (T := TX2) (N := 2) hx hb hts inlX2 hown hG.K hP 0 rfl rfl 1 (by decide) (hts _ mF_X2_13) (fun _ h9 => h9) rfl dX2_append_2 ?_
  refine lv_iload_n hx hb dX2_append_5 rfl (lv_at hl 1 rfl) ?_
  have hP9 := hP.sub (ws' := [oO r 2 [.ref a, .int (nI sz)], aI D a n f]) [0, 1] rfl
  have hD9 := (hD.sub (ws' := [oO r 2 [.ref a, .int (nI sz)], aI D a n f]) [0, 1] (by decide) rfl).weaken (B := fun _ => True) (fun _ _ _ _ => trivial)
  refine kv (wr := []) (rV (rest := []) (qc := (RX2, TX2, 2)) [.int (nI sz), .int x] 2 0 0 hC (c_insert l D (r := r) (j := sz) (x := x) (a := a) (sz := sz) (n := n) (f := f) (hz0 := H.size) (by omega) (by omega) (by omega)) rfl (hP 0 _ rfl) (gV mM_X2_21 mI_X2_insert mS_X2_insert mN_X2 mC_X2_insert) (by decide +kernel) rfl rfl ⟨Nat.le_of_ble_eq_true rfl, Nat.le_of_ble_eq_true rfl⟩ hG hP9 hD9 rfl hl.1 rfl (Nat.le_of_ble_eq_true rfl) dX2_append_6 ⟨Nat.le_of_ble_eq_true rfl, Nat.le_of_ble_eq_true rfl⟩) hP hD hS hA [0, 1] [] rfl rfl (by decide) (by decide) (fun u6 H locs h6 hP hD hS hz hfr => ?_)
  have hP : va_P D cls [oO r 2 [.ref a, .int (nI (sz + 1))], aI D a n (insF f sz sz x)] H := hP
  have hD : va_D A [oO r 2 [.ref a, .int (nI (sz + 1))], aI D a n (insF f sz sz x)] := hD
  refine Wv () hx hb hr hlk ?_ hP hD hS (Nat.le_of_ble_eq_true rfl) (by first | exact Nat.le_of_ble_eq_true rfl | exact Nat.le_of_eq (Nat.zero_add _)) dX2_append_9
  exact trivial
