set_option maxHeartbeats 4000000 in
set_option maxRecDepth 100000 in
theorem c_AC_init (l : Launch) (D : va_G) {lo : Nat} (hz0 : Nat)  : Met l yJxa1e45_init_da8c8 (ws_ yJxa1e45_init_da8c8 cJxa1e45_init_da8c8 1 none) ({ frames := 1, cells := 0, slots := 0, locals := 20 } : Room) (va_Pc [.ref lo] (SW D [] hz0)) (va_Qv (fun _ => True) (AT D (va_A [] hz0) (fun _ : Unit => [])) (va_A [] hz0)) 0 0 (va_A [] hz0) := by
  refine va_MetF (cc := cJxa1e45_init_da8c8) (maxL := 1) (ret := none) (by decide +kernel) rfl ?_
  intro p e s m args below meth c s₁ B hml hv
  obtain ⟨rfl, hsz, hG, hP, hD0⟩ := hv
  have hx := B.exec
  have hb := B.bytes
  have hr := B.returns
  have hts : ∀ w ∈ wsL_law, w.before _ s = true := fun w h => atoms_spec (ws := (ws_ yJxa1e45_init_da8c8 cJxa1e45_init_da8c8 1 none)) B.pre w (List.mem_cons_of_mem _ h)
  have hown : s.vm.findClass RJxa1e45 = some m.cls := findClass_of_methodNamed B.named
  have hlk := B.notSynchronized
  have hC : CallFix p m c cJxa1e45_init_da8c8 1 s _ wsL_law RJxa1e45 := ⟨hx, hb, hml, hown, hts⟩
  have hin : meth.name = "<init>" := (name_of_methodNamed B.named B.method).1
  subst hsz
  have hD := hD0.self (sz := s.heap.size)
  generalize hAe : va_A [] s.heap.size = A at hD ⊢
  have hA : ∀ q : Nat, s.heap.size ≤ q → A q := fun q h => by rw [← hAe]; exact Or.inr h
  have hS : va_S A s.heap s.heap [] := va_S.rf
  obtain ⟨H, hHe⟩ : ∃ H, H = s.heap := ⟨_, rfl⟩
  rw [← hHe] at hP
  have hS : va_S A s.heap H [] := by rw [hHe]; exact hS
  have hl := lv_entry ([.ref lo]) (n := 1) (Nat.le_of_ble_eq_true rfl)
  rw [lg_entry_eq]
  generalize (lg_sl ([.ref lo]) ++ List.replicate (1 - (lg_sl ([.ref lo])).length) Slot.unset).toArray = ls at hl ⊢
  have hl : lv_has ls 1 [(0, .ref lo)] := hl
  rw [← hHe]
  refine lv_aload_n hx hb dJxa1e45_init_da8c8_0 rfl (lv_at hl 0 rfl) ?_
  refine W.objInit hx hb hown (hts _ mM_Jxa1e45_1) (hts _ mI_objectInit) (hts _ mC_objectInit) rfl (by rw [hml]; exact hl.1) rfl dJxa1e45_init_da8c8_1 (Nat.le_of_ble_eq_true rfl) (Nat.le_of_ble_eq_true rfl) ?_
  refine W.eq (g2 := F0 m 4 ls []) rfl ?_
  refine Wv () hx hb hr hlk ?_ hP hD hS (Nat.le_of_ble_eq_true rfl) (by first | exact Nat.le_of_ble_eq_true rfl | exact Nat.le_of_eq (Nat.zero_add _)) dJxa1e45_init_da8c8_4
  exact trivial
set_option maxHeartbeats 4000000 in
set_option maxRecDepth 100000 in
theorem c_AL_init (l : Launch) (D : va_G) {lo : Nat} (hz0 : Nat)  : Met l yJxc12de_init_da8c8 (ws_ yJxc12de_init_da8c8 cJxc12de_init_da8c8 1 none) ({ frames := 2, cells := 0, slots := 0, locals := 40 } : Room) (va_Pc [.ref lo] (SW D [oO lo 7 [.int 0, .null, .int 0]] hz0)) (va_Qv (fun _ => True) (AT D (va_A [oO lo 7 [.int 0, .null, .int 0]] hz0) (fun _ : Unit => [oO lo 7 [.int 0, .null, .int 0]])) (va_A [oO lo 7 [.int 0, .null, .int 0]] hz0)) 0 0 (va_A [oO lo 7 [.int 0, .null, .int 0]] hz0) := by
  refine va_MetF (cc := cJxc12de_init_da8c8) (maxL := 1) (ret := none) (by decide +kernel) rfl ?_
  intro p e s m args below meth c s₁ B hml hv
  obtain ⟨rfl, hsz, hG, hP, hD0⟩ := hv
  have hx := B.exec
  have hb := B.bytes
  have hr := B.returns
  have hts : ∀ w ∈ wsL_law, w.before _ s = true := fun w h => atoms_spec (ws := (ws_ yJxc12de_init_da8c8 cJxc12de_init_da8c8 1 none)) B.pre w (List.mem_cons_of_mem _ h)
  have hown : s.vm.findClass RJxc12de = some m.cls := findClass_of_methodNamed B.named
  have hlk := B.notSynchronized
  have hC : CallFix p m c cJxc12de_init_da8c8 1 s _ wsL_law RJxc12de := ⟨hx, hb, hml, hown, hts⟩
  have hin : meth.name = "<init>" := (name_of_methodNamed B.named B.method).1
  subst hsz
  have hD := hD0.self (sz := s.heap.size)
  generalize hAe : va_A [oO lo 7 [.int 0, .null, .int 0]] s.heap.size = A at hD ⊢
  have hA : ∀ q : Nat, s.heap.size ≤ q → A q := fun q h => by rw [← hAe]; exact Or.inr h
  have hS : va_S A s.heap s.heap [] := va_S.rf
  obtain ⟨H, hHe⟩ : ∃ H, H = s.heap := ⟨_, rfl⟩
  rw [← hHe] at hP
  have hS : va_S A s.heap H [] := by rw [hHe]; exact hS
  have hl := lv_entry ([.ref lo]) (n := 1) (Nat.le_of_ble_eq_true rfl)
  rw [lg_entry_eq]
  generalize (lg_sl ([.ref lo]) ++ List.replicate (1 - (lg_sl ([.ref lo])).length) Slot.unset).toArray = ls at hl ⊢
  have hl : lv_has ls 1 [(0, .ref lo)] := hl
  rw [← hHe]
  refine lv_aload_n hx hb dJxc12de_init_da8c8_0 rfl (lv_at hl 0 rfl) ?_
  have hP9 := hP.sub (ws' := []) [] rfl
  have hD9 := (hD.sub (ws' := []) [] (by decide) rfl).weaken (B := fun _ => True) (fun _ _ _ _ => trivial)
  refine kv (wr := [oO lo 7 [.int 0, .null, .int 0]]) (rI (rest := []) [] 0 0 0 hC (c_AC_init l D (lo := lo) (hz0 := H.size) ) mM_Jxc12de_1 mI_Jxa1e45_init_da8c8 mN_Jxa1e45 mC_Jxa1e45_init_da8c8 rfl (by decide +kernel) rfl rfl ⟨Nat.le_of_ble_eq_true rfl, Nat.le_of_ble_eq_true rfl⟩ hG hP9 hD9 rfl hl.1 rfl (Nat.le_of_ble_eq_true rfl) dJxc12de_init_da8c8_1 ⟨Nat.le_of_ble_eq_true rfl, Nat.le_of_ble_eq_true rfl⟩) hP hD hS hA [] [0] rfl rfl (by decide) (by decide) (fun u1 H locs h1 hP hD hS hz hfr => ?_)
  have hP : va_P D cls [oO lo 7 [.int 0, .null, .int 0]] H := hP
  have hD : va_D A [oO lo 7 [.int 0, .null, .int 0]] := hD
  refine lv_aload_n hx hb dJxc12de_init_da8c8_4 rfl (lv_at hl 0 rfl) ?_
  refine lv_iconst (v := 0) hx hb dJxc12de_init_da8c8_5 (by decide) ?_
  refine va_put (D := D) (ci := 7) (v := .int 0) (ty := .int) (C := RJx4a65c) (T := TJx4a65c) (N := 3) hx hb hts inlJx4a65c tyJx4a65c tyJx4a65c_ok nmJx4a65c hown hG.K hP hD hS 0 rfl rfl 0 (by decide) (hts _ mF_Jxc12de_7) (fun _ h9 => h9) rfl (by decide +kernel) rfl rfl (Nat.le_of_ble_eq_true rfl) dJxc12de_init_da8c8_6 (fun H locs hP hD hS => ?_)
  have hP : va_P D cls [oO lo 7 [.int 0, .null, .int 0]] H := hP
  have hD : va_D A [oO lo 7 [.int 0, .null, .int 0]] := hD
  refine Wv () hx hb hr hlk ?_ hP hD hS (Nat.le_of_ble_eq_true rfl) (by first | exact Nat.le_of_ble_eq_true rfl | exact Nat.le_of_eq (Nat.zero_add _)) dJxc12de_init_da8c8_9
  exact trivial
set_option maxHeartbeats 4000000 in
set_option maxRecDepth 100000 in
theorem c_list_init (l : Launch) (D : va_G) {lo z : Nat} (hz0 : Nat)  : Met l yJx4a65c_init_da8c8 (ws_ yJx4a65c_init_da8c8 cJx4a65c_init_da8c8 1 none) ({ frames := 3, cells := 0, slots := 0, locals := 60 } : Room) (va_Pc [.ref lo] (SX D [oO lo 7 [.int 0, .null, .int 0]] hz0 (ZL z (va_A [oO lo 7 [.int 0, .null, .int 0]] hz0)))) (va_Qv (fun _ => True) (AT D (va_A [oO lo 7 [.int 0, .null, .int 0]] hz0) (fun _ : Unit => [oO lo 7 [.int 0, .ref z, .int (nI 0)]])) (va_A [oO lo 7 [.int 0, .null, .int 0]] hz0)) 0 0 (va_A [oO lo 7 [.int 0, .null, .int 0]] hz0) := by
  refine va_MetF (cc := cJx4a65c_init_da8c8) (maxL := 1) (ret := none) (by decide +kernel) rfl ?_
  intro p e s m args below meth c s₁ B hml hv
  obtain ⟨rfl, ⟨hsz, hG, hP, hD0⟩, hX⟩ := hv
  have hx := B.exec
  have hb := B.bytes
  have hr := B.returns
  have hts : ∀ w ∈ wsL_law, w.before _ s = true := fun w h => atoms_spec (ws := (ws_ yJx4a65c_init_da8c8 cJx4a65c_init_da8c8 1 none)) B.pre w (List.mem_cons_of_mem _ h)
  have hown : s.vm.findClass RJx4a65c = some m.cls := findClass_of_methodNamed B.named
  have hlk := B.notSynchronized
  have hC : CallFix p m c cJx4a65c_init_da8c8 1 s _ wsL_law RJx4a65c := ⟨hx, hb, hml, hown, hts⟩
  have hin : meth.name = "<init>" := (name_of_methodNamed B.named B.method).1
  subst hsz
  have hD := hD0.self (sz := s.heap.size)
  generalize hAe : va_A [oO lo 7 [.int 0, .null, .int 0]] s.heap.size = A at hD hX ⊢
  have hA : ∀ q : Nat, s.heap.size ≤ q → A q := fun q h => by rw [← hAe]; exact Or.inr h
  have hS : va_S A s.heap s.heap [] := va_S.rf
  obtain ⟨H, hHe⟩ : ∃ H, H = s.heap := ⟨_, rfl⟩
  rw [← hHe] at hP
  have hS : va_S A s.heap H [] := by rw [hHe]; exact hS
  have hl := lv_entry ([.ref lo]) (n := 1) (Nat.le_of_ble_eq_true rfl)
  rw [lg_entry_eq]
  generalize (lg_sl ([.ref lo]) ++ List.replicate (1 - (lg_sl ([.ref lo])).length) Slot.unset).toArray = ls at hl ⊢
  have hl : lv_has ls 1 [(0, .ref lo)] := hl
  rw [← hHe]
  refine lv_aload_n hx hb dJx4a65c_init_da8c8_0 rfl (lv_at hl 0 rfl) ?_
  have hP9 := hP.sub (ws' := [oO lo 7 [.int 0, .null, .int 0]]) [0] rfl
  have hD9 := (hD.sub (ws' := [oO lo 7 [.int 0, .null, .int 0]]) [0] (by decide) rfl).weaken (B := fun _ => True) (fun _ _ _ _ => trivial)
  refine kv (wr := []) (rI (rest := []) [] 0 0 0 hC (c_AL_init l D (lo := lo) (hz0 := H.size) ) mM_Jx4a65c_1 mI_Jxc12de_init_da8c8 mN_Jxc12de mC_Jxc12de_init_da8c8 rfl (by decide +kernel) rfl rfl ⟨Nat.le_of_ble_eq_true rfl, Nat.le_of_ble_eq_true rfl⟩ hG hP9 hD9 rfl hl.1 rfl (Nat.le_of_ble_eq_true rfl) dJx4a65c_init_da8c8_1 ⟨Nat.le_of_ble_eq_true rfl, Nat.le_of_ble_eq_true rfl⟩) hP hD hS hA [0] [] rfl rfl (by decide) (by decide) (fun u1 H locs h1 hP hD hS hz hfr => ?_)
  have hP : va_P D cls [oO lo 7 [.int 0, .null, .int 0]] H := hP
  have hD : va_D A [oO lo 7 [.int 0, .null, .int 0]] := hD
  refine lv_aload_n hx hb dJx4a65c_init_da8c8_4 rfl (lv_at hl 0 rfl) ?_
  refine va_gets hx hb hX.1 hS hown (hts _ mF_Jx4a65c_39) (fun _ h9 => h9) dJx4a65c_init_da8c8_5 ?_
  refine va_put (D := D) (ci := 7) (v := .ref z) (ty := (.array (.object "java/lang/Object"))) (C := RJx4a65c) (T := TJx4a65c) (N := 3) hx hb hts inlJx4a65c tyJx4a65c tyJx4a65c_ok nmJx4a65c hown hG.K hP hD hS 0 rfl rfl 1 (by decide) (hts _ mF_Jx4a65c_9) (fun _ h9 => h9) rfl (by decide +kernel) rfl rfl (Nat.le_of_ble_eq_true rfl) dJx4a65c_init_da8c8_8 (fun H locs hP hD hS => ?_)
  have hP : va_P D cls [oO lo 7 [.int 0, .ref z, .int 0]] H := hP
  have hD : va_D A [oO lo 7 [.int 0, .ref z, .int 0]] := hD
  refine Wv () hx hb hr hlk ?_ hP hD hS (Nat.le_of_ble_eq_true rfl) (by first | exact Nat.le_of_ble_eq_true rfl | exact Nat.le_of_eq (Nat.zero_add _)) dJx4a65c_init_da8c8_11
  exact trivial
set_option maxHeartbeats 4000000 in
set_option maxRecDepth 100000 in
theorem c_list_size (l : Launch) (D : va_G) {lo ea n : Nat} {mc : Int32}  : Met l yJx4a65c_size_8abf5 (ws_ yJx4a65c_size_8abf5 cJx4a65c_size_8abf5 1 (some .int)) ({ frames := 0, cells := 0, slots := 0, locals := 0 } : Room) (va_Pc [.ref lo] (PW D [oO lo 7 [.int mc, .ref ea, .int (nI n)]])) (vp_Si (fun v => v = nI n)) 0 0 (fun _ => False) := by
  refine va_MetF (cc := cJx4a65c_size_8abf5) (maxL := 1) (ret := (some .int)) (by decide +kernel) rfl ?_
  intro p e s m args below meth c s₁ B hml hv
  obtain ⟨rfl, hG, hP⟩ := hv
  have hx := B.exec
  have hb := B.bytes
  have hr := B.returns
  have hts : ∀ w ∈ wsL_law, w.before _ s = true := fun w h => atoms_spec (ws := (ws_ yJx4a65c_size_8abf5 cJx4a65c_size_8abf5 1 (some .int))) B.pre w (List.mem_cons_of_mem _ h)
  have hown : s.vm.findClass RJx4a65c = some m.cls := findClass_of_methodNamed B.named
  have hlk := B.notSynchronized
  have hC : CallFix p m c cJx4a65c_size_8abf5 1 s _ wsL_law RJx4a65c := ⟨hx, hb, hml, hown, hts⟩
  have hl := lv_entry ([.ref lo]) (n := 1) (Nat.le_of_ble_eq_true rfl)
  rw [lg_entry_eq]
  generalize (lg_sl ([.ref lo]) ++ List.replicate (1 - (lg_sl ([.ref lo])).length) Slot.unset).toArray = ls at hl ⊢
  have hl : lv_has ls 1 [(0, .ref lo)] := hl
  refine lv_aload_n hx hb dJx4a65c_size_8abf5_0 rfl (lv_at hl 0 rfl) ?_
  refine va_get (D := D) (ci := 7) (v := .int (nI n)) (C := RJx4a65c) (T := TJx4a65c) (N := 3) hx hb hts inlJx4a65c hown hG.K hP 0 rfl rfl 2 (by decide) (hts _ mF_Jx4a65c_48) (fun _ h9 => h9) rfl dJx4a65c_size_8abf5_1 ?_
  refine Ri hx hb hr hlk ?_ dJx4a65c_size_8abf5_4
  exact rfl
set_option maxHeartbeats 4000000 in
set_option maxRecDepth 100000 in
theorem c_checkIndex3 (l : Launch) (D : va_G) {i n : Nat} (hi : i < n) (hn : n < 2 ^ 31) : Met l yJ3_checkIndex_8e157 (ws_ yJ3_checkIndex_8e157 cJ3_checkIndex_8e157 3 (some .int)) ({ frames := 0, cells := 0, slots := 0, locals := 0 } : Room) (va_Pc [.int (nI i), .int (nI n), .null] (PW D [])) (vp_Si (fun v => v = nI i)) 0 0 (fun _ => False) := by
  refine va_MetF (cc := cJ3_checkIndex_8e157) (maxL := 3) (ret := (some .int)) (by decide +kernel) rfl ?_
  intro p e s m args below meth c s₁ B hml hv
  obtain ⟨rfl, hG, hP⟩ := hv
  have hx := B.exec
  have hb := B.bytes
  have hr := B.returns
  have hts : ∀ w ∈ wsL_law, w.before _ s = true := fun w h => atoms_spec (ws := (ws_ yJ3_checkIndex_8e157 cJ3_checkIndex_8e157 3 (some .int))) B.pre w (List.mem_cons_of_mem _ h)
  have hown : s.vm.findClass RJ3 = some m.cls := findClass_of_methodNamed B.named
  have hlk := B.notSynchronized
  have hC : CallFix p m c cJ3_checkIndex_8e157 3 s _ wsL_law RJ3 := ⟨hx, hb, hml, hown, hts⟩
  have hl := lv_entry ([.int (nI i), .int (nI n), .null]) (n := 3) (Nat.le_of_ble_eq_true rfl)
  rw [lg_entry_eq]
  generalize (lg_sl ([.int (nI i), .int (nI n), .null]) ++ List.replicate (3 - (lg_sl ([.int (nI i), .int (nI n), .null])).length) Slot.unset).toArray = ls at hl ⊢
  have hl : lv_has ls 3 [(0, .int (nI i)), (1, .int (nI n)), (2, .null)] := hl
  refine lv_iload_n hx hb dJ3_checkIndex_8e157_0 rfl (lv_at hl 0 rfl) ?_
  refine lv_if_lt (tgt := 9) hx hb dJ3_checkIndex_8e157_1 (by decide) (fun h9 => absurd ((nI_ltI (a := i) (b := 0) (by omega) (by omega)).mp h9) (by omega)) (fun _ => ?_)
  refine lv_iload_n hx hb dJ3_checkIndex_8e157_4 rfl (lv_at hl 0 rfl) ?_
  refine lv_iload_n hx hb dJ3_checkIndex_8e157_5 rfl (lv_at hl 1 rfl) ?_
  refine lv_icmp_lt (tgt := 16) hx hb dJ3_checkIndex_8e157_6 (by decide) (fun _ => ?_) (fun h9 => absurd ((nI_ltI (a := i) (b := n) (by omega) (by omega)).mpr (by omega)) h9)
  refine lv_iload_n hx hb dJ3_checkIndex_8e157_16 rfl (lv_at hl 0 rfl) ?_
  refine Ri hx hb hr hlk ?_ dJ3_checkIndex_8e157_17
  exact rfl
set_option maxHeartbeats 4000000 in
set_option maxRecDepth 100000 in
theorem c_checkIndex (l : Launch) (D : va_G) {i n : Nat} (hi : i < n) (hn : n < 2 ^ 31) : Met l yJ15_checkIndex_7cf53 (ws_ yJ15_checkIndex_7cf53 cJ15_checkIndex_7cf53 2 (some .int)) ({ frames := 1, cells := 0, slots := 0, locals := 22 } : Room) (va_Pc [.int (nI i), .int (nI n)] (PW D [])) (vp_Si (fun v => v = nI i)) 0 0 (fun _ => False) := by
  refine va_MetF (cc := cJ15_checkIndex_7cf53) (maxL := 2) (ret := (some .int)) (by decide +kernel) rfl ?_
  intro p e s m args below meth c s₁ B hml hv
  obtain ⟨rfl, hG, hP⟩ := hv
  have hx := B.exec
  have hb := B.bytes
  have hr := B.returns
  have hts : ∀ w ∈ wsL_law, w.before _ s = true := fun w h => atoms_spec (ws := (ws_ yJ15_checkIndex_7cf53 cJ15_checkIndex_7cf53 2 (some .int))) B.pre w (List.mem_cons_of_mem _ h)
  have hown : s.vm.findClass RJ15 = some m.cls := findClass_of_methodNamed B.named
  have hlk := B.notSynchronized
  have hC : CallFix p m c cJ15_checkIndex_7cf53 2 s _ wsL_law RJ15 := ⟨hx, hb, hml, hown, hts⟩
  have hl := lv_entry ([.int (nI i), .int (nI n)]) (n := 2) (Nat.le_of_ble_eq_true rfl)
  rw [lg_entry_eq]
  generalize (lg_sl ([.int (nI i), .int (nI n)]) ++ List.replicate (2 - (lg_sl ([.int (nI i), .int (nI n)])).length) Slot.unset).toArray = ls at hl ⊢
  have hl : lv_has ls 2 [(0, .int (nI i)), (1, .int (nI n))] := hl
  refine lv_iload_n hx hb dJ15_checkIndex_7cf53_0 rfl (lv_at hl 0 rfl) ?_
  refine lv_iload_n hx hb dJ15_checkIndex_7cf53_1 rfl (lv_at hl 1 rfl) ?_
  refine lv_null hx hb dJ15_checkIndex_7cf53_2 ?_
  have hP9 : va_P D cls [] s.heap := fun k q h => by simp at h
  refine vp_callSi (pS (rest := []) [.int (nI i), .int (nI n), .null] 3 hC (c_checkIndex3 l D (i := i) (n := n) (by omega) (by omega)) (gS mM_J15_105 mT_J3_checkIndex_8e157 mN_J3 mC_J3_checkIndex_8e157) (by decide +kernel) rfl rfl ⟨Nat.le_of_ble_eq_true rfl, Nat.le_of_ble_eq_true rfl⟩ hG hP9 rfl hl.1 rfl (Nat.le_of_ble_eq_true rfl) dJ15_checkIndex_7cf53_3 ⟨Nat.le_of_ble_eq_true rfl, Nat.le_of_ble_eq_true rfl⟩) (fun r3 h3 => ?_)
  obtain rfl : r3 = (nI i) := h3
  refine Ri hx hb hr hlk ?_ dJ15_checkIndex_7cf53_6
  exact rfl
set_option maxHeartbeats 4000000 in
set_option maxRecDepth 100000 in
theorem c_elementData (l : Launch) (D : va_G) {lo ea n : Nat} {mc : Int32} {k i : Nat} {f : Nat → Option Nat} (hi : i < n) (hn : n ≤ k) (hk : k < 2 ^ 31) : Met l yJx4a65c_elementData_915e3 (ws_ yJx4a65c_elementData_915e3 cJx4a65c_elementData_915e3 2 (some (.object "java/lang/Object"))) ({ frames := 0, cells := 0, slots := 0, locals := 0 } : Room) (va_Pc [.ref lo, .int (nI i)] (PW D [oO lo 7 [.int mc, .ref ea, .int (nI n)], aO D ea k f])) (va_Sq (fun v => v = f i)) 0 0 (fun _ => False) := by
  refine va_MetF (cc := cJx4a65c_elementData_915e3) (maxL := 2) (ret := (some (.object "java/lang/Object"))) (by decide +kernel) rfl ?_
  intro p e s m args below meth c s₁ B hml hv
  obtain ⟨rfl, hG, hP⟩ := hv
  have hx := B.exec
  have hb := B.bytes
  have hr := B.returns
  have hts : ∀ w ∈ wsL_law, w.before _ s = true := fun w h => atoms_spec (ws := (ws_ yJx4a65c_elementData_915e3 cJx4a65c_elementData_915e3 2 (some (.object "java/lang/Object")))) B.pre w (List.mem_cons_of_mem _ h)
  have hown : s.vm.findClass RJx4a65c = some m.cls := findClass_of_methodNamed B.named
  have hlk := B.notSynchronized
  have hC : CallFix p m c cJx4a65c_elementData_915e3 2 s _ wsL_law RJx4a65c := ⟨hx, hb, hml, hown, hts⟩
  have hl := lv_entry ([.ref lo, .int (nI i)]) (n := 2) (Nat.le_of_ble_eq_true rfl)
  rw [lg_entry_eq]
  generalize (lg_sl ([.ref lo, .int (nI i)]) ++ List.replicate (2 - (lg_sl ([.ref lo, .int (nI i)])).length) Slot.unset).toArray = ls at hl ⊢
  have hl : lv_has ls 2 [(0, .ref lo), (1, .int (nI i))] := hl
  refine lv_aload_n hx hb dJx4a65c_elementData_915e3_0 rfl (lv_at hl 0 rfl) ?_
  refine va_get (D := D) (ci := 7) (v := .ref ea) (C := RJx4a65c) (T := TJx4a65c) (N := 3) hx hb hts inlJx4a65c hown hG.K hP 0 rfl rfl 1 (by decide) (hts _ mF_Jx4a65c_9) (fun _ h9 => h9) rfl dJx4a65c_elementData_915e3_1 ?_
  refine lv_iload_n hx hb dJx4a65c_elementData_915e3_4 rfl (lv_at hl 1 rfl) ?_
  refine ald (n := k) (j := i) hx hb hG hP 1 4 rfl rfl (by omega) (by omega) dJx4a65c_elementData_915e3_5 ?_
  refine Rq hx hb hr hlk ?_ dJx4a65c_elementData_915e3_6
  exact rfl
set_option maxHeartbeats 4000000 in
set_option maxRecDepth 100000 in
theorem c_list_get (l : Launch) (D : va_G) {lo ea n : Nat} {mc : Int32} {k i : Nat} {f : Nat → Option Nat} (hi : i < n) (hn : n ≤ k) (hk : k < 2 ^ 31) : Met l yJx4a65c_get_915e3 (ws_ yJx4a65c_get_915e3 cJx4a65c_get_915e3 2 (some (.object "java/lang/Object"))) ({ frames := 2, cells := 0, slots := 0, locals := 60 } : Room) (va_Pc [.ref lo, .int (nI i)] (PW D [oO lo 7 [.int mc, .ref ea, .int (nI n)], aO D ea k f])) (va_Sq (fun v => v = f i)) 0 0 (fun _ => False) := by
  refine va_MetF (cc := cJx4a65c_get_915e3) (maxL := 2) (ret := (some (.object "java/lang/Object"))) (by decide +kernel) rfl ?_
  intro p e s m args below meth c s₁ B hml hv
  obtain ⟨rfl, hG, hP⟩ := hv
  have hx := B.exec
  have hb := B.bytes
  have hr := B.returns
  have hts : ∀ w ∈ wsL_law, w.before _ s = true := fun w h => atoms_spec (ws := (ws_ yJx4a65c_get_915e3 cJx4a65c_get_915e3 2 (some (.object "java/lang/Object")))) B.pre w (List.mem_cons_of_mem _ h)
  have hown : s.vm.findClass RJx4a65c = some m.cls := findClass_of_methodNamed B.named
  have hlk := B.notSynchronized
  have hC : CallFix p m c cJx4a65c_get_915e3 2 s _ wsL_law RJx4a65c := ⟨hx, hb, hml, hown, hts⟩
  have hl := lv_entry ([.ref lo, .int (nI i)]) (n := 2) (Nat.le_of_ble_eq_true rfl)
  rw [lg_entry_eq]
  generalize (lg_sl ([.ref lo, .int (nI i)]) ++ List.replicate (2 - (lg_sl ([.ref lo, .int (nI i)])).length) Slot.unset).toArray = ls at hl ⊢
  have hl : lv_has ls 2 [(0, .ref lo), (1, .int (nI i))] := hl
  refine lv_iload_n hx hb dJx4a65c_get_915e3_0 rfl (lv_at hl 1 rfl) ?_
  refine lv_aload_n hx hb dJx4a65c_get_915e3_1 rfl (lv_at hl 0 rfl) ?_
  refine va_get (D := D) (ci := 7) (v := .int (nI n)) (C := RJx4a65c) (T := TJx4a65c) (N := 3) hx hb hts inlJx4a65c hown hG.K hP 0 rfl rfl 2 (by decide) (hts _ mF_Jx4a65c_48) (fun _ h9 => h9) rfl dJx4a65c_get_915e3_2 ?_
  have hP9 : va_P D cls [] s.heap := fun k q h => by simp at h
  refine vp_callSi (pS (rest := []) [.int (nI i), .int (nI n)] 2 hC (c_checkIndex l D (i := i) (n := n) (by omega) (by omega)) (gS mM_Jx4a65c_118 mT_J15_checkIndex_7cf53 mN_J15 mC_J15_checkIndex_7cf53) (by decide +kernel) rfl rfl ⟨Nat.le_of_ble_eq_true rfl, Nat.le_of_ble_eq_true rfl⟩ hG hP9 rfl hl.1 rfl (Nat.le_of_ble_eq_true rfl) dJx4a65c_get_915e3_5 ⟨Nat.le_of_ble_eq_true rfl, Nat.le_of_ble_eq_true rfl⟩) (fun r5 h5 => ?_)
  obtain rfl : r5 = (nI i) := h5
  refine lv_pop hx hb dJx4a65c_get_915e3_8 rfl ?_
  refine lv_aload_n hx hb dJx4a65c_get_915e3_9 rfl (lv_at hl 0 rfl) ?_
  refine lv_iload_n hx hb dJx4a65c_get_915e3_10 rfl (lv_at hl 1 rfl) ?_
  have hP9 := hP
  refine va_csq (pV (rest := []) (qc := (RJx4a65c, TJx4a65c, 3)) [.int (nI i)] 1 hC (c_elementData l D (lo := lo) (i := i) (mc := mc) (ea := ea) (n := n) (k := k) (f := f) (by omega) (by omega) (by omega)) rfl (hP 0 _ rfl) (gV mM_Jx4a65c_123 mI_Jx4a65c_elementData_915e3 mS_Jx4a65c_elementData_915e3 mN_Jx4a65c mC_Jx4a65c_elementData_915e3) (by decide +kernel) rfl rfl ⟨Nat.le_of_ble_eq_true rfl, Nat.le_of_ble_eq_true rfl⟩ hG hP9 rfl hl.1 rfl (Nat.le_of_ble_eq_true rfl) dJx4a65c_get_915e3_11 ⟨Nat.le_of_ble_eq_true rfl, Nat.le_of_ble_eq_true rfl⟩) (fun r11 h11 => ?_)
  obtain rfl : r11 = (f i) := h11
  refine Rq hx hb hr hlk ?_ dJx4a65c_get_915e3_14
  exact rfl
set_option maxHeartbeats 4000000 in
set_option maxRecDepth 100000 in
theorem c_add3_Clip (l : Launch) (D : va_G) {lo ea n : Nat} {mc : Int32} {k : Nat} {f : Nat → Option Nat} {vo : Nat} {v0 v1 v2 v3 : Value} (hz0 : Nat) (hn : n < k) (hk : k < 2 ^ 31) : Met l yJx4a65c_add_72be8 (ws_ yJx4a65c_add_72be8 cJx4a65c_add_72be8 4 none) ({ frames := 4, cells := 0, slots := 0, locals := 110 } : Room) (va_Pc [.ref lo, .ref vo, .ref ea, .int (nI n)] (SW D [oO lo 7 [.int mc, .ref ea, .int (nI n)], aO D ea k f, oO vo 0 [v0, v1, v2, v3]] hz0)) (va_Qv (fun _ => True) (AT D (va_A [oO lo 7 [.int mc, .ref ea, .int (nI n)], aO D ea k f, oO vo 0 [v0, v1, v2, v3]] hz0) (fun _ : Unit => [oO lo 7 [.int mc, .ref ea, .int (nI (n + 1))], aO D ea k (va_up f n (some vo)), oO vo 0 [v0, v1, v2, v3]])) (va_A [oO lo 7 [.int mc, .ref ea, .int (nI n)], aO D ea k f, oO vo 0 [v0, v1, v2, v3]] hz0)) 0 0 (va_A [oO lo 7 [.int mc, .ref ea, .int (nI n)], aO D ea k f, oO vo 0 [v0, v1, v2, v3]] hz0) := by
  refine va_MetF (cc := cJx4a65c_add_72be8) (maxL := 4) (ret := none) (by decide +kernel) rfl ?_
  intro p e s m args below meth c s₁ B hml hv
  obtain ⟨rfl, hsz, hG, hP, hD0⟩ := hv
  have hx := B.exec
  have hb := B.bytes
  have hr := B.returns
  have hts : ∀ w ∈ wsL_law, w.before _ s = true := fun w h => atoms_spec (ws := (ws_ yJx4a65c_add_72be8 cJx4a65c_add_72be8 4 none)) B.pre w (List.mem_cons_of_mem _ h)
  have hown : s.vm.findClass RJx4a65c = some m.cls := findClass_of_methodNamed B.named
  have hlk := B.notSynchronized
  have hC : CallFix p m c cJx4a65c_add_72be8 4 s _ wsL_law RJx4a65c := ⟨hx, hb, hml, hown, hts⟩
  subst hsz
  have hD := hD0.self (sz := s.heap.size)
  generalize hAe : va_A [oO lo 7 [.int mc, .ref ea, .int (nI n)], aO D ea k f, oO vo 0 [v0, v1, v2, v3]] s.heap.size = A at hD ⊢
  have hA : ∀ q : Nat, s.heap.size ≤ q → A q := fun q h => by rw [← hAe]; exact Or.inr h
  have hS : va_S A s.heap s.heap [] := va_S.rf
  obtain ⟨H, hHe⟩ : ∃ H, H = s.heap := ⟨_, rfl⟩
  rw [← hHe] at hP
  have hS : va_S A s.heap H [] := by rw [hHe]; exact hS
  have hl := lv_entry ([.ref lo, .ref vo, .ref ea, .int (nI n)]) (n := 4) (Nat.le_of_ble_eq_true rfl)
  rw [lg_entry_eq]
  generalize (lg_sl ([.ref lo, .ref vo, .ref ea, .int (nI n)]) ++ List.replicate (4 - (lg_sl ([.ref lo, .ref vo, .ref ea, .int (nI n)])).length) Slot.unset).toArray = ls at hl ⊢
  have hl : lv_has ls 4 [(0, .ref lo), (1, .ref vo), (2, .ref ea), (3, .int (nI n))] := hl
  rw [← hHe]
  refine lv_iload_n hx hb dJx4a65c_add_72be8_0 rfl (lv_at hl 3 rfl) ?_
  refine lv_aload_n hx hb dJx4a65c_add_72be8_1 rfl (lv_at hl 2 rfl) ?_
  refine va_alen (v := nI k) hx hb hG.K hP 1 4 rfl rfl rfl dJx4a65c_add_72be8_2 ?_
  refine lv_icmp_ne (tgt := 11) hx hb dJx4a65c_add_72be8_3 (by decide) (fun _ => ?_) (fun h9 => absurd ((nI_eq (a := n) (b := k) (by omega) (by omega)).mp h9) (by omega))
  refine lv_aload_n hx hb dJx4a65c_add_72be8_11 rfl (lv_at hl 2 rfl) ?_
  refine lv_iload_n hx hb dJx4a65c_add_72be8_12 rfl (lv_at hl 3 rfl) ?_
  refine lv_aload_n hx hb dJx4a65c_add_72be8_13 rfl (lv_at hl 1 rfl) ?_
  refine aso (n := k) (j := n) (ci := 0) hx hb hG hP hD hS 1 2 rfl rfl rfl (gkC hG 0 rfl) (by omega) (by omega) dJx4a65c_add_72be8_14 (fun H locs hP hD hS => ?_)
  have hP : va_P D cls [oO lo 7 [.int mc, .ref ea, .int (nI n)], aO D ea k (va_up f n (some vo)), oO vo 0 [v0, v1, v2, v3]] H := hP
  have hD : va_D A [oO lo 7 [.int mc, .ref ea, .int (nI n)], aO D ea k (va_up f n (some vo)), oO vo 0 [v0, v1, v2, v3]] := hD
  refine lv_aload_n hx hb dJx4a65c_add_72be8_15 rfl (lv_at hl 0 rfl) ?_
  refine lv_iload_n hx hb dJx4a65c_add_72be8_16 rfl (lv_at hl 3 rfl) ?_
  refine lv_iconst (v := 1) hx hb dJx4a65c_add_72be8_17 (by decide) ?_
  refine lv_iadd hx hb dJx4a65c_add_72be8_18 ?_
  refine tpi (y := nI (n + 1)) (nI_add n 1) ?_
  refine va_put (D := D) (ci := 7) (v := .int (nI (n + 1))) (ty := .int) (C := RJx4a65c) (T := TJx4a65c) (N := 3) hx hb hts inlJx4a65c tyJx4a65c tyJx4a65c_ok nmJx4a65c hown hG.K hP hD hS 0 rfl rfl 2 (by decide) (hts _ mF_Jx4a65c_48) (fun _ h9 => h9) rfl (by decide +kernel) rfl rfl (Nat.le_of_ble_eq_true rfl) dJx4a65c_add_72be8_19 (fun H locs hP hD hS => ?_)
  have hP : va_P D cls [oO lo 7 [.int mc, .ref ea, .int (nI (n + 1))], aO D ea k (va_up f n (some vo)), oO vo 0 [v0, v1, v2, v3]] H := hP
  have hD : va_D A [oO lo 7 [.int mc, .ref ea, .int (nI (n + 1))], aO D ea k (va_up f n (some vo)), oO vo 0 [v0, v1, v2, v3]] := hD
  refine Wv () hx hb hr hlk ?_ hP hD hS (Nat.le_of_ble_eq_true rfl) (by first | exact Nat.le_of_ble_eq_true rfl | exact Nat.le_of_eq (Nat.zero_add _)) dJx4a65c_add_72be8_22
  exact trivial
set_option maxHeartbeats 4000000 in
set_option maxRecDepth 100000 in
theorem c_add_Clip (l : Launch) (D : va_G) {lo ea n : Nat} {mc : Int32} {k : Nat} {f : Nat → Option Nat} {vo : Nat} {v0 v1 v2 v3 : Value} (hz0 : Nat) (hn : n < k) (hk : k < 2 ^ 31) : Met l yJx4a65c_add_9ea2d (ws_ yJx4a65c_add_9ea2d cJx4a65c_add_9ea2d 2 (some .boolean)) ({ frames := 5, cells := 0, slots := 0, locals := 145 } : Room) (va_Pc [.ref lo, .ref vo] (SW D [oO lo 7 [.int mc, .ref ea, .int (nI n)], aO D ea k f, oO vo 0 [v0, v1, v2, v3]] hz0)) (va_Qi (fun r _ => r = 1) (AT D (va_A [oO lo 7 [.int mc, .ref ea, .int (nI n)], aO D ea k f, oO vo 0 [v0, v1, v2, v3]] hz0) (fun _ : Unit => [oO lo 7 [.int (mc + 1), .ref ea, .int (nI (n + 1))], aO D ea k (va_up f n (some vo)), oO vo 0 [v0, v1, v2, v3]])) (va_A [oO lo 7 [.int mc, .ref ea, .int (nI n)], aO D ea k f, oO vo 0 [v0, v1, v2, v3]] hz0)) 0 0 (va_A [oO lo 7 [.int mc, .ref ea, .int (nI n)], aO D ea k f, oO vo 0 [v0, v1, v2, v3]] hz0) := by
  refine va_MetF (cc := cJx4a65c_add_9ea2d) (maxL := 2) (ret := (some .boolean)) (by decide +kernel) rfl ?_
  intro p e s m args below meth c s₁ B hml hv
  obtain ⟨rfl, hsz, hG, hP, hD0⟩ := hv
  have hx := B.exec
  have hb := B.bytes
  have hr := B.returns
  have hts : ∀ w ∈ wsL_law, w.before _ s = true := fun w h => atoms_spec (ws := (ws_ yJx4a65c_add_9ea2d cJx4a65c_add_9ea2d 2 (some .boolean))) B.pre w (List.mem_cons_of_mem _ h)
  have hown : s.vm.findClass RJx4a65c = some m.cls := findClass_of_methodNamed B.named
  have hlk := B.notSynchronized
  have hC : CallFix p m c cJx4a65c_add_9ea2d 2 s _ wsL_law RJx4a65c := ⟨hx, hb, hml, hown, hts⟩
  subst hsz
  have hD := hD0.self (sz := s.heap.size)
  generalize hAe : va_A [oO lo 7 [.int mc, .ref ea, .int (nI n)], aO D ea k f, oO vo 0 [v0, v1, v2, v3]] s.heap.size = A at hD ⊢
  have hA : ∀ q : Nat, s.heap.size ≤ q → A q := fun q h => by rw [← hAe]; exact Or.inr h
  have hS : va_S A s.heap s.heap [] := va_S.rf
  obtain ⟨H, hHe⟩ : ∃ H, H = s.heap := ⟨_, rfl⟩
  rw [← hHe] at hP
  have hS : va_S A s.heap H [] := by rw [hHe]; exact hS
  have hl := lv_entry ([.ref lo, .ref vo]) (n := 2) (Nat.le_of_ble_eq_true rfl)
  rw [lg_entry_eq]
  generalize (lg_sl ([.ref lo, .ref vo]) ++ List.replicate (2 - (lg_sl ([.ref lo, .ref vo])).length) Slot.unset).toArray = ls at hl ⊢
  have hl : lv_has ls 2 [(0, .ref lo), (1, .ref vo)] := hl
  rw [← hHe]
  refine lv_aload_n hx hb dJx4a65c_add_9ea2d_0 rfl (lv_at hl 0 rfl) ?_
  refine lv_dup hx hb dJx4a65c_add_9ea2d_1 rfl ?_
  refine va_get (D := D) (ci := 7) (v := .int mc) (C := RJx4a65c) (T := TJx4a65c) (N := 3) hx hb hts inlJx4a65c hown hG.K hP 0 rfl rfl 0 (by decide) (hts _ mF_Jx4a65c_63) (fun x h9 => u_same (hts _ mZ_) x h9) rfl dJx4a65c_add_9ea2d_2 ?_
  refine lv_iconst (v := 1) hx hb dJx4a65c_add_9ea2d_5 (by decide) ?_
  refine lv_iadd hx hb dJx4a65c_add_9ea2d_6 ?_
  refine va_put (D := D) (ci := 7) (v := .int (mc + 1)) (ty := .int) (C := RJx4a65c) (T := TJx4a65c) (N := 3) hx hb hts inlJx4a65c tyJx4a65c tyJx4a65c_ok nmJx4a65c hown hG.K hP hD hS 0 rfl rfl 0 (by decide) (hts _ mF_Jx4a65c_63) (fun x h9 => u_same (hts _ mZ_) x h9) rfl (by decide +kernel) rfl rfl (Nat.le_of_ble_eq_true rfl) dJx4a65c_add_9ea2d_7 (fun H locs hP hD hS => ?_)
  have hP : va_P D cls [oO lo 7 [.int (mc + 1), .ref ea, .int (nI n)], aO D ea k f, oO vo 0 [v0, v1, v2, v3]] H := hP
  have hD : va_D A [oO lo 7 [.int (mc + 1), .ref ea, .int (nI n)], aO D ea k f, oO vo 0 [v0, v1, v2, v3]] := hD
  refine lv_aload_n hx hb dJx4a65c_add_9ea2d_10 rfl (lv_at hl 0 rfl) ?_
  refine lv_aload_n hx hb dJx4a65c_add_9ea2d_11 rfl (lv_at hl 1 rfl) ?_
  refine lv_aload_n hx hb dJx4a65c_add_9ea2d_12 rfl (lv_at hl 0 rfl) ?_
  refine va_get (D := D) (ci := 7) (v := .ref ea) (C := RJx4a65c) (T := TJx4a65c) (N := 3) hx hb hts inlJx4a65c hown hG.K hP 0 rfl rfl 1 (by decide) (hts _ mF_Jx4a65c_9) (fun _ h9 => h9) rfl dJx4a65c_add_9ea2d_13 ?_
  refine lv_aload_n hx hb dJx4a65c_add_9ea2d_16 rfl (lv_at hl 0 rfl) ?_
  refine va_get (D := D) (ci := 7) (v := .int (nI n)) (C := RJx4a65c) (T := TJx4a65c) (N := 3) hx hb hts inlJx4a65c hown hG.K hP 0 rfl rfl 2 (by decide) (hts _ mF_Jx4a65c_48) (fun _ h9 => h9) rfl dJx4a65c_add_9ea2d_17 ?_
  have hP9 := hP.sub (ws' := [oO lo 7 [.int (mc + 1), .ref ea, .int (nI n)], aO D ea k f, oO vo 0 [v0, v1, v2, v3]]) [0, 1, 2] rfl
  have hD9 := (hD.sub (ws' := [oO lo 7 [.int (mc + 1), .ref ea, .int (nI n)], aO D ea k f, oO vo 0 [v0, v1, v2, v3]]) [0, 1, 2] (by decide) rfl).weaken (B := fun _ => True) (fun _ _ _ _ => trivial)
  refine kv (wr := []) (rV (rest := []) (qc := (RJx4a65c, TJx4a65c, 3)) [.ref vo, .ref ea, .int (nI n)] 3 0 0 hC (c_add3_Clip l D (lo := lo) (vo := vo) (ea := ea) (n := n) (mc := mc + 1) (k := k) (f := f) (v0 := v0) (v1 := v1) (v2 := v2) (v3 := v3) (hz0 := H.size) (by omega) (by omega)) rfl (hP 0 _ rfl) (gV mM_Jx4a65c_131 mI_Jx4a65c_add_72be8 mS_Jx4a65c_add_72be8 mN_Jx4a65c mC_Jx4a65c_add_72be8) (by decide +kernel) rfl rfl ⟨Nat.le_of_ble_eq_true rfl, Nat.le_of_ble_eq_true rfl⟩ hG hP9 hD9 rfl hl.1 rfl (Nat.le_of_ble_eq_true rfl) dJx4a65c_add_9ea2d_20 ⟨Nat.le_of_ble_eq_true rfl, Nat.le_of_ble_eq_true rfl⟩) hP hD hS hA [0, 1, 2] [] rfl rfl (by decide) (by decide) (fun u20 H locs h20 hP hD hS hz hfr => ?_)
  have hP : va_P D cls [oO lo 7 [.int (mc + 1), .ref ea, .int (nI (n + 1))], aO D ea k (va_up f n (some vo)), oO vo 0 [v0, v1, v2, v3]] H := hP
  have hD : va_D A [oO lo 7 [.int (mc + 1), .ref ea, .int (nI (n + 1))], aO D ea k (va_up f n (some vo)), oO vo 0 [v0, v1, v2, v3]] := hD
  refine lv_iconst (v := 1) hx hb dJx4a65c_add_9ea2d_23 (by decide) ?_
  refine Wz () hx hb hr hlk (by first | rfl | decide) ?_ hP hD hS (Nat.le_of_ble_eq_true rfl) (by first | exact Nat.le_of_ble_eq_true rfl | exact Nat.le_of_eq (Nat.zero_add _)) dJx4a65c_add_9ea2d_24
  exact rfl
set_option maxHeartbeats 4000000 in
set_option maxRecDepth 100000 in
theorem c_grow1 (l : Launch) (D : va_G) {lo z : Nat} {mc : Int32} (hz0 : Nat)  : Met l yJx4a65c_grow_92f84 (ws_ yJx4a65c_grow_92f84 cJx4a65c_grow_92f84 4 (some (.array (.object "java/lang/Object")))) ({ frames := 1, cells := 1, slots := 10, locals := 24 } : Room) (va_Pc [.ref lo, .int 1] (SX D [oO lo 7 [.int mc, .ref z, .int (nI 0)]] hz0 (ZL z (va_A [oO lo 7 [.int mc, .ref z, .int (nI 0)]] hz0)))) (va_Qq (fun r u => r = some u) (AT D (va_A [oO lo 7 [.int mc, .ref z, .int (nI 0)]] hz0) (fun ea : Nat => [oO lo 7 [.int mc, .ref ea, .int (nI 0)], aO D ea 10 (fun _ => none)])) (va_A [oO lo 7 [.int mc, .ref z, .int (nI 0)]] hz0)) 1 10 (va_A [oO lo 7 [.int mc, .ref z, .int (nI 0)]] hz0) := by
  refine va_MetF (cc := cJx4a65c_grow_92f84) (maxL := 4) (ret := (some (.array (.object "java/lang/Object")))) (by decide +kernel) rfl ?_
  intro p e s m args below meth c s₁ B hml hv
  obtain ⟨rfl, ⟨hsz, hG, hP, hD0⟩, hX⟩ := hv
  have hx := B.exec
  have hb := B.bytes
  have hr := B.returns
  have hts : ∀ w ∈ wsL_law, w.before _ s = true := fun w h => atoms_spec (ws := (ws_ yJx4a65c_grow_92f84 cJx4a65c_grow_92f84 4 (some (.array (.object "java/lang/Object"))))) B.pre w (List.mem_cons_of_mem _ h)
  have hown : s.vm.findClass RJx4a65c = some m.cls := findClass_of_methodNamed B.named
  have hlk := B.notSynchronized
  have hC : CallFix p m c cJx4a65c_grow_92f84 4 s _ wsL_law RJx4a65c := ⟨hx, hb, hml, hown, hts⟩
  subst hsz
  have hD := hD0.self (sz := s.heap.size)
  generalize hAe : va_A [oO lo 7 [.int mc, .ref z, .int (nI 0)]] s.heap.size = A at hD hX ⊢
  have hA : ∀ q : Nat, s.heap.size ≤ q → A q := fun q h => by rw [← hAe]; exact Or.inr h
  have hS : va_S A s.heap s.heap [] := va_S.rf
  obtain ⟨H, hHe⟩ : ∃ H, H = s.heap := ⟨_, rfl⟩
  rw [← hHe] at hP
  have hS : va_S A s.heap H [] := by rw [hHe]; exact hS
  have hl := lv_entry ([.ref lo, .int 1]) (n := 4) (Nat.le_of_ble_eq_true rfl)
  rw [lg_entry_eq]
  generalize (lg_sl ([.ref lo, .int 1]) ++ List.replicate (4 - (lg_sl ([.ref lo, .int 1])).length) Slot.unset).toArray = ls at hl ⊢
  have hl : lv_has ls 4 [(0, .ref lo), (1, .int 1)] := hl
  rw [← hHe]
  refine lv_aload_n hx hb dJx4a65c_grow_92f84_0 rfl (lv_at hl 0 rfl) ?_
  refine va_get (D := D) (ci := 7) (v := .ref z) (C := RJx4a65c) (T := TJx4a65c) (N := 3) hx hb hts inlJx4a65c hown hG.K hP 0 rfl rfl 1 (by decide) (hts _ mF_Jx4a65c_9) (fun _ h9 => h9) rfl dJx4a65c_grow_92f84_1 ?_
  refine va_tlen (v := 0) hx hb hX.2 hS rfl dJx4a65c_grow_92f84_4 ?_
  refine lv_istore_n (lv' := [(2, .int 0), (0, .ref lo), (1, .int 1)]) hx hb dJx4a65c_grow_92f84_5 rfl hl (by decide) rfl (fun ls hl => ?_)
  refine lv_iload_n hx hb dJx4a65c_grow_92f84_6 rfl (lv_at hl 0 rfl) ?_
  refine lv_if_gt (tgt := 20) hx hb dJx4a65c_grow_92f84_7 (by decide) (fun h9 => absurd h9 (by decide)) (fun _ => ?_)
  refine lv_aload_n hx hb dJx4a65c_grow_92f84_10 rfl (lv_at hl 1 rfl) ?_
  refine va_get (D := D) (ci := 7) (v := .ref z) (C := RJx4a65c) (T := TJx4a65c) (N := 3) hx hb hts inlJx4a65c hown hG.K hP 0 rfl rfl 1 (by decide) (hts _ mF_Jx4a65c_9) (fun _ h9 => h9) rfl dJx4a65c_grow_92f84_11 ?_
  refine va_gets hx hb hX.1 hS hown (hts _ mF_Jx4a65c_39) (fun _ h9 => h9) dJx4a65c_grow_92f84_14 ?_
  refine lv_acmp_eq (rx := some z) (ry := some z) (tgt := 45) hx hb dJx4a65c_grow_92f84_17 (by decide) (fun _ => ?_) (fun h9 => absurd rfl h9)
  refine lv_aload_n hx hb dJx4a65c_grow_92f84_45 rfl (lv_at hl 1 rfl) ?_
  refine lv_bipush (v := 10) hx hb dJx4a65c_grow_92f84_46 (by decide) ?_
  refine lv_iload_n hx hb dJx4a65c_grow_92f84_48 rfl (lv_at hl 2 rfl) ?_
  refine va_mmax hx hb (by rw [hml]; exact hl.1.symm) hown (hts _ mM_Jx4a65c_79) (hts _ mT_Lib_Math_max_name) (hts _ mN__java_lang_Math_) (hts _ mC_Lib_Math_max_name) (Nat.le_of_ble_eq_true rfl) (Nat.le_of_ble_eq_true rfl) (Nat.le_of_ble_eq_true rfl) (Nat.le_of_ble_eq_true rfl) dJx4a65c_grow_92f84_49 ?_
  refine tpi (y := 10) (by decide) ?_
  refine narO (N := 10) hx hb hown (hts _ mK_Jx4a65c_7) hG hP hD hS hA (by decide) (by decide) (by omega) (Nat.le_of_ble_eq_true rfl) (Nat.le_of_ble_eq_true rfl) dJx4a65c_grow_92f84_52 (fun ea H hP hD hS => ?_)
  have hP : va_P D cls [oO lo 7 [.int mc, .ref z, .int (nI 0)], aO D ea 10 (fun _ => none)] H := hP
  have hD : va_D A [oO lo 7 [.int mc, .ref z, .int (nI 0)], aO D ea 10 (fun _ => none)] := hD
  refine lv_dup_x1 hx hb dJx4a65c_grow_92f84_55 rfl rfl ?_
  refine va_put (D := D) (ci := 7) (v := .ref ea) (ty := (.array (.object "java/lang/Object"))) (C := RJx4a65c) (T := TJx4a65c) (N := 3) hx hb hts inlJx4a65c tyJx4a65c tyJx4a65c_ok nmJx4a65c hown hG.K hP hD hS 0 rfl rfl 1 (by decide) (hts _ mF_Jx4a65c_9) (fun _ h9 => h9) rfl (by decide +kernel) rfl rfl (Nat.le_of_ble_eq_true rfl) dJx4a65c_grow_92f84_56 (fun H locs hP hD hS => ?_)
  have hP : va_P D cls [oO lo 7 [.int mc, .ref ea, .int (nI 0)], aO D ea 10 (fun _ => none)] H := hP
  have hD : va_D A [oO lo 7 [.int mc, .ref ea, .int (nI 0)], aO D ea 10 (fun _ => none)] := hD
  refine Wq (v := some ea) ea hx hb hr hlk (by first | exact Or.inl ⟨_, rfl⟩ | exact Or.inr ⟨_, rfl⟩) ?_ hP hD hS (Nat.le_of_ble_eq_true rfl) (by first | exact Nat.le_of_ble_eq_true rfl | exact Nat.le_of_eq (Nat.zero_add _)) dJx4a65c_grow_92f84_59
  exact rfl
set_option maxHeartbeats 4000000 in
set_option maxRecDepth 100000 in
theorem c_grow0 (l : Launch) (D : va_G) {lo z : Nat} {mc : Int32} (hz0 : Nat)  : Met l yJx4a65c_grow_d5877 (ws_ yJx4a65c_grow_d5877 cJx4a65c_grow_d5877 1 (some (.array (.object "java/lang/Object")))) ({ frames := 2, cells := 1, slots := 10, locals := 50 } : Room) (va_Pc [.ref lo] (SX D [oO lo 7 [.int mc, .ref z, .int (nI 0)]] hz0 (ZL z (va_A [oO lo 7 [.int mc, .ref z, .int (nI 0)]] hz0)))) (va_Qq (fun r u => r = some u) (AT D (va_A [oO lo 7 [.int mc, .ref z, .int (nI 0)]] hz0) (fun ea : Nat => [oO lo 7 [.int mc, .ref ea, .int (nI 0)], aO D ea 10 (fun _ => none)])) (va_A [oO lo 7 [.int mc, .ref z, .int (nI 0)]] hz0)) 1 10 (va_A [oO lo 7 [.int mc, .ref z, .int (nI 0)]] hz0) := by
  refine va_MetF (cc := cJx4a65c_grow_d5877) (maxL := 1) (ret := (some (.array (.object "java/lang/Object")))) (by decide +kernel) rfl ?_
  intro p e s m args below meth c s₁ B hml hv
  obtain ⟨rfl, ⟨hsz, hG, hP, hD0⟩, hX⟩ := hv
  have hx := B.exec
  have hb := B.bytes
  have hr := B.returns
  have hts : ∀ w ∈ wsL_law, w.before _ s = true := fun w h => atoms_spec (ws := (ws_ yJx4a65c_grow_d5877 cJx4a65c_grow_d5877 1 (some (.array (.object "java/lang/Object"))))) B.pre w (List.mem_cons_of_mem _ h)
  have hown : s.vm.findClass RJx4a65c = some m.cls := findClass_of_methodNamed B.named
  have hlk := B.notSynchronized
  have hC : CallFix p m c cJx4a65c_grow_d5877 1 s _ wsL_law RJx4a65c := ⟨hx, hb, hml, hown, hts⟩
  subst hsz
  have hD := hD0.self (sz := s.heap.size)
  generalize hAe : va_A [oO lo 7 [.int mc, .ref z, .int (nI 0)]] s.heap.size = A at hD hX ⊢
  have hA : ∀ q : Nat, s.heap.size ≤ q → A q := fun q h => by rw [← hAe]; exact Or.inr h
  have hS : va_S A s.heap s.heap [] := va_S.rf
  obtain ⟨H, hHe⟩ : ∃ H, H = s.heap := ⟨_, rfl⟩
  rw [← hHe] at hP
  have hS : va_S A s.heap H [] := by rw [hHe]; exact hS
  have hl := lv_entry ([.ref lo]) (n := 1) (Nat.le_of_ble_eq_true rfl)
  rw [lg_entry_eq]
  generalize (lg_sl ([.ref lo]) ++ List.replicate (1 - (lg_sl ([.ref lo])).length) Slot.unset).toArray = ls at hl ⊢
  have hl : lv_has ls 1 [(0, .ref lo)] := hl
  rw [← hHe]
  refine lv_aload_n hx hb dJx4a65c_grow_d5877_0 rfl (lv_at hl 0 rfl) ?_
  refine lv_aload_n hx hb dJx4a65c_grow_d5877_1 rfl (lv_at hl 0 rfl) ?_
  refine va_get (D := D) (ci := 7) (v := .int (nI 0)) (C := RJx4a65c) (T := TJx4a65c) (N := 3) hx hb hts inlJx4a65c hown hG.K hP 0 rfl rfl 2 (by decide) (hts _ mF_Jx4a65c_48) (fun _ h9 => h9) rfl dJx4a65c_grow_d5877_2 ?_
  refine lv_iconst (v := 1) hx hb dJx4a65c_grow_d5877_5 (by decide) ?_
  refine lv_iadd hx hb dJx4a65c_grow_d5877_6 ?_
  refine tpi (y := 1) (by decide) ?_
  have hP9 := hP.sub (ws' := [oO lo 7 [.int mc, .ref z, .int (nI 0)]]) [0] rfl
  have hD9 := (hD.sub (ws' := [oO lo 7 [.int mc, .ref z, .int (nI 0)]]) [0] (by decide) rfl).weaken (B := fun _ => True) (fun _ _ _ _ => trivial)
  refine kq (wr := []) (rVX (ZL.blind) (ZL.pre hX hS (va_free' hD hS hA [0] rfl).2) (rest := []) (qc := (RJx4a65c, TJx4a65c, 3)) [.int 1] 1 1 10 hC (c_grow1 l D (lo := lo) (mc := mc) (z := z) (hz0 := H.size) ) rfl (hP 0 _ rfl) (gV mM_Jx4a65c_69 mI_Jx4a65c_grow_92f84 mS_Jx4a65c_grow_92f84 mN_Jx4a65c mC_Jx4a65c_grow_92f84) (by decide +kernel) rfl rfl ⟨Nat.le_of_ble_eq_true rfl, Nat.le_of_ble_eq_true rfl⟩ hG hP9 hD9 rfl hl.1 rfl (Nat.le_of_ble_eq_true rfl) dJx4a65c_grow_d5877_7 ⟨Nat.le_of_ble_eq_true rfl, Nat.le_of_ble_eq_true rfl⟩) hP hD hS hA [0] [] rfl rfl (by decide) (by decide) (fun r7 u7 H locs h7 hP hD hS hz hfr => ?_)
  obtain ⟨ea, rfl⟩ : ∃ z, z = u7 := ⟨_, rfl⟩
  have hP : va_P D cls [oO lo 7 [.int mc, .ref ea, .int (nI 0)], aO D ea 10 (fun _ => none)] H := hP
  have hD : va_D A [oO lo 7 [.int mc, .ref ea, .int (nI 0)], aO D ea 10 (fun _ => none)] := hD
  subst h7
  refine tpv (y := .ref ea) rfl ?_
  refine Wq (v := some ea) ea hx hb hr hlk (by first | exact Or.inl ⟨_, rfl⟩ | exact Or.inr ⟨_, rfl⟩) ?_ hP hD hS (Nat.le_of_ble_eq_true rfl) (by first | exact Nat.le_of_ble_eq_true rfl | exact Nat.le_of_eq (Nat.zero_add _)) dJx4a65c_grow_d5877_10
  exact rfl
set_option maxHeartbeats 4000000 in
set_option maxRecDepth 100000 in
theorem c_add3_first_Clip (l : Launch) (D : va_G) {lo z : Nat} {mc : Int32} {vo : Nat} {v0 v1 v2 v3 : Value} (hz0 : Nat)  : Met l yJx4a65c_add_72be8 (ws_ yJx4a65c_add_72be8 cJx4a65c_add_72be8 4 none) ({ frames := 4, cells := 1, slots := 10, locals := 110 } : Room) (va_Pc [.ref lo, .ref vo, .ref z, .int (nI 0)] (SX D [oO lo 7 [.int mc, .ref z, .int (nI 0)], oO vo 0 [v0, v1, v2, v3]] hz0 (ZL z (va_A [oO lo 7 [.int mc, .ref z, .int (nI 0)], oO vo 0 [v0, v1, v2, v3]] hz0)))) (va_Qv (fun _ => True) (AT D (va_A [oO lo 7 [.int mc, .ref z, .int (nI 0)], oO vo 0 [v0, v1, v2, v3]] hz0) (fun ea : Nat => [oO lo 7 [.int mc, .ref ea, .int (nI 1)], aO D ea 10 (va_up (fun _ => none) 0 (some vo)), oO vo 0 [v0, v1, v2, v3]])) (va_A [oO lo 7 [.int mc, .ref z, .int (nI 0)], oO vo 0 [v0, v1, v2, v3]] hz0)) 1 10 (va_A [oO lo 7 [.int mc, .ref z, .int (nI 0)], oO vo 0 [v0, v1, v2, v3]] hz0) := by
  refine va_MetF (cc := cJx4a65c_add_72be8) (maxL := 4) (ret := none) (by decide +kernel) rfl ?_
  intro p e s m args below meth c s₁ B hml hv
  obtain ⟨rfl, ⟨hsz, hG, hP, hD0⟩, hX⟩ := hv
  have hx := B.exec
  have hb := B.bytes
  have hr := B.returns
  have hts : ∀ w ∈ wsL_law, w.before _ s = true := fun w h => atoms_spec (ws := (ws_ yJx4a65c_add_72be8 cJx4a65c_add_72be8 4 none)) B.pre w (List.mem_cons_of_mem _ h)
  have hown : s.vm.findClass RJx4a65c = some m.cls := findClass_of_methodNamed B.named
  have hlk := B.notSynchronized
  have hC : CallFix p m c cJx4a65c_add_72be8 4 s _ wsL_law RJx4a65c := ⟨hx, hb, hml, hown, hts⟩
  subst hsz
  have hD := hD0.self (sz := s.heap.size)
  generalize hAe : va_A [oO lo 7 [.int mc, .ref z, .int (nI 0)], oO vo 0 [v0, v1, v2, v3]] s.heap.size = A at hD hX ⊢
  have hA : ∀ q : Nat, s.heap.size ≤ q → A q := fun q h => by rw [← hAe]; exact Or.inr h
  have hS : va_S A s.heap s.heap [] := va_S.rf
  obtain ⟨H, hHe⟩ : ∃ H, H = s.heap := ⟨_, rfl⟩
  rw [← hHe] at hP
  have hS : va_S A s.heap H [] := by rw [hHe]; exact hS
  have hl := lv_entry ([.ref lo, .ref vo, .ref z, .int (nI 0)]) (n := 4) (Nat.le_of_ble_eq_true rfl)
  rw [lg_entry_eq]
  generalize (lg_sl ([.ref lo, .ref vo, .ref z, .int (nI 0)]) ++ List.replicate (4 - (lg_sl ([.ref lo, .ref vo, .ref z, .int (nI 0)])).length) Slot.unset).toArray = ls at hl ⊢
  have hl : lv_has ls 4 [(0, .ref lo), (1, .ref vo), (2, .ref z), (3, .int (nI 0))] := hl
  rw [← hHe]
  refine lv_iload_n hx hb dJx4a65c_add_72be8_0 rfl (lv_at hl 3 rfl) ?_
  refine lv_aload_n hx hb dJx4a65c_add_72be8_1 rfl (lv_at hl 2 rfl) ?_
  refine va_tlen (v := 0) hx hb hX.2 hS rfl dJx4a65c_add_72be8_2 ?_
  refine lv_icmp_ne (tgt := 11) hx hb dJx4a65c_add_72be8_3 (by decide) (fun h9 => (h9 (by decide)).elim) (fun _ => ?_)
  refine lv_aload_n hx hb dJx4a65c_add_72be8_6 rfl (lv_at hl 0 rfl) ?_
  have hP9 := hP.sub (ws' := [oO lo 7 [.int mc, .ref z, .int (nI 0)]]) [0] rfl
  have hD9 := (hD.sub (ws' := [oO lo 7 [.int mc, .ref z, .int (nI 0)]]) [0] (by decide) rfl).weaken (B := fun _ => True) (fun _ _ _ _ => trivial)
  refine kq (wr := [oO vo 0 [v0, v1, v2, v3]]) (rVX (ZL.blind) (ZL.pre hX hS (va_free' hD hS hA [0] rfl).2) (rest := []) (qc := (RJx4a65c, TJx4a65c, 3)) [] 0 1 10 hC (c_grow0 l D (lo := lo) (mc := mc) (z := z) (hz0 := H.size) ) rfl (hP 0 _ rfl) (gV mM_Jx4a65c_129 mI_Jx4a65c_grow_d5877 mS_Jx4a65c_grow_d5877 mN_Jx4a65c mC_Jx4a65c_grow_d5877) (by decide +kernel) rfl rfl ⟨Nat.le_of_ble_eq_true rfl, Nat.le_of_ble_eq_true rfl⟩ hG hP9 hD9 rfl hl.1 rfl (Nat.le_of_ble_eq_true rfl) dJx4a65c_add_72be8_7 ⟨Nat.le_of_ble_eq_true rfl, Nat.le_of_ble_eq_true rfl⟩) hP hD hS hA [0] [1] rfl rfl (by decide) (by decide) (fun r7 u7 H locs h7 hP hD hS hz hfr => ?_)
  obtain ⟨ea, rfl⟩ : ∃ z, z = u7 := ⟨_, rfl⟩
  have hP : va_P D cls [oO vo 0 [v0, v1, v2, v3], oO lo 7 [.int mc, .ref ea, .int (nI 0)], aO D ea 10 (fun _ => none)] H := hP
  have hD : va_D A [oO vo 0 [v0, v1, v2, v3], oO lo 7 [.int mc, .ref ea, .int (nI 0)], aO D ea 10 (fun _ => none)] := hD
  subst h7
  refine tpv (y := .ref ea) rfl ?_
  refine lv_astore_n (lv' := [(2, .ref ea), (0, .ref lo), (1, .ref vo), (3, .int (nI 0))]) hx hb dJx4a65c_add_72be8_10 rfl hl (by decide) rfl (fun ls hl => ?_)
  refine lv_aload_n hx hb dJx4a65c_add_72be8_11 rfl (lv_at hl 0 rfl) ?_
  refine lv_iload_n hx hb dJx4a65c_add_72be8_12 rfl (lv_at hl 3 rfl) ?_
  refine lv_aload_n hx hb dJx4a65c_add_72be8_13 rfl (lv_at hl 2 rfl) ?_
  refine aso (n := 10) (j := 0) (ci := 0) hx hb hG hP hD hS 2 0 rfl rfl rfl (gkC hG 0 rfl) (by omega) (by omega) dJx4a65c_add_72be8_14 (fun H locs hP hD hS => ?_)
  have hP : va_P D cls [oO vo 0 [v0, v1, v2, v3], oO lo 7 [.int mc, .ref ea, .int (nI 0)], aO D ea 10 (va_up (fun _ => none) 0 (some vo))] H := hP
  have hD : va_D A [oO vo 0 [v0, v1, v2, v3], oO lo 7 [.int mc, .ref ea, .int (nI 0)], aO D ea 10 (va_up (fun _ => none) 0 (some vo))] := hD
  refine lv_aload_n hx hb dJx4a65c_add_72be8_15 rfl (lv_at hl 1 rfl) ?_
  refine lv_iload_n hx hb dJx4a65c_add_72be8_16 rfl (lv_at hl 3 rfl) ?_
  refine lv_iconst (v := 1) hx hb dJx4a65c_add_72be8_17 (by decide) ?_
  refine lv_iadd hx hb dJx4a65c_add_72be8_18 ?_
  refine tpi (y := nI (0 + 1)) (nI_add 0 1) ?_
  refine va_put (D := D) (ci := 7) (v := .int (nI (0 + 1))) (ty := .int) (C := RJx4a65c) (T := TJx4a65c) (N := 3) hx hb hts inlJx4a65c tyJx4a65c tyJx4a65c_ok nmJx4a65c hown hG.K hP hD hS 1 rfl rfl 2 (by decide) (hts _ mF_Jx4a65c_48) (fun _ h9 => h9) rfl (by decide +kernel) rfl rfl (Nat.le_of_ble_eq_true rfl) dJx4a65c_add_72be8_19 (fun H locs hP hD hS => ?_)
  have hP : va_P D cls [oO vo 0 [v0, v1, v2, v3], oO lo 7 [.int mc, .ref ea, .int (nI (0 + 1))], aO D ea 10 (va_up (fun _ => none) 0 (some vo))] H := hP
  have hD : va_D A [oO vo 0 [v0, v1, v2, v3], oO lo 7 [.int mc, .ref ea, .int (nI (0 + 1))], aO D ea 10 (va_up (fun _ => none) 0 (some vo))] := hD
  refine Wv ea hx hb hr hlk ?_ (hP.sub [1, 2, 0] rfl) (hD.sub [1, 2, 0] (by decide) rfl) hS (Nat.le_of_ble_eq_true rfl) (by first | exact Nat.le_of_ble_eq_true rfl | exact Nat.le_of_eq (Nat.zero_add _)) dJx4a65c_add_72be8_22
  exact trivial
set_option maxHeartbeats 4000000 in
set_option maxRecDepth 100000 in
theorem c_add_first_Clip (l : Launch) (D : va_G) {lo z : Nat} {mc : Int32} {vo : Nat} {v0 v1 v2 v3 : Value} (hz0 : Nat)  : Met l yJx4a65c_add_9ea2d (ws_ yJx4a65c_add_9ea2d cJx4a65c_add_9ea2d 2 (some .boolean)) ({ frames := 5, cells := 1, slots := 10, locals := 145 } : Room) (va_Pc [.ref lo, .ref vo] (SX D [oO lo 7 [.int mc, .ref z, .int (nI 0)], oO vo 0 [v0, v1, v2, v3]] hz0 (ZL z (va_A [oO lo 7 [.int mc, .ref z, .int (nI 0)], oO vo 0 [v0, v1, v2, v3]] hz0)))) (va_Qi (fun r _ => r = 1) (AT D (va_A [oO lo 7 [.int mc, .ref z, .int (nI 0)], oO vo 0 [v0, v1, v2, v3]] hz0) (fun ea : Nat => [oO lo 7 [.int (mc + 1), .ref ea, .int (nI 1)], aO D ea 10 (va_up (fun _ => none) 0 (some vo)), oO vo 0 [v0, v1, v2, v3]])) (va_A [oO lo 7 [.int mc, .ref z, .int (nI 0)], oO vo 0 [v0, v1, v2, v3]] hz0)) 1 10 (va_A [oO lo 7 [.int mc, .ref z, .int (nI 0)], oO vo 0 [v0, v1, v2, v3]] hz0) := by
  refine va_MetF (cc := cJx4a65c_add_9ea2d) (maxL := 2) (ret := (some .boolean)) (by decide +kernel) rfl ?_
  intro p e s m args below meth c s₁ B hml hv
  obtain ⟨rfl, ⟨hsz, hG, hP, hD0⟩, hX⟩ := hv
  have hx := B.exec
  have hb := B.bytes
  have hr := B.returns
  have hts : ∀ w ∈ wsL_law, w.before _ s = true := fun w h => atoms_spec (ws := (ws_ yJx4a65c_add_9ea2d cJx4a65c_add_9ea2d 2 (some .boolean))) B.pre w (List.mem_cons_of_mem _ h)
  have hown : s.vm.findClass RJx4a65c = some m.cls := findClass_of_methodNamed B.named
  have hlk := B.notSynchronized
  have hC : CallFix p m c cJx4a65c_add_9ea2d 2 s _ wsL_law RJx4a65c := ⟨hx, hb, hml, hown, hts⟩
  subst hsz
  have hD := hD0.self (sz := s.heap.size)
  generalize hAe : va_A [oO lo 7 [.int mc, .ref z, .int (nI 0)], oO vo 0 [v0, v1, v2, v3]] s.heap.size = A at hD hX ⊢
  have hA : ∀ q : Nat, s.heap.size ≤ q → A q := fun q h => by rw [← hAe]; exact Or.inr h
  have hS : va_S A s.heap s.heap [] := va_S.rf
  obtain ⟨H, hHe⟩ : ∃ H, H = s.heap := ⟨_, rfl⟩
  rw [← hHe] at hP
  have hS : va_S A s.heap H [] := by rw [hHe]; exact hS
  have hl := lv_entry ([.ref lo, .ref vo]) (n := 2) (Nat.le_of_ble_eq_true rfl)
  rw [lg_entry_eq]
  generalize (lg_sl ([.ref lo, .ref vo]) ++ List.replicate (2 - (lg_sl ([.ref lo, .ref vo])).length) Slot.unset).toArray = ls at hl ⊢
  have hl : lv_has ls 2 [(0, .ref lo), (1, .ref vo)] := hl
  rw [← hHe]
  refine lv_aload_n hx hb dJx4a65c_add_9ea2d_0 rfl (lv_at hl 0 rfl) ?_
  refine lv_dup hx hb dJx4a65c_add_9ea2d_1 rfl ?_
  refine va_get (D := D) (ci := 7) (v := .int mc) (C := RJx4a65c) (T := TJx4a65c) (N := 3) hx hb hts inlJx4a65c hown hG.K hP 0 rfl rfl 0 (by decide) (hts _ mF_Jx4a65c_63) (fun x h9 => u_same (hts _ mZ_) x h9) rfl dJx4a65c_add_9ea2d_2 ?_
  refine lv_iconst (v := 1) hx hb dJx4a65c_add_9ea2d_5 (by decide) ?_
  refine lv_iadd hx hb dJx4a65c_add_9ea2d_6 ?_
  refine va_put (D := D) (ci := 7) (v := .int (mc + 1)) (ty := .int) (C := RJx4a65c) (T := TJx4a65c) (N := 3) hx hb hts inlJx4a65c tyJx4a65c tyJx4a65c_ok nmJx4a65c hown hG.K hP hD hS 0 rfl rfl 0 (by decide) (hts _ mF_Jx4a65c_63) (fun x h9 => u_same (hts _ mZ_) x h9) rfl (by decide +kernel) rfl rfl (Nat.le_of_ble_eq_true rfl) dJx4a65c_add_9ea2d_7 (fun H locs hP hD hS => ?_)
  have hP : va_P D cls [oO lo 7 [.int (mc + 1), .ref z, .int (nI 0)], oO vo 0 [v0, v1, v2, v3]] H := hP
  have hD : va_D A [oO lo 7 [.int (mc + 1), .ref z, .int (nI 0)], oO vo 0 [v0, v1, v2, v3]] := hD
  refine lv_aload_n hx hb dJx4a65c_add_9ea2d_10 rfl (lv_at hl 0 rfl) ?_
  refine lv_aload_n hx hb dJx4a65c_add_9ea2d_11 rfl (lv_at hl 1 rfl) ?_
  refine lv_aload_n hx hb dJx4a65c_add_9ea2d_12 rfl (lv_at hl 0 rfl) ?_
  refine va_get (D := D) (ci := 7) (v := .ref z) (C := RJx4a65c) (T := TJx4a65c) (N := 3) hx hb hts inlJx4a65c hown hG.K hP 0 rfl rfl 1 (by decide) (hts _ mF_Jx4a65c_9) (fun _ h9 => h9) rfl dJx4a65c_add_9ea2d_13 ?_
  refine lv_aload_n hx hb dJx4a65c_add_9ea2d_16 rfl (lv_at hl 0 rfl) ?_
  refine va_get (D := D) (ci := 7) (v := .int (nI 0)) (C := RJx4a65c) (T := TJx4a65c) (N := 3) hx hb hts inlJx4a65c hown hG.K hP 0 rfl rfl 2 (by decide) (hts _ mF_Jx4a65c_48) (fun _ h9 => h9) rfl dJx4a65c_add_9ea2d_17 ?_
  have hP9 := hP.sub (ws' := [oO lo 7 [.int (mc + 1), .ref z, .int (nI 0)], oO vo 0 [v0, v1, v2, v3]]) [0, 1] rfl
  have hD9 := (hD.sub (ws' := [oO lo 7 [.int (mc + 1), .ref z, .int (nI 0)], oO vo 0 [v0, v1, v2, v3]]) [0, 1] (by decide) rfl).weaken (B := fun _ => True) (fun _ _ _ _ => trivial)
  refine kv (wr := []) (rVX (ZL.blind) (ZL.pre hX hS (va_free' hD hS hA [0, 1] rfl).2) (rest := []) (qc := (RJx4a65c, TJx4a65c, 3)) [.ref vo, .ref z, .int (nI 0)] 3 1 10 hC (c_add3_first_Clip l D (lo := lo) (vo := vo) (z := z) (mc := mc + 1) (v0 := v0) (v1 := v1) (v2 := v2) (v3 := v3) (hz0 := H.size) ) rfl (hP 0 _ rfl) (gV mM_Jx4a65c_131 mI_Jx4a65c_add_72be8 mS_Jx4a65c_add_72be8 mN_Jx4a65c mC_Jx4a65c_add_72be8) (by decide +kernel) rfl rfl ⟨Nat.le_of_ble_eq_true rfl, Nat.le_of_ble_eq_true rfl⟩ hG hP9 hD9 rfl hl.1 rfl (Nat.le_of_ble_eq_true rfl) dJx4a65c_add_9ea2d_20 ⟨Nat.le_of_ble_eq_true rfl, Nat.le_of_ble_eq_true rfl⟩) hP hD hS hA [0, 1] [] rfl rfl (by decide) (by decide) (fun u20 H locs h20 hP hD hS hz hfr => ?_)
  obtain ⟨ea, rfl⟩ : ∃ z, z = u20 := ⟨_, rfl⟩
  have hP : va_P D cls [oO lo 7 [.int (mc + 1), .ref ea, .int (nI 1)], aO D ea 10 (va_up (fun _ => none) 0 (some vo)), oO vo 0 [v0, v1, v2, v3]] H := hP
  have hD : va_D A [oO lo 7 [.int (mc + 1), .ref ea, .int (nI 1)], aO D ea 10 (va_up (fun _ => none) 0 (some vo)), oO vo 0 [v0, v1, v2, v3]] := hD
  refine lv_iconst (v := 1) hx hb dJx4a65c_add_9ea2d_23 (by decide) ?_
  refine Wz ea hx hb hr hlk (by first | rfl | decide) ?_ hP hD hS (Nat.le_of_ble_eq_true rfl) (by first | exact Nat.le_of_ble_eq_true rfl | exact Nat.le_of_eq (Nat.zero_add _)) dJx4a65c_add_9ea2d_24
  exact rfl
set_option maxHeartbeats 4000000 in
set_option maxRecDepth 100000 in
theorem c_add3_Strip (l : Launch) (D : va_G) {lo ea n : Nat} {mc : Int32} {k : Nat} {f : Nat → Option Nat} {vo : Nat} {v0 v1 v2 v3 v4 v5 v6 v7 v8 v9 v10 v11 v12 : Value} (hz0 : Nat) (hn : n < k) (hk : k < 2 ^ 31) : Met l yJx4a65c_add_72be8 (ws_ yJx4a65c_add_72be8 cJx4a65c_add_72be8 4 none) ({ frames := 4, cells := 0, slots := 0, locals := 110 } : Room) (va_Pc [.ref lo, .ref vo, .ref ea, .int (nI n)] (SW D [oO lo 7 [.int mc, .ref ea, .int (nI n)], aO D ea k f, oO vo 3 [v0, v1, v2, v3, v4, v5, v6, v7, v8, v9, v10, v11, v12]] hz0)) (va_Qv (fun _ => True) (AT D (va_A [oO lo 7 [.int mc, .ref ea, .int (nI n)], aO D ea k f, oO vo 3 [v0, v1, v2, v3, v4, v5, v6, v7, v8, v9, v10, v11, v12]] hz0) (fun _ : Unit => [oO lo 7 [.int mc, .ref ea, .int (nI (n + 1))], aO D ea k (va_up f n (some vo)), oO vo 3 [v0, v1, v2, v3, v4, v5, v6, v7, v8, v9, v10, v11, v12]])) (va_A [oO lo 7 [.int mc, .ref ea, .int (nI n)], aO D ea k f, oO vo 3 [v0, v1, v2, v3, v4, v5, v6, v7, v8, v9, v10, v11, v12]] hz0)) 0 0 (va_A [oO lo 7 [.int mc, .ref ea, .int (nI n)], aO D ea k f, oO vo 3 [v0, v1, v2, v3, v4, v5, v6, v7, v8, v9, v10, v11, v12]] hz0) := by
  refine va_MetF (cc := cJx4a65c_add_72be8) (maxL := 4) (ret := none) (by decide +kernel) rfl ?_
  intro p e s m args below meth c s₁ B hml hv
  obtain ⟨rfl, hsz, hG, hP, hD0⟩ := hv
  have hx := B.exec
  have hb := B.bytes
  have hr := B.returns
  have hts : ∀ w ∈ wsL_law, w.before _ s = true := fun w h => atoms_spec (ws := (ws_ yJx4a65c_add_72be8 cJx4a65c_add_72be8 4 none)) B.pre w (List.mem_cons_of_mem _ h)
  have hown : s.vm.findClass RJx4a65c = some m.cls := findClass_of_methodNamed B.named
  have hlk := B.notSynchronized
  have hC : CallFix p m c cJx4a65c_add_72be8 4 s _ wsL_law RJx4a65c := ⟨hx, hb, hml, hown, hts⟩
  subst hsz
  have hD := hD0.self (sz := s.heap.size)
  generalize hAe : va_A [oO lo 7 [.int mc, .ref ea, .int (nI n)], aO D ea k f, oO vo 3 [v0, v1, v2, v3, v4, v5, v6, v7, v8, v9, v10, v11, v12]] s.heap.size = A at hD ⊢
  have hA : ∀ q : Nat, s.heap.size ≤ q → A q := fun q h => by rw [← hAe]; exact Or.inr h
  have hS : va_S A s.heap s.heap [] := va_S.rf
  obtain ⟨H, hHe⟩ : ∃ H, H = s.heap := ⟨_, rfl⟩
  rw [← hHe] at hP
  have hS : va_S A s.heap H [] := by rw [hHe]; exact hS
  have hl := lv_entry ([.ref lo, .ref vo, .ref ea, .int (nI n)]) (n := 4) (Nat.le_of_ble_eq_true rfl)
  rw [lg_entry_eq]
  generalize (lg_sl ([.ref lo, .ref vo, .ref ea, .int (nI n)]) ++ List.replicate (4 - (lg_sl ([.ref lo, .ref vo, .ref ea, .int (nI n)])).length) Slot.unset).toArray = ls at hl ⊢
  have hl : lv_has ls 4 [(0, .ref lo), (1, .ref vo), (2, .ref ea), (3, .int (nI n))] := hl
  rw [← hHe]
  refine lv_iload_n hx hb dJx4a65c_add_72be8_0 rfl (lv_at hl 3 rfl) ?_
  refine lv_aload_n hx hb dJx4a65c_add_72be8_1 rfl (lv_at hl 2 rfl) ?_
  refine va_alen (v := nI k) hx hb hG.K hP 1 4 rfl rfl rfl dJx4a65c_add_72be8_2 ?_
  refine lv_icmp_ne (tgt := 11) hx hb dJx4a65c_add_72be8_3 (by decide) (fun _ => ?_) (fun h9 => absurd ((nI_eq (a := n) (b := k) (by omega) (by omega)).mp h9) (by omega))
  refine lv_aload_n hx hb dJx4a65c_add_72be8_11 rfl (lv_at hl 2 rfl) ?_
  refine lv_iload_n hx hb dJx4a65c_add_72be8_12 rfl (lv_at hl 3 rfl) ?_
  refine lv_aload_n hx hb dJx4a65c_add_72be8_13 rfl (lv_at hl 1 rfl) ?_
  refine aso (n := k) (j := n) (ci := 3) hx hb hG hP hD hS 1 2 rfl rfl rfl (gkC hG 1 rfl) (by omega) (by omega) dJx4a65c_add_72be8_14 (fun H locs hP hD hS => ?_)
  have hP : va_P D cls [oO lo 7 [.int mc, .ref ea, .int (nI n)], aO D ea k (va_up f n (some vo)), oO vo 3 [v0, v1, v2, v3, v4, v5, v6, v7, v8, v9, v10, v11, v12]] H := hP
  have hD : va_D A [oO lo 7 [.int mc, .ref ea, .int (nI n)], aO D ea k (va_up f n (some vo)), oO vo 3 [v0, v1, v2, v3, v4, v5, v6, v7, v8, v9, v10, v11, v12]] := hD
  refine lv_aload_n hx hb dJx4a65c_add_72be8_15 rfl (lv_at hl 0 rfl) ?_
  refine lv_iload_n hx hb dJx4a65c_add_72be8_16 rfl (lv_at hl 3 rfl) ?_
  refine lv_iconst (v := 1) hx hb dJx4a65c_add_72be8_17 (by decide) ?_
  refine lv_iadd hx hb dJx4a65c_add_72be8_18 ?_
  refine tpi (y := nI (n + 1)) (nI_add n 1) ?_
  refine va_put (D := D) (ci := 7) (v := .int (nI (n + 1))) (ty := .int) (C := RJx4a65c) (T := TJx4a65c) (N := 3) hx hb hts inlJx4a65c tyJx4a65c tyJx4a65c_ok nmJx4a65c hown hG.K hP hD hS 0 rfl rfl 2 (by decide) (hts _ mF_Jx4a65c_48) (fun _ h9 => h9) rfl (by decide +kernel) rfl rfl (Nat.le_of_ble_eq_true rfl) dJx4a65c_add_72be8_19 (fun H locs hP hD hS => ?_)
  have hP : va_P D cls [oO lo 7 [.int mc, .ref ea, .int (nI (n + 1))], aO D ea k (va_up f n (some vo)), oO vo 3 [v0, v1, v2, v3, v4, v5, v6, v7, v8, v9, v10, v11, v12]] H := hP
  have hD : va_D A [oO lo 7 [.int mc, .ref ea, .int (nI (n + 1))], aO D ea k (va_up f n (some vo)), oO vo 3 [v0, v1, v2, v3, v4, v5, v6, v7, v8, v9, v10, v11, v12]] := hD
  refine Wv () hx hb hr hlk ?_ hP hD hS (Nat.le_of_ble_eq_true rfl) (by first | exact Nat.le_of_ble_eq_true rfl | exact Nat.le_of_eq (Nat.zero_add _)) dJx4a65c_add_72be8_22
  exact trivial
set_option maxHeartbeats 4000000 in
set_option maxRecDepth 100000 in
theorem c_add_Strip (l : Launch) (D : va_G) {lo ea n : Nat} {mc : Int32} {k : Nat} {f : Nat → Option Nat} {vo : Nat} {v0 v1 v2 v3 v4 v5 v6 v7 v8 v9 v10 v11 v12 : Value} (hz0 : Nat) (hn : n < k) (hk : k < 2 ^ 31) : Met l yJx4a65c_add_9ea2d (ws_ yJx4a65c_add_9ea2d cJx4a65c_add_9ea2d 2 (some .boolean)) ({ frames := 5, cells := 0, slots := 0, locals := 145 } : Room) (va_Pc [.ref lo, .ref vo] (SW D [oO lo 7 [.int mc, .ref ea, .int (nI n)], aO D ea k f, oO vo 3 [v0, v1, v2, v3, v4, v5, v6, v7, v8, v9, v10, v11, v12]] hz0)) (va_Qi (fun r _ => r = 1) (AT D (va_A [oO lo 7 [.int mc, .ref ea, .int (nI n)], aO D ea k f, oO vo 3 [v0, v1, v2, v3, v4, v5, v6, v7, v8, v9, v10, v11, v12]] hz0) (fun _ : Unit => [oO lo 7 [.int (mc + 1), .ref ea, .int (nI (n + 1))], aO D ea k (va_up f n (some vo)), oO vo 3 [v0, v1, v2, v3, v4, v5, v6, v7, v8, v9, v10, v11, v12]])) (va_A [oO lo 7 [.int mc, .ref ea, .int (nI n)], aO D ea k f, oO vo 3 [v0, v1, v2, v3, v4, v5, v6, v7, v8, v9, v10, v11, v12]] hz0)) 0 0 (va_A [oO lo 7 [.int mc, .ref ea, .int (nI n)], aO D ea k f, oO vo 3 [v0, v1, v2, v3, v4, v5, v6, v7, v8, v9, v10, v11, v12]] hz0) := by
  refine va_MetF (cc := cJx4a65c_add_9ea2d) (maxL := 2) (ret := (some .boolean)) (by decide +kernel) rfl ?_
  intro p e s m args below meth c s₁ B hml hv
  obtain ⟨rfl, hsz, hG, hP, hD0⟩ := hv
  have hx := B.exec
  have hb := B.bytes
  have hr := B.returns
  have hts : ∀ w ∈ wsL_law, w.before _ s = true := fun w h => atoms_spec (ws := (ws_ yJx4a65c_add_9ea2d cJx4a65c_add_9ea2d 2 (some .boolean))) B.pre w (List.mem_cons_of_mem _ h)
  have hown : s.vm.findClass RJx4a65c = some m.cls := findClass_of_methodNamed B.named
  have hlk := B.notSynchronized
  have hC : CallFix p m c cJx4a65c_add_9ea2d 2 s _ wsL_law RJx4a65c := ⟨hx, hb, hml, hown, hts⟩
  subst hsz
  have hD := hD0.self (sz := s.heap.size)
  generalize hAe : va_A [oO lo 7 [.int mc, .ref ea, .int (nI n)], aO D ea k f, oO vo 3 [v0, v1, v2, v3, v4, v5, v6, v7, v8, v9, v10, v11, v12]] s.heap.size = A at hD ⊢
  have hA : ∀ q : Nat, s.heap.size ≤ q → A q := fun q h => by rw [← hAe]; exact Or.inr h
  have hS : va_S A s.heap s.heap [] := va_S.rf
  obtain ⟨H, hHe⟩ : ∃ H, H = s.heap := ⟨_, rfl⟩
  rw [← hHe] at hP
  have hS : va_S A s.heap H [] := by rw [hHe]; exact hS
  have hl := lv_entry ([.ref lo, .ref vo]) (n := 2) (Nat.le_of_ble_eq_true rfl)
  rw [lg_entry_eq]
  generalize (lg_sl ([.ref lo, .ref vo]) ++ List.replicate (2 - (lg_sl ([.ref lo, .ref vo])).length) Slot.unset).toArray = ls at hl ⊢
  have hl : lv_has ls 2 [(0, .ref lo), (1, .ref vo)] := hl
  rw [← hHe]
  refine lv_aload_n hx hb dJx4a65c_add_9ea2d_0 rfl (lv_at hl 0 rfl) ?_
  refine lv_dup hx hb dJx4a65c_add_9ea2d_1 rfl ?_
  refine va_get (D := D) (ci := 7) (v := .int mc) (C := RJx4a65c) (T := TJx4a65c) (N := 3) hx hb hts inlJx4a65c hown hG.K hP 0 rfl rfl 0 (by decide) (hts _ mF_Jx4a65c_63) (fun x h9 => u_same (hts _ mZ_) x h9) rfl dJx4a65c_add_9ea2d_2 ?_
  refine lv_iconst (v := 1) hx hb dJx4a65c_add_9ea2d_5 (by decide) ?_
  refine lv_iadd hx hb dJx4a65c_add_9ea2d_6 ?_
  refine va_put (D := D) (ci := 7) (v := .int (mc + 1)) (ty := .int) (C := RJx4a65c) (T := TJx4a65c) (N := 3) hx hb hts inlJx4a65c tyJx4a65c tyJx4a65c_ok nmJx4a65c hown hG.K hP hD hS 0 rfl rfl 0 (by decide) (hts _ mF_Jx4a65c_63) (fun x h9 => u_same (hts _ mZ_) x h9) rfl (by decide +kernel) rfl rfl (Nat.le_of_ble_eq_true rfl) dJx4a65c_add_9ea2d_7 (fun H locs hP hD hS => ?_)
  have hP : va_P D cls [oO lo 7 [.int (mc + 1), .ref ea, .int (nI n)], aO D ea k f, oO vo 3 [v0, v1, v2, v3, v4, v5, v6, v7, v8, v9, v10, v11, v12]] H := hP
  have hD : va_D A [oO lo 7 [.int (mc + 1), .ref ea, .int (nI n)], aO D ea k f, oO vo 3 [v0, v1, v2, v3, v4, v5, v6, v7, v8, v9, v10, v11, v12]] := hD
  refine lv_aload_n hx hb dJx4a65c_add_9ea2d_10 rfl (lv_at hl 0 rfl) ?_
  refine lv_aload_n hx hb dJx4a65c_add_9ea2d_11 rfl (lv_at hl 1 rfl) ?_
  refine lv_aload_n hx hb dJx4a65c_add_9ea2d_12 rfl (lv_at hl 0 rfl) ?_
  refine va_get (D := D) (ci := 7) (v := .ref ea) (C := RJx4a65c) (T := TJx4a65c) (N := 3) hx hb hts inlJx4a65c hown hG.K hP 0 rfl rfl 1 (by decide) (hts _ mF_Jx4a65c_9) (fun _ h9 => h9) rfl dJx4a65c_add_9ea2d_13 ?_
  refine lv_aload_n hx hb dJx4a65c_add_9ea2d_16 rfl (lv_at hl 0 rfl) ?_
  refine va_get (D := D) (ci := 7) (v := .int (nI n)) (C := RJx4a65c) (T := TJx4a65c) (N := 3) hx hb hts inlJx4a65c hown hG.K hP 0 rfl rfl 2 (by decide) (hts _ mF_Jx4a65c_48) (fun _ h9 => h9) rfl dJx4a65c_add_9ea2d_17 ?_
  have hP9 := hP.sub (ws' := [oO lo 7 [.int (mc + 1), .ref ea, .int (nI n)], aO D ea k f, oO vo 3 [v0, v1, v2, v3, v4, v5, v6, v7, v8, v9, v10, v11, v12]]) [0, 1, 2] rfl
  have hD9 := (hD.sub (ws' := [oO lo 7 [.int (mc + 1), .ref ea, .int (nI n)], aO D ea k f, oO vo 3 [v0, v1, v2, v3, v4, v5, v6, v7, v8, v9, v10, v11, v12]]) [0, 1, 2] (by decide) rfl).weaken (B := fun _ => True) (fun _ _ _ _ => trivial)
  refine kv (wr := []) (rV (rest := []) (qc := (RJx4a65c, TJx4a65c, 3)) [.ref vo, .ref ea, .int (nI n)] 3 0 0 hC (c_add3_Strip l D (lo := lo) (vo := vo) (ea := ea) (n := n) (mc := mc + 1) (k := k) (f := f) (v0 := v0) (v1 := v1) (v2 := v2) (v3 := v3) (v4 := v4) (v5 := v5) (v6 := v6) (v7 := v7) (v8 := v8) (v9 := v9) (v10 := v10) (v11 := v11) (v12 := v12) (hz0 := H.size) (by omega) (by omega)) rfl (hP 0 _ rfl) (gV mM_Jx4a65c_131 mI_Jx4a65c_add_72be8 mS_Jx4a65c_add_72be8 mN_Jx4a65c mC_Jx4a65c_add_72be8) (by decide +kernel) rfl rfl ⟨Nat.le_of_ble_eq_true rfl, Nat.le_of_ble_eq_true rfl⟩ hG hP9 hD9 rfl hl.1 rfl (Nat.le_of_ble_eq_true rfl) dJx4a65c_add_9ea2d_20 ⟨Nat.le_of_ble_eq_true rfl, Nat.le_of_ble_eq_true rfl⟩) hP hD hS hA [0, 1, 2] [] rfl rfl (by decide) (by decide) (fun u20 H locs h20 hP hD hS hz hfr => ?_)
  have hP : va_P D cls [oO lo 7 [.int (mc + 1), .ref ea, .int (nI (n + 1))], aO D ea k (va_up f n (some vo)), oO vo 3 [v0, v1, v2, v3, v4, v5, v6, v7, v8, v9, v10, v11, v12]] H := hP
  have hD : va_D A [oO lo 7 [.int (mc + 1), .ref ea, .int (nI (n + 1))], aO D ea k (va_up f n (some vo)), oO vo 3 [v0, v1, v2, v3, v4, v5, v6, v7, v8, v9, v10, v11, v12]] := hD
  refine lv_iconst (v := 1) hx hb dJx4a65c_add_9ea2d_23 (by decide) ?_
  refine Wz () hx hb hr hlk (by first | rfl | decide) ?_ hP hD hS (Nat.le_of_ble_eq_true rfl) (by first | exact Nat.le_of_ble_eq_true rfl | exact Nat.le_of_eq (Nat.zero_add _)) dJx4a65c_add_9ea2d_24
  exact rfl
set_option maxHeartbeats 4000000 in
set_option maxRecDepth 100000 in
theorem c_add3_first_Strip (l : Launch) (D : va_G) {lo z : Nat} {mc : Int32} {vo : Nat} {v0 v1 v2 v3 v4 v5 v6 v7 v8 v9 v10 v11 v12 : Value} (hz0 : Nat)  : Met l yJx4a65c_add_72be8 (ws_ yJx4a65c_add_72be8 cJx4a65c_add_72be8 4 none) ({ frames := 4, cells := 1, slots := 10, locals := 110 } : Room) (va_Pc [.ref lo, .ref vo, .ref z, .int (nI 0)] (SX D [oO lo 7 [.int mc, .ref z, .int (nI 0)], oO vo 3 [v0, v1, v2, v3, v4, v5, v6, v7, v8, v9, v10, v11, v12]] hz0 (ZL z (va_A [oO lo 7 [.int mc, .ref z, .int (nI 0)], oO vo 3 [v0, v1, v2, v3, v4, v5, v6, v7, v8, v9, v10, v11, v12]] hz0)))) (va_Qv (fun _ => True) (AT D (va_A [oO lo 7 [.int mc, .ref z, .int (nI 0)], oO vo 3 [v0, v1, v2, v3, v4, v5, v6, v7, v8, v9, v10, v11, v12]] hz0) (fun ea : Nat => [oO lo 7 [.int mc, .ref ea, .int (nI 1)], aO D ea 10 (va_up (fun _ => none) 0 (some vo)), oO vo 3 [v0, v1, v2, v3, v4, v5, v6, v7, v8, v9, v10, v11, v12]])) (va_A [oO lo 7 [.int mc, .ref z, .int (nI 0)], oO vo 3 [v0, v1, v2, v3, v4, v5, v6, v7, v8, v9, v10, v11, v12]] hz0)) 1 10 (va_A [oO lo 7 [.int mc, .ref z, .int (nI 0)], oO vo 3 [v0, v1, v2, v3, v4, v5, v6, v7, v8, v9, v10, v11, v12]] hz0) := by
  refine va_MetF (cc := cJx4a65c_add_72be8) (maxL := 4) (ret := none) (by decide +kernel) rfl ?_
  intro p e s m args below meth c s₁ B hml hv
  obtain ⟨rfl, ⟨hsz, hG, hP, hD0⟩, hX⟩ := hv
  have hx := B.exec
  have hb := B.bytes
  have hr := B.returns
  have hts : ∀ w ∈ wsL_law, w.before _ s = true := fun w h => atoms_spec (ws := (ws_ yJx4a65c_add_72be8 cJx4a65c_add_72be8 4 none)) B.pre w (List.mem_cons_of_mem _ h)
  have hown : s.vm.findClass RJx4a65c = some m.cls := findClass_of_methodNamed B.named
  have hlk := B.notSynchronized
  have hC : CallFix p m c cJx4a65c_add_72be8 4 s _ wsL_law RJx4a65c := ⟨hx, hb, hml, hown, hts⟩
  subst hsz
  have hD := hD0.self (sz := s.heap.size)
  generalize hAe : va_A [oO lo 7 [.int mc, .ref z, .int (nI 0)], oO vo 3 [v0, v1, v2, v3, v4, v5, v6, v7, v8, v9, v10, v11, v12]] s.heap.size = A at hD hX ⊢
  have hA : ∀ q : Nat, s.heap.size ≤ q → A q := fun q h => by rw [← hAe]; exact Or.inr h
  have hS : va_S A s.heap s.heap [] := va_S.rf
  obtain ⟨H, hHe⟩ : ∃ H, H = s.heap := ⟨_, rfl⟩
  rw [← hHe] at hP
  have hS : va_S A s.heap H [] := by rw [hHe]; exact hS
  have hl := lv_entry ([.ref lo, .ref vo, .ref z, .int (nI 0)]) (n := 4) (Nat.le_of_ble_eq_true rfl)
  rw [lg_entry_eq]
  generalize (lg_sl ([.ref lo, .ref vo, .ref z, .int (nI 0)]) ++ List.replicate (4 - (lg_sl ([.ref lo, .ref vo, .ref z, .int (nI 0)])).length) Slot.unset).toArray = ls at hl ⊢
  have hl : lv_has ls 4 [(0, .ref lo), (1, .ref vo), (2, .ref z), (3, .int (nI 0))] := hl
  rw [← hHe]
  refine lv_iload_n hx hb dJx4a65c_add_72be8_0 rfl (lv_at hl 3 rfl) ?_
  refine lv_aload_n hx hb dJx4a65c_add_72be8_1 rfl (lv_at hl 2 rfl) ?_
  refine va_tlen (v := 0) hx hb hX.2 hS rfl dJx4a65c_add_72be8_2 ?_
  refine lv_icmp_ne (tgt := 11) hx hb dJx4a65c_add_72be8_3 (by decide) (fun h9 => (h9 (by decide)).elim) (fun _ => ?_)
  refine lv_aload_n hx hb dJx4a65c_add_72be8_6 rfl (lv_at hl 0 rfl) ?_
  have hP9 := hP.sub (ws' := [oO lo 7 [.int mc, .ref z, .int (nI 0)]]) [0] rfl
  have hD9 := (hD.sub (ws' := [oO lo 7 [.int mc, .ref z, .int (nI 0)]]) [0] (by decide) rfl).weaken (B := fun _ => True) (fun _ _ _ _ => trivial)
  refine kq (wr := [oO vo 3 [v0, v1, v2, v3, v4, v5, v6, v7, v8, v9, v10, v11, v12]]) (rVX (ZL.blind) (ZL.pre hX hS (va_free' hD hS hA [0] rfl).2) (rest := []) (qc := (RJx4a65c, TJx4a65c, 3)) [] 0 1 10 hC (c_grow0 l D (lo := lo) (mc := mc) (z := z) (hz0 := H.size) ) rfl (hP 0 _ rfl) (gV mM_Jx4a65c_129 mI_Jx4a65c_grow_d5877 mS_Jx4a65c_grow_d5877 mN_Jx4a65c mC_Jx4a65c_grow_d5877) (by decide +kernel) rfl rfl ⟨Nat.le_of_ble_eq_true rfl, Nat.le_of_ble_eq_true rfl⟩ hG hP9 hD9 rfl hl.1 rfl (Nat.le_of_ble_eq_true rfl) dJx4a65c_add_72be8_7 ⟨Nat.le_of_ble_eq_true rfl, Nat.le_of_ble_eq_true rfl⟩) hP hD hS hA [0] [1] rfl rfl (by decide) (by decide) (fun r7 u7 H locs h7 hP hD hS hz hfr => ?_)
  obtain ⟨ea, rfl⟩ : ∃ z, z = u7 := ⟨_, rfl⟩
  have hP : va_P D cls [oO vo 3 [v0, v1, v2, v3, v4, v5, v6, v7, v8, v9, v10, v11, v12], oO lo 7 [.int mc, .ref ea, .int (nI 0)], aO D ea 10 (fun _ => none)] H := hP
  have hD : va_D A [oO vo 3 [v0, v1, v2, v3, v4, v5, v6, v7, v8, v9, v10, v11, v12], oO lo 7 [.int mc, .ref ea, .int (nI 0)], aO D ea 10 (fun _ => none)] := hD
  subst h7
  refine tpv (y := .ref ea) rfl ?_
  refine lv_astore_n (lv' := [(2, .ref ea), (0, .ref lo), (1, .ref vo), (3, .int (nI 0))]) hx hb dJx4a65c_add_72be8_10 rfl hl (by decide) rfl (fun ls hl => ?_)
  refine lv_aload_n hx hb dJx4a65c_add_72be8_11 rfl (lv_at hl 0 rfl) ?_
  refine lv_iload_n hx hb dJx4a65c_add_72be8_12 rfl (lv_at hl 3 rfl) ?_
  refine lv_aload_n hx hb dJx4a65c_add_72be8_13 rfl (lv_at hl 2 rfl) ?_
  refine aso (n := 10) (j := 0) (ci := 3) hx hb hG hP hD hS 2 0 rfl rfl rfl (gkC hG 1 rfl) (by omega) (by omega) dJx4a65c_add_72be8_14 (fun H locs hP hD hS => ?_)
  have hP : va_P D cls [oO vo 3 [v0, v1, v2, v3, v4, v5, v6, v7, v8, v9, v10, v11, v12], oO lo 7 [.int mc, .ref ea, .int (nI 0)], aO D ea 10 (va_up (fun _ => none) 0 (some vo))] H := hP
  have hD : va_D A [oO vo 3 [v0, v1, v2, v3, v4, v5, v6, v7, v8, v9, v10, v11, v12], oO lo 7 [.int mc, .ref ea, .int (nI 0)], aO D ea 10 (va_up (fun _ => none) 0 (some vo))] := hD
  refine lv_aload_n hx hb dJx4a65c_add_72be8_15 rfl (lv_at hl 1 rfl) ?_
  refine lv_iload_n hx hb dJx4a65c_add_72be8_16 rfl (lv_at hl 3 rfl) ?_
  refine lv_iconst (v := 1) hx hb dJx4a65c_add_72be8_17 (by decide) ?_
  refine lv_iadd hx hb dJx4a65c_add_72be8_18 ?_
  refine tpi (y := nI (0 + 1)) (nI_add 0 1) ?_
  refine va_put (D := D) (ci := 7) (v := .int (nI (0 + 1))) (ty := .int) (C := RJx4a65c) (T := TJx4a65c) (N := 3) hx hb hts inlJx4a65c tyJx4a65c tyJx4a65c_ok nmJx4a65c hown hG.K hP hD hS 1 rfl rfl 2 (by decide) (hts _ mF_Jx4a65c_48) (fun _ h9 => h9) rfl (by decide +kernel) rfl rfl (Nat.le_of_ble_eq_true rfl) dJx4a65c_add_72be8_19 (fun H locs hP hD hS => ?_)
  have hP : va_P D cls [oO vo 3 [v0, v1, v2, v3, v4, v5, v6, v7, v8, v9, v10, v11, v12], oO lo 7 [.int mc, .ref ea, .int (nI (0 + 1))], aO D ea 10 (va_up (fun _ => none) 0 (some vo))] H := hP
  have hD : va_D A [oO vo 3 [v0, v1, v2, v3, v4, v5, v6, v7, v8, v9, v10, v11, v12], oO lo 7 [.int mc, .ref ea, .int (nI (0 + 1))], aO D ea 10 (va_up (fun _ => none) 0 (some vo))] := hD
  refine Wv ea hx hb hr hlk ?_ (hP.sub [1, 2, 0] rfl) (hD.sub [1, 2, 0] (by decide) rfl) hS (Nat.le_of_ble_eq_true rfl) (by first | exact Nat.le_of_ble_eq_true rfl | exact Nat.le_of_eq (Nat.zero_add _)) dJx4a65c_add_72be8_22
  exact trivial
set_option maxHeartbeats 4000000 in
set_option maxRecDepth 100000 in
theorem c_add_first_Strip (l : Launch) (D : va_G) {lo z : Nat} {mc : Int32} {vo : Nat} {v0 v1 v2 v3 v4 v5 v6 v7 v8 v9 v10 v11 v12 : Value} (hz0 : Nat)  : Met l yJx4a65c_add_9ea2d (ws_ yJx4a65c_add_9ea2d cJx4a65c_add_9ea2d 2 (some .boolean)) ({ frames := 5, cells := 1, slots := 10, locals := 145 } : Room) (va_Pc [.ref lo, .ref vo] (SX D [oO lo 7 [.int mc, .ref z, .int (nI 0)], oO vo 3 [v0, v1, v2, v3, v4, v5, v6, v7, v8, v9, v10, v11, v12]] hz0 (ZL z (va_A [oO lo 7 [.int mc, .ref z, .int (nI 0)], oO vo 3 [v0, v1, v2, v3, v4, v5, v6, v7, v8, v9, v10, v11, v12]] hz0)))) (va_Qi (fun r _ => r = 1) (AT D (va_A [oO lo 7 [.int mc, .ref z, .int (nI 0)], oO vo 3 [v0, v1, v2, v3, v4, v5, v6, v7, v8, v9, v10, v11, v12]] hz0) (fun ea : Nat => [oO lo 7 [.int (mc + 1), .ref ea, .int (nI 1)], aO D ea 10 (va_up (fun _ => none) 0 (some vo)), oO vo 3 [v0, v1, v2, v3, v4, v5, v6, v7, v8, v9, v10, v11, v12]])) (va_A [oO lo 7 [.int mc, .ref z, .int (nI 0)], oO vo 3 [v0, v1, v2, v3, v4, v5, v6, v7, v8, v9, v10, v11, v12]] hz0)) 1 10 (va_A [oO lo 7 [.int mc, .ref z, .int (nI 0)], oO vo 3 [v0, v1, v2, v3, v4, v5, v6, v7, v8, v9, v10, v11, v12]] hz0) := by
  refine va_MetF (cc := cJx4a65c_add_9ea2d) (maxL := 2) (ret := (some .boolean)) (by decide +kernel) rfl ?_
  intro p e s m args below meth c s₁ B hml hv
  obtain ⟨rfl, ⟨hsz, hG, hP, hD0⟩, hX⟩ := hv
  have hx := B.exec
  have hb := B.bytes
  have hr := B.returns
  have hts : ∀ w ∈ wsL_law, w.before _ s = true := fun w h => atoms_spec (ws := (ws_ yJx4a65c_add_9ea2d cJx4a65c_add_9ea2d 2 (some .boolean))) B.pre w (List.mem_cons_of_mem _ h)
  have hown : s.vm.findClass RJx4a65c = some m.cls := findClass_of_methodNamed B.named
  have hlk := B.notSynchronized
  have hC : CallFix p m c cJx4a65c_add_9ea2d 2 s _ wsL_law RJx4a65c := ⟨hx, hb, hml, hown, hts⟩
  subst hsz
  have hD := hD0.self (sz := s.heap.size)
  generalize hAe : va_A [oO lo 7 [.int mc, .ref z, .int (nI 0)], oO vo 3 [v0, v1, v2, v3, v4, v5, v6, v7, v8, v9, v10, v11, v12]] s.heap.size = A at hD hX ⊢
  have hA : ∀ q : Nat, s.heap.size ≤ q → A q := fun q h => by rw [← hAe]; exact Or.inr h
  have hS : va_S A s.heap s.heap [] := va_S.rf
  obtain ⟨H, hHe⟩ : ∃ H, H = s.heap := ⟨_, rfl⟩
  rw [← hHe] at hP
  have hS : va_S A s.heap H [] := by rw [hHe]; exact hS
  have hl := lv_entry ([.ref lo, .ref vo]) (n := 2) (Nat.le_of_ble_eq_true rfl)
  rw [lg_entry_eq]
  generalize (lg_sl ([.ref lo, .ref vo]) ++ List.replicate (2 - (lg_sl ([.ref lo, .ref vo])).length) Slot.unset).toArray = ls at hl ⊢
  have hl : lv_has ls 2 [(0, .ref lo), (1, .ref vo)] := hl
  rw [← hHe]
  refine lv_aload_n hx hb dJx4a65c_add_9ea2d_0 rfl (lv_at hl 0 rfl) ?_
  refine lv_dup hx hb dJx4a65c_add_9ea2d_1 rfl ?_
  refine va_get (D := D) (ci := 7) (v := .int mc) (C := RJx4a65c) (T := TJx4a65c) (N := 3) hx hb hts inlJx4a65c hown hG.K hP 0 rfl rfl 0 (by decide) (hts _ mF_Jx4a65c_63) (fun x h9 => u_same (hts _ mZ_) x h9) rfl dJx4a65c_add_9ea2d_2 ?_
  refine lv_iconst (v := 1) hx hb dJx4a65c_add_9ea2d_5 (by decide) ?_
  refine lv_iadd hx hb dJx4a65c_add_9ea2d_6 ?_
  refine va_put (D := D) (ci := 7) (v := .int (mc + 1)) (ty := .int) (C := RJx4a65c) (T := TJx4a65c) (N := 3) hx hb hts inlJx4a65c tyJx4a65c tyJx4a65c_ok nmJx4a65c hown hG.K hP hD hS 0 rfl rfl 0 (by decide) (hts _ mF_Jx4a65c_63) (fun x h9 => u_same (hts _ mZ_) x h9) rfl (by decide +kernel) rfl rfl (Nat.le_of_ble_eq_true rfl) dJx4a65c_add_9ea2d_7 (fun H locs hP hD hS => ?_)
  have hP : va_P D cls [oO lo 7 [.int (mc + 1), .ref z, .int (nI 0)], oO vo 3 [v0, v1, v2, v3, v4, v5, v6, v7, v8, v9, v10, v11, v12]] H := hP
  have hD : va_D A [oO lo 7 [.int (mc + 1), .ref z, .int (nI 0)], oO vo 3 [v0, v1, v2, v3, v4, v5, v6, v7, v8, v9, v10, v11, v12]] := hD
  refine lv_aload_n hx hb dJx4a65c_add_9ea2d_10 rfl (lv_at hl 0 rfl) ?_
  refine lv_aload_n hx hb dJx4a65c_add_9ea2d_11 rfl (lv_at hl 1 rfl) ?_
  refine lv_aload_n hx hb dJx4a65c_add_9ea2d_12 rfl (lv_at hl 0 rfl) ?_
  refine va_get (D := D) (ci := 7) (v := .ref z) (C := RJx4a65c) (T := TJx4a65c) (N := 3) hx hb hts inlJx4a65c hown hG.K hP 0 rfl rfl 1 (by decide) (hts _ mF_Jx4a65c_9) (fun _ h9 => h9) rfl dJx4a65c_add_9ea2d_13 ?_
  refine lv_aload_n hx hb dJx4a65c_add_9ea2d_16 rfl (lv_at hl 0 rfl) ?_
  refine va_get (D := D) (ci := 7) (v := .int (nI 0)) (C := RJx4a65c) (T := TJx4a65c) (N := 3) hx hb hts inlJx4a65c hown hG.K hP 0 rfl rfl 2 (by decide) (hts _ mF_Jx4a65c_48) (fun _ h9 => h9) rfl dJx4a65c_add_9ea2d_17 ?_
  have hP9 := hP.sub (ws' := [oO lo 7 [.int (mc + 1), .ref z, .int (nI 0)], oO vo 3 [v0, v1, v2, v3, v4, v5, v6, v7, v8, v9, v10, v11, v12]]) [0, 1] rfl
  have hD9 := (hD.sub (ws' := [oO lo 7 [.int (mc + 1), .ref z, .int (nI 0)], oO vo 3 [v0, v1, v2, v3, v4, v5, v6, v7, v8, v9, v10, v11, v12]]) [0, 1] (by decide) rfl).weaken (B := fun _ => True) (fun _ _ _ _ => trivial)
  refine kv (wr := []) (rVX (ZL.blind) (ZL.pre hX hS (va_free' hD hS hA [0, 1] rfl).2) (rest := []) (qc := (RJx4a65c, TJx4a65c, 3)) [.ref vo, .ref z, .int (nI 0)] 3 1 10 hC (c_add3_first_Strip l D (lo := lo) (vo := vo) (z := z) (mc := mc + 1) (v0 := v0) (v1 := v1) (v2 := v2) (v3 := v3) (v4 := v4) (v5 := v5) (v6 := v6) (v7 := v7) (v8 := v8) (v9 := v9) (v10 := v10) (v11 := v11) (v12 := v12) (hz0 := H.size) ) rfl (hP 0 _ rfl) (gV mM_Jx4a65c_131 mI_Jx4a65c_add_72be8 mS_Jx4a65c_add_72be8 mN_Jx4a65c mC_Jx4a65c_add_72be8) (by decide +kernel) rfl rfl ⟨Nat.le_of_ble_eq_true rfl, Nat.le_of_ble_eq_true rfl⟩ hG hP9 hD9 rfl hl.1 rfl (Nat.le_of_ble_eq_true rfl) dJx4a65c_add_9ea2d_20 ⟨Nat.le_of_ble_eq_true rfl, Nat.le_of_ble_eq_true rfl⟩) hP hD hS hA [0, 1] [] rfl rfl (by decide) (by decide) (fun u20 H locs h20 hP hD hS hz hfr => ?_)
  obtain ⟨ea, rfl⟩ : ∃ z, z = u20 := ⟨_, rfl⟩
  have hP : va_P D cls [oO lo 7 [.int (mc + 1), .ref ea, .int (nI 1)], aO D ea 10 (va_up (fun _ => none) 0 (some vo)), oO vo 3 [v0, v1, v2, v3, v4, v5, v6, v7, v8, v9, v10, v11, v12]] H := hP
  have hD : va_D A [oO lo 7 [.int (mc + 1), .ref ea, .int (nI 1)], aO D ea 10 (va_up (fun _ => none) 0 (some vo)), oO vo 3 [v0, v1, v2, v3, v4, v5, v6, v7, v8, v9, v10, v11, v12]] := hD
  refine lv_iconst (v := 1) hx hb dJx4a65c_add_9ea2d_23 (by decide) ?_
  refine Wz ea hx hb hr hlk (by first | rfl | decide) ?_ hP hD hS (Nat.le_of_ble_eq_true rfl) (by first | exact Nat.le_of_ble_eq_true rfl | exact Nat.le_of_eq (Nat.zero_add _)) dJx4a65c_add_9ea2d_24
  exact rfl
set_option maxHeartbeats 4000000 in
set_option maxRecDepth 100000 in
theorem c_fastRemove (l : Launch) (D : va_G) {lo ea n : Nat} {mc : Int32} {k i : Nat} {f : Nat → Option Nat} (hz0 : Nat) (hi : i < n) (hn : n ≤ k) (hk : k < 2 ^ 31) : Met l yJx4a65c_fastRemove_b59b0 (ws_ yJx4a65c_fastRemove_b59b0 cJx4a65c_fastRemove_b59b0 4 none) ({ frames := 1, cells := 0, slots := 0, locals := 60 } : Room) (va_Pc [.ref lo, .ref ea, .int (nI i)] (SX D [oO lo 7 [.int mc, .ref ea, .int (nI n)], aO D ea k f] hz0 (EL D f n lo ea))) (va_Qv (fun _ => True) (AT D (va_A [oO lo 7 [.int mc, .ref ea, .int (nI n)], aO D ea k f] hz0) (fun _ : Unit => [oO lo 7 [.int (mc + 1), .ref ea, .int (nI (n - 1))], aO D ea k (rmQ f i n)])) (va_A [oO lo 7 [.int mc, .ref ea, .int (nI n)], aO D ea k f] hz0)) 0 0 (va_A [oO lo 7 [.int mc, .ref ea, .int (nI n)], aO D ea k f] hz0) := by
  refine va_MetF (cc := cJx4a65c_fastRemove_b59b0) (maxL := 4) (ret := none) (by decide +kernel) rfl ?_
  intro p e s m args below meth c s₁ B hml hv
  obtain ⟨rfl, ⟨hsz, hG, hP, hD0⟩, hX⟩ := hv
  have hx := B.exec
  have hb := B.bytes
  have hr := B.returns
  have hts : ∀ w ∈ wsL_law, w.before _ s = true := fun w h => atoms_spec (ws := (ws_ yJx4a65c_fastRemove_b59b0 cJx4a65c_fastRemove_b59b0 4 none)) B.pre w (List.mem_cons_of_mem _ h)
  have hown : s.vm.findClass RJx4a65c = some m.cls := findClass_of_methodNamed B.named
  have hlk := B.notSynchronized
  have hC : CallFix p m c cJx4a65c_fastRemove_b59b0 4 s _ wsL_law RJx4a65c := ⟨hx, hb, hml, hown, hts⟩
  subst hsz
  have hD := hD0.self (sz := s.heap.size)
  generalize hAe : va_A [oO lo 7 [.int mc, .ref ea, .int (nI n)], aO D ea k f] s.heap.size = A at hD hX ⊢
  have hA : ∀ q : Nat, s.heap.size ≤ q → A q := fun q h => by rw [← hAe]; exact Or.inr h
  have hS : va_S A s.heap s.heap [] := va_S.rf
  obtain ⟨H, hHe⟩ : ∃ H, H = s.heap := ⟨_, rfl⟩
  rw [← hHe] at hP
  have hS : va_S A s.heap H [] := by rw [hHe]; exact hS
  have hl := lv_entry ([.ref lo, .ref ea, .int (nI i)]) (n := 4) (Nat.le_of_ble_eq_true rfl)
  rw [lg_entry_eq]
  generalize (lg_sl ([.ref lo, .ref ea, .int (nI i)]) ++ List.replicate (4 - (lg_sl ([.ref lo, .ref ea, .int (nI i)])).length) Slot.unset).toArray = ls at hl ⊢
  have hl : lv_has ls 4 [(0, .ref lo), (1, .ref ea), (2, .int (nI i))] := hl
  rw [← hHe]
  refine lv_aload_n hx hb dJx4a65c_fastRemove_b59b0_0 rfl (lv_at hl 0 rfl) ?_
  refine lv_dup hx hb dJx4a65c_fastRemove_b59b0_1 rfl ?_
  refine va_get (D := D) (ci := 7) (v := .int mc) (C := RJx4a65c) (T := TJx4a65c) (N := 3) hx hb hts inlJx4a65c hown hG.K hP 0 rfl rfl 0 (by decide) (hts _ mF_Jx4a65c_63) (fun x h9 => u_same (hts _ mZ_) x h9) rfl dJx4a65c_fastRemove_b59b0_2 ?_
  refine lv_iconst (v := 1) hx hb dJx4a65c_fastRemove_b59b0_5 (by decide) ?_
  refine lv_iadd hx hb dJx4a65c_fastRemove_b59b0_6 ?_
  refine va_put (D := D) (ci := 7) (v := .int (mc + 1)) (ty := .int) (C := RJx4a65c) (T := TJx4a65c) (N := 3) hx hb hts inlJx4a65c tyJx4a65c tyJx4a65c_ok nmJx4a65c hown hG.K hP hD hS 0 rfl rfl 0 (by decide) (hts _ mF_Jx4a65c_63) (fun x h9 => u_same (hts _ mZ_) x h9) rfl (by decide +kernel) rfl rfl (Nat.le_of_ble_eq_true rfl) dJx4a65c_fastRemove_b59b0_7 (fun H locs hP hD hS => ?_)
  have hP : va_P D cls [oO lo 7 [.int (mc + 1), .ref ea, .int (nI n)], aO D ea k f] H := hP
  have hD : va_D A [oO lo 7 [.int (mc + 1), .ref ea, .int (nI n)], aO D ea k f] := hD
  refine lv_aload_n hx hb dJx4a65c_fastRemove_b59b0_10 rfl (lv_at hl 0 rfl) ?_
  refine va_get (D := D) (ci := 7) (v := .int (nI n)) (C := RJx4a65c) (T := TJx4a65c) (N := 3) hx hb hts inlJx4a65c hown hG.K hP 0 rfl rfl 2 (by decide) (hts _ mF_Jx4a65c_48) (fun _ h9 => h9) rfl dJx4a65c_fastRemove_b59b0_11 ?_
  refine lv_iconst (v := 1) hx hb dJx4a65c_fastRemove_b59b0_14 (by decide) ?_
  refine lv_isub hx hb dJx4a65c_fastRemove_b59b0_15 ?_
  refine tpi (y := nI (n - 1)) (pk_sub (a := n) (b := 1) (by omega)) ?_
  refine lv_dup hx hb dJx4a65c_fastRemove_b59b0_16 rfl ?_
  refine lv_istore_n (lv' := [(3, .int (nI (n - 1))), (0, .ref lo), (1, .ref ea), (2, .int (nI i))]) hx hb dJx4a65c_fastRemove_b59b0_17 rfl hl (by decide) rfl (fun ls hl => ?_)
  refine lv_iload_n hx hb dJx4a65c_fastRemove_b59b0_18 rfl (lv_at hl 3 rfl) ?_
  refine lv_icmp_le (tgt := 34) hx hb dJx4a65c_fastRemove_b59b0_19 (by decide) (fun c19 => ?_) (fun c19 => ?_)
  · skip
    have n19 := (nI_leI (a := n - 1) (b := i) (by omega) (by omega)).mp c19
    refine lv_aload_n hx hb dJx4a65c_fastRemove_b59b0_34 rfl (lv_at hl 2 rfl) ?_
    refine lv_aload_n hx hb dJx4a65c_fastRemove_b59b0_35 rfl (lv_at hl 1 rfl) ?_
    refine lv_iload_n hx hb dJx4a65c_fastRemove_b59b0_36 rfl (lv_at hl 0 rfl) ?_
    refine lv_dup_x1 hx hb dJx4a65c_fastRemove_b59b0_37 rfl rfl ?_
    refine va_put (D := D) (ci := 7) (v := .int (nI (n - 1))) (ty := .int) (C := RJx4a65c) (T := TJx4a65c) (N := 3) hx hb hts inlJx4a65c tyJx4a65c tyJx4a65c_ok nmJx4a65c hown hG.K hP hD hS 0 rfl rfl 2 (by decide) (hts _ mF_Jx4a65c_48) (fun _ h9 => h9) rfl (by decide +kernel) rfl rfl (Nat.le_of_ble_eq_true rfl) dJx4a65c_fastRemove_b59b0_38 (fun H locs hP hD hS => ?_)
    have hP : va_P D cls [oO lo 7 [.int (mc + 1), .ref ea, .int (nI (n - 1))], aO D ea k f] H := hP
    have hD : va_D A [oO lo 7 [.int (mc + 1), .ref ea, .int (nI (n - 1))], aO D ea k f] := hD
    refine lv_null hx hb dJx4a65c_fastRemove_b59b0_41 ?_
    refine asn (n := k) (j := n - 1) hx hb hG hP hD hS 1 rfl (by omega) (by omega) dJx4a65c_fastRemove_b59b0_42 (fun H locs hP hD hS => ?_)
    have hP : va_P D cls [oO lo 7 [.int (mc + 1), .ref ea, .int (nI (n - 1))], aO D ea k (va_up f (n - 1) none)] H := hP
    have hD : va_D A [oO lo 7 [.int (mc + 1), .ref ea, .int (nI (n - 1))], aO D ea k (va_up f (n - 1) none)] := hD
    have hcv1 : (rmQ f i n) = (va_up f (n - 1) none) := by
      first
      | exact (rmQ_last (by omega) (by omega)).symm
      | exact (rmQ_copy (by omega)).symm
    have hP := Eq.mpr (congrArg (fun z9 => va_P D cls [oO lo 7 [.int (mc + 1), .ref ea, .int (nI (n - 1))], aO D ea k z9] H) hcv1) hP
    have hD := Eq.mpr (congrArg (fun z9 => va_D A [oO lo 7 [.int (mc + 1), .ref ea, .int (nI (n - 1))], aO D ea k z9]) hcv1) hD
    have hP : va_P D cls [oO lo 7 [.int (mc + 1), .ref ea, .int (nI (n - 1))], aO D ea k (rmQ f i n)] H := hP
    have hD : va_D A [oO lo 7 [.int (mc + 1), .ref ea, .int (nI (n - 1))], aO D ea k (rmQ f i n)] := hD
    refine Wv () hx hb hr hlk ?_ hP hD hS (Nat.le_of_ble_eq_true rfl) (by first | exact Nat.le_of_ble_eq_true rfl | exact Nat.le_of_eq (Nat.zero_add _)) dJx4a65c_fastRemove_b59b0_43
    exact trivial
  · skip
    have n19 := mt (nI_leI (a := n - 1) (b := i) (by omega) (by omega)).mpr c19
    refine lv_aload_n hx hb dJx4a65c_fastRemove_b59b0_22 rfl (lv_at hl 2 rfl) ?_
    refine lv_iload_n hx hb dJx4a65c_fastRemove_b59b0_23 rfl (lv_at hl 3 rfl) ?_
    refine lv_iconst (v := 1) hx hb dJx4a65c_fastRemove_b59b0_24 (by decide) ?_
    refine lv_iadd hx hb dJx4a65c_fastRemove_b59b0_25 ?_
    refine tpi (y := nI (i + 1)) (nI_add i 1) ?_
    refine lv_aload_n hx hb dJx4a65c_fastRemove_b59b0_26 rfl (lv_at hl 2 rfl) ?_
    refine lv_iload_n hx hb dJx4a65c_fastRemove_b59b0_27 rfl (lv_at hl 3 rfl) ?_
    refine lv_iload_n hx hb dJx4a65c_fastRemove_b59b0_28 rfl (lv_at hl 0 rfl) ?_
    refine lv_iload_n hx hb dJx4a65c_fastRemove_b59b0_29 rfl (lv_at hl 3 rfl) ?_
    refine lv_isub hx hb dJx4a65c_fastRemove_b59b0_30 ?_
    refine tpi (y := nI ((n - 1) - i)) (pk_sub (a := (n - 1)) (b := i) (by omega)) ?_
    refine cpo (n0 := k) (n1 := k) (sp := i + 1) (dp := i) (n := (n - 1) - i) hx hb (by rw [hml]; exact hl.1.symm) hown (hts _ mM_Jx4a65c_112) hts hG hP hD hS 1 1 rfl rfl (by omega) (by omega) (by omega) (by omega) (by omega) (fun a1 h1 y hy => (by
      obtain ⟨y1, y2, fs, y3⟩ := hX (i + 1 + a1) (by omega) y hy
      refine ⟨fs, y3.kept (hS.2.1 _ y3.lt ?_)⟩
      rw [← hAe]
      rintro (⟨q, e9, h9⟩ | h9)
      · rcases q with _ | _ | q
        · cases h9; exact y1 rfl
        · cases h9; exact y2 rfl
        · simp at h9
      · exact absurd y3.lt (Nat.not_lt.mpr h9))) (Nat.le_of_ble_eq_true rfl) (Nat.le_of_ble_eq_true rfl) dJx4a65c_fastRemove_b59b0_31 (fun H locs hP hD hS => ?_)
    have hP : va_P D cls [oO lo 7 [.int (mc + 1), .ref ea, .int (nI n)], aO D ea k (va_cpy f f (i + 1) i ((n - 1) - i))] H := hP
    have hD : va_D A [oO lo 7 [.int (mc + 1), .ref ea, .int (nI n)], aO D ea k (va_cpy f f (i + 1) i ((n - 1) - i))] := hD
    refine lv_aload_n hx hb dJx4a65c_fastRemove_b59b0_34 rfl (lv_at hl 2 rfl) ?_
    refine lv_aload_n hx hb dJx4a65c_fastRemove_b59b0_35 rfl (lv_at hl 1 rfl) ?_
    refine lv_iload_n hx hb dJx4a65c_fastRemove_b59b0_36 rfl (lv_at hl 0 rfl) ?_
    refine lv_dup_x1 hx hb dJx4a65c_fastRemove_b59b0_37 rfl rfl ?_
    refine va_put (D := D) (ci := 7) (v := .int (nI (n - 1))) (ty := .int) (C := RJx4a65c) (T := TJx4a65c) (N := 3) hx hb hts inlJx4a65c tyJx4a65c tyJx4a65c_ok nmJx4a65c hown hG.K hP hD hS 0 rfl rfl 2 (by decide) (hts _ mF_Jx4a65c_48) (fun _ h9 => h9) rfl (by decide +kernel) rfl rfl (Nat.le_of_ble_eq_true rfl) dJx4a65c_fastRemove_b59b0_38 (fun H locs hP hD hS => ?_)
    have hP : va_P D cls [oO lo 7 [.int (mc + 1), .ref ea, .int (nI (n - 1))], aO D ea k (va_cpy f f (i + 1) i ((n - 1) - i))] H := hP
    have hD : va_D A [oO lo 7 [.int (mc + 1), .ref ea, .int (nI (n - 1))], aO D ea k (va_cpy f f (i + 1) i ((n - 1) - i))] := hD
    refine lv_null hx hb dJx4a65c_fastRemove_b59b0_41 ?_
    refine asn (n := k) (j := n - 1) hx hb hG hP hD hS 1 rfl (by omega) (by omega) dJx4a65c_fastRemove_b59b0_42 (fun H locs hP hD hS => ?_)
    have hP : va_P D cls [oO lo 7 [.int (mc + 1), .ref ea, .int (nI (n - 1))], aO D ea k (va_up (va_cpy f f (i + 1) i ((n - 1) - i)) (n - 1) none)] H := hP
    have hD : va_D A [oO lo 7 [.int (mc + 1), .ref ea, .int (nI (n - 1))], aO D ea k (va_up (va_cpy f f (i + 1) i ((n - 1) - i)) (n - 1) none)] := hD
    have hcv2 : (rmQ f i n) = (va_up (va_cpy f f (i + 1) i ((n - 1) - i)) (n - 1) none) := by
      first
      | exact (rmQ_last (by omega) (by omega)).symm
      | exact (rmQ_copy (by omega)).symm
    have hP := Eq.mpr (congrArg (fun z9 => va_P D cls [oO lo 7 [.int (mc + 1), .ref ea, .int (nI (n - 1))], aO D ea k z9] H) hcv2) hP
    have hD := Eq.mpr (congrArg (fun z9 => va_D A [oO lo 7 [.int (mc + 1), .ref ea, .int (nI (n - 1))], aO D ea k z9]) hcv2) hD
    have hP : va_P D cls [oO lo 7 [.int (mc + 1), .ref ea, .int (nI (n - 1))], aO D ea k (rmQ f i n)] H := hP
    have hD : va_D A [oO lo 7 [.int (mc + 1), .ref ea, .int (nI (n - 1))], aO D ea k (rmQ f i n)] := hD
    refine Wv () hx hb hr hlk ?_ hP hD hS (Nat.le_of_ble_eq_true rfl) (by first | exact Nat.le_of_ble_eq_true rfl | exact Nat.le_of_eq (Nat.zero_add _)) dJx4a65c_fastRemove_b59b0_43
    exact trivial
set_option maxHeartbeats 4000000 in
set_option maxRecDepth 100000 in
theorem c_list_remove (l : Launch) (D : va_G) {lo ea n : Nat} {mc : Int32} {k i : Nat} {f : Nat → Option Nat} {y0 : Nat} (hz0 : Nat) (hi : i < n) (hn : n ≤ k) (hk : k < 2 ^ 31) (hfi : f i = some y0) : Met l yJx4a65c_remove_915e3 (ws_ yJx4a65c_remove_915e3 cJx4a65c_remove_915e3 4 (some (.object "java/lang/Object"))) ({ frames := 2, cells := 0, slots := 0, locals := 100 } : Room) (va_Pc [.ref lo, .int (nI i)] (SX D [oO lo 7 [.int mc, .ref ea, .int (nI n)], aO D ea k f] hz0 (EL D f n lo ea))) (va_Qq (fun v _ => v = some y0) (AT D (va_A [oO lo 7 [.int mc, .ref ea, .int (nI n)], aO D ea k f] hz0) (fun _ : Unit => [oO lo 7 [.int (mc + 1), .ref ea, .int (nI (n - 1))], aO D ea k (rmQ f i n)])) (va_A [oO lo 7 [.int mc, .ref ea, .int (nI n)], aO D ea k f] hz0)) 0 0 (va_A [oO lo 7 [.int mc, .ref ea, .int (nI n)], aO D ea k f] hz0) := by
  refine va_MetF (cc := cJx4a65c_remove_915e3) (maxL := 4) (ret := (some (.object "java/lang/Object"))) (by decide +kernel) rfl ?_
  intro p e s m args below meth c s₁ B hml hv
  obtain ⟨rfl, ⟨hsz, hG, hP, hD0⟩, hX⟩ := hv
  have hx := B.exec
  have hb := B.bytes
  have hr := B.returns
  have hts : ∀ w ∈ wsL_law, w.before _ s = true := fun w h => atoms_spec (ws := (ws_ yJx4a65c_remove_915e3 cJx4a65c_remove_915e3 4 (some (.object "java/lang/Object")))) B.pre w (List.mem_cons_of_mem _ h)
  have hown : s.vm.findClass RJx4a65c = some m.cls := findClass_of_methodNamed B.named
  have hlk := B.notSynchronized
  have hC : CallFix p m c cJx4a65c_remove_915e3 4 s _ wsL_law RJx4a65c := ⟨hx, hb, hml, hown, hts⟩
  subst hsz
  have hD := hD0.self (sz := s.heap.size)
  generalize hAe : va_A [oO lo 7 [.int mc, .ref ea, .int (nI n)], aO D ea k f] s.heap.size = A at hD hX ⊢
  have hA : ∀ q : Nat, s.heap.size ≤ q → A q := fun q h => by rw [← hAe]; exact Or.inr h
  have hS : va_S A s.heap s.heap [] := va_S.rf
  obtain ⟨H, hHe⟩ : ∃ H, H = s.heap := ⟨_, rfl⟩
  rw [← hHe] at hP
  have hS : va_S A s.heap H [] := by rw [hHe]; exact hS
  have hl := lv_entry ([.ref lo, .int (nI i)]) (n := 4) (Nat.le_of_ble_eq_true rfl)
  rw [lg_entry_eq]
  generalize (lg_sl ([.ref lo, .int (nI i)]) ++ List.replicate (4 - (lg_sl ([.ref lo, .int (nI i)])).length) Slot.unset).toArray = ls at hl ⊢
  have hl : lv_has ls 4 [(0, .ref lo), (1, .int (nI i))] := hl
  rw [← hHe]
  refine lv_iload_n hx hb dJx4a65c_remove_915e3_0 rfl (lv_at hl 1 rfl) ?_
  refine lv_aload_n hx hb dJx4a65c_remove_915e3_1 rfl (lv_at hl 0 rfl) ?_
  refine va_get (D := D) (ci := 7) (v := .int (nI n)) (C := RJx4a65c) (T := TJx4a65c) (N := 3) hx hb hts inlJx4a65c hown hG.K hP 0 rfl rfl 2 (by decide) (hts _ mF_Jx4a65c_48) (fun _ h9 => h9) rfl dJx4a65c_remove_915e3_2 ?_
  have hP9 : va_P D cls [] H := fun k q h => by simp at h
  refine vp_callSi (pS (rest := []) [.int (nI i), .int (nI n)] 2 hC (c_checkIndex l D (i := i) (n := n) (by omega) (by omega)) (gS mM_Jx4a65c_118 mT_J15_checkIndex_7cf53 mN_J15 mC_J15_checkIndex_7cf53) (by decide +kernel) rfl rfl ⟨Nat.le_of_ble_eq_true rfl, Nat.le_of_ble_eq_true rfl⟩ hG hP9 rfl hl.1 rfl (Nat.le_of_ble_eq_true rfl) dJx4a65c_remove_915e3_5 ⟨Nat.le_of_ble_eq_true rfl, Nat.le_of_ble_eq_true rfl⟩) (fun r5 h5 => ?_)
  obtain rfl : r5 = (nI i) := h5
  refine lv_pop hx hb dJx4a65c_remove_915e3_8 rfl ?_
  refine lv_aload_n hx hb dJx4a65c_remove_915e3_9 rfl (lv_at hl 0 rfl) ?_
  refine va_get (D := D) (ci := 7) (v := .ref ea) (C := RJx4a65c) (T := TJx4a65c) (N := 3) hx hb hts inlJx4a65c hown hG.K hP 0 rfl rfl 1 (by decide) (hts _ mF_Jx4a65c_9) (fun _ h9 => h9) rfl dJx4a65c_remove_915e3_10 ?_
  refine lv_astore_n (lv' := [(2, .ref ea), (0, .ref lo), (1, .int (nI i))]) hx hb dJx4a65c_remove_915e3_13 rfl hl (by decide) rfl (fun ls hl => ?_)
  refine lv_aload_n hx hb dJx4a65c_remove_915e3_14 rfl (lv_at hl 0 rfl) ?_
  refine lv_iload_n hx hb dJx4a65c_remove_915e3_15 rfl (lv_at hl 2 rfl) ?_
  refine ald (n := k) (j := i) hx hb hG hP 1 4 rfl rfl (by omega) (by omega) dJx4a65c_remove_915e3_16 ?_
  refine tpv (y := .ref y0) (by rw [hfi]; rfl) ?_
  refine lv_astore_n (lv' := [(3, .ref y0), (2, .ref ea), (0, .ref lo), (1, .int (nI i))]) hx hb dJx4a65c_remove_915e3_17 rfl hl (by decide) rfl (fun ls hl => ?_)
  refine lv_aload_n hx hb dJx4a65c_remove_915e3_18 rfl (lv_at hl 2 rfl) ?_
  refine lv_aload_n hx hb dJx4a65c_remove_915e3_19 rfl (lv_at hl 1 rfl) ?_
  refine lv_iload_n hx hb dJx4a65c_remove_915e3_20 rfl (lv_at hl 3 rfl) ?_
  have hP9 := hP.sub (ws' := [oO lo 7 [.int mc, .ref ea, .int (nI n)], aO D ea k f]) [0, 1] rfl
  have hD9 := (hD.sub (ws' := [oO lo 7 [.int mc, .ref ea, .int (nI n)], aO D ea k f]) [0, 1] (by decide) rfl).weaken (B := fun _ => True) (fun _ _ _ _ => trivial)
  refine kv (wr := []) (rVX (EL.blind) (fun U hU _ => by
    intro k9 h9 y9 h8
    obtain ⟨a1, a2, a3⟩ := hX k9 h9 y9 h8
    rw [hU, hHe]
    exact ⟨a1, a2, a3⟩) (rest := []) (qc := (RJx4a65c, TJx4a65c, 3)) [.ref ea, .int (nI i)] 2 0 0 hC (c_fastRemove l D (lo := lo) (ea := ea) (i := i) (mc := mc) (n := n) (k := k) (f := f) (hz0 := H.size) (by omega) (by omega) (by omega)) rfl (hP 0 _ rfl) (gV mM_Jx4a65c_144 mI_Jx4a65c_fastRemove_b59b0 mS_Jx4a65c_fastRemove_b59b0 mN_Jx4a65c mC_Jx4a65c_fastRemove_b59b0) (by decide +kernel) rfl rfl ⟨Nat.le_of_ble_eq_true rfl, Nat.le_of_ble_eq_true rfl⟩ hG hP9 hD9 rfl hl.1 rfl (Nat.le_of_ble_eq_true rfl) dJx4a65c_remove_915e3_21 ⟨Nat.le_of_ble_eq_true rfl, Nat.le_of_ble_eq_true rfl⟩) hP hD hS hA [0, 1] [] rfl rfl (by decide) (by decide) (fun u21 H locs h21 hP hD hS hz hfr => ?_)
  have hP : va_P D cls [oO lo 7 [.int (mc + 1), .ref ea, .int (nI (n - 1))], aO D ea k (rmQ f i n)] H := hP
  have hD : va_D A [oO lo 7 [.int (mc + 1), .ref ea, .int (nI (n - 1))], aO D ea k (rmQ f i n)] := hD
  refine lv_aload_n hx hb dJx4a65c_remove_915e3_24 rfl (lv_at hl 0 rfl) ?_
  refine Wq (v := some y0) () hx hb hr hlk (by first | exact Or.inl ⟨_, rfl⟩ | exact Or.inr ⟨_, rfl⟩) ?_ hP hD hS (Nat.le_of_ble_eq_true rfl) (by first | exact Nat.le_of_ble_eq_true rfl | exact Nat.le_of_eq (Nat.zero_add _)) dJx4a65c_remove_915e3_25
  exact rfl
