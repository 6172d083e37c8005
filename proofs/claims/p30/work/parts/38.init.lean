theorem insF_zero (k : Nat) : insF (fun _ => 0) k k 0 = fun _ => 0 := by
  funext q
  rw [insF_at]
  split
  · rfl
  · split <;> rfl
set_option maxHeartbeats 4000000 in
set_option maxRecDepth 100000 in
theorem c_init (l : Launch) (D : va_G) {xo z : Nat} (hz0 : Nat)  : Met l yX5_init (ws_ yX5_init cX5_init 2 none) ({ frames := 4, cells := 15, slots := 437, locals := 80 } : Room) (va_Pc [.ref xo] (SX D [oO xo 5 [.null, .null, .null, .null, .null]] hz0 (ZL z (va_A [oO xo 5 [.null, .null, .null, .null, .null]] hz0)))) (va_Qv (fun _ => True) (AT D (va_A [oO xo 5 [.null, .null, .null, .null, .null]] hz0) (fun ((lc, lt, bo, ba, yo, ya, no, g, h) : Nat × Nat × Nat × Nat × Nat × Nat × Nat × (Nat → Nat) × (Nat → Nat)) => [oO xo 5 [.ref lc, .ref lt, .ref bo, .ref yo, .ref no], oO lc 7 [.int 0, .ref z, .int (nI 0)], oO lt 7 [.int 0, .ref z, .int (nI 0)], oO bo 2 [.ref ba, .int (nI 4)], aI D ba 4 (fun _ => 0), oO yo 2 [.ref ya, .int (nI 0)], aI D ya 10 (fun _ => 0), oO no 1 [.ref (g 0), .ref (g 1), .ref (g 2), .ref (g 3), .int 0], oO (g 0) 2 [.ref (h 0), .int (nI 0)], oO (g 1) 2 [.ref (h 1), .int (nI 0)], oO (g 2) 2 [.ref (h 2), .int (nI 0)], oO (g 3) 2 [.ref (h 3), .int (nI 0)], aI D (h 0) 100 (fun _ => 0), aI D (h 1) 100 (fun _ => 0), aI D (h 2) 100 (fun _ => 0), aI D (h 3) 100 (fun _ => 0)])) (va_A [oO xo 5 [.null, .null, .null, .null, .null]] hz0)) 15 437 (va_A [oO xo 5 [.null, .null, .null, .null, .null]] hz0) := by
  refine Met.ofW (cc := cX5_init) (maxL := 2) (ret := none) (by decide) rfl ?_
  intro p e s m args below meth c s₁ B hml hv
  obtain ⟨rfl, ⟨hsz, hG, hP, hD0⟩, hX⟩ := hv
  have hx := B.exec
  have hb := B.bytes
  have hr := B.returns
  have hts : ∀ w ∈ wsL_law, w.before _ s = true := fun w h => atoms_spec (ws := (ws_ yX5_init cX5_init 2 none)) B.pre w (List.mem_cons_of_mem _ h)
  have hown : s.vm.findClass RX5 = some m.cls := findClass_of_methodNamed B.named
  have hlk := B.notSynchronized
  have hC : CallFix p m c cX5_init 2 s _ wsL_law RX5 := ⟨hx, hb, hml, hown, hts⟩
  have hin : meth.name = "<init>" := (name_of_methodNamed B.named B.method).1
  subst hsz
  have hD := hD0.self (sz := s.heap.size)
  generalize hAe : va_A [oO xo 5 [.null, .null, .null, .null, .null]] s.heap.size = A at hD hX ⊢
  have hA : ∀ q : Nat, s.heap.size ≤ q → A q := fun q h => by rw [← hAe]; exact Or.inr h
  have hS : va_S A s.heap s.heap [] := va_S.rf
  obtain ⟨H, hHe⟩ : ∃ H, H = s.heap := ⟨_, rfl⟩
  rw [← hHe] at hP
  have hS : va_S A s.heap H [] := by rw [hHe]; exact hS
  have hl := lv_entry ([.ref xo]) (n := 2) (Nat.le_of_ble_eq_true rfl)
  rw [lg_entry_eq]
  generalize (lg_sl ([.ref xo]) ++ List.replicate (2 - (lg_sl ([.ref xo])).length) Slot.unset).toArray = ls at hl ⊢
  have hl : lv_has ls 2 [(0, .ref xo)] := hl
  rw [← hHe]
  refine lv_aload_n hx hb dX5_init_0 rfl (lv_at hl 0 rfl) ?_
  refine W.objInit hx hb hown (hts _ mM_X5_1) (hts _ mI_objectInit) (hts _ mC_objectInit) rfl (by rw [hml]; exact hl.1) rfl dX5_init_1 (Nat.le_of_ble_eq_true rfl) (Nat.le_of_ble_eq_true rfl) ?_
  refine W.eq (g2 := F0 m 4 ls []) rfl ?_
  refine lv_aload_n hx hb dX5_init_4 rfl (lv_at hl 0 rfl) ?_
  refine va_new (ci := 7) (fs := [.int 0, .null, .int 0]) (C := RJx4a65c) (T := TJx4a65c) (N := 3) hx hb hts inlJx4a65c tyJx4a65c tyJx4a65c_ok hown (hts _ mK_X5_7) (hts _ mB_Jx4a65c) (hts _ mN_Jx4a65c) hG.K hP hD hS hA rfl (fun j hj => by rcases (show j = 0 ∨ j = 1 ∨ j = 2 by omega) with rfl | rfl | rfl <;> rfl) (Nat.le_of_ble_eq_true rfl) (Nat.le_of_ble_eq_true rfl) dX5_init_5 (fun lc H hP hD hS => ?_)
  have hP : va_P D cls [oO xo 5 [.null, .null, .null, .null, .null], oO lc 7 [.int 0, .null, .int 0]] H := hP
  have hD : va_D A [oO xo 5 [.null, .null, .null, .null, .null], oO lc 7 [.int 0, .null, .int 0]] := hD
  refine lv_dup hx hb dX5_init_8 rfl ?_
  have hP9 := hP.sub (ws' := [oO lc 7 [.int 0, .null, .int 0]]) [1] rfl
  have hD9 := (hD.sub (ws' := [oO lc 7 [.int 0, .null, .int 0]]) [1] (by decide) rfl).weaken (B := fun _ => True) (fun _ _ _ _ => trivial)
  refine kv (wr := [oO xo 5 [.null, .null, .null, .null, .null]]) (rIX (ZL.blind) (ZL.pre hX hS (va_free' hD hS hA [1] rfl).2) (rest := [.ref lc, .ref xo]) [] 0 0 0 hC (c_list_init l D (z := z) (lo := lc) (hz0 := H.size) ) mM_X5_9 mI_Jx4a65c_init_da8c8 mN_Jx4a65c mC_Jx4a65c_init_da8c8 rfl (by decide +kernel) rfl rfl ⟨Nat.le_of_ble_eq_true rfl, Nat.le_of_ble_eq_true rfl⟩ hG hP9 hD9 rfl hl.1 rfl (Nat.le_of_ble_eq_true rfl) dX5_init_9 ⟨Nat.le_of_ble_eq_true rfl, Nat.le_of_ble_eq_true rfl⟩) hP hD hS hA [1] [0] rfl rfl (by decide) (by decide) (fun u9 H locs h9 hP hD hS hz hfr => ?_)
  have hP : va_P D cls [oO xo 5 [.null, .null, .null, .null, .null], oO lc 7 [.int 0, .ref z, .int (nI 0)]] H := hP
  have hD : va_D A [oO xo 5 [.null, .null, .null, .null, .null], oO lc 7 [.int 0, .ref z, .int (nI 0)]] := hD
  refine va_putF (D := D) (ci := 5) (v := .ref lc) (ty := .object "java/util/ArrayList") (C := RX5) (T := TX5) (N := 5) hx hb hts inlX5 tyX5 tyX5_ok nmX5 hown hG.K hP hD hS 0 rfl rfl 0 (by decide) (hts _ mF_X5_10) (fun _ h9 => h9) rfl hin rfl (by decide +kernel) rfl rfl (Nat.le_of_ble_eq_true rfl) dX5_init_12 (fun H locs hP hD hS => ?_)
  have hP : va_P D cls [oO xo 5 [.ref lc, .null, .null, .null, .null], oO lc 7 [.int 0, .ref z, .int (nI 0)]] H := hP
  have hD : va_D A [oO xo 5 [.ref lc, .null, .null, .null, .null], oO lc 7 [.int 0, .ref z, .int (nI 0)]] := hD
  refine lv_aload_n hx hb dX5_init_15 rfl (lv_at hl 0 rfl) ?_
  refine va_new (ci := 7) (fs := [.int 0, .null, .int 0]) (C := RJx4a65c) (T := TJx4a65c) (N := 3) hx hb hts inlJx4a65c tyJx4a65c tyJx4a65c_ok hown (hts _ mK_X5_7) (hts _ mB_Jx4a65c) (hts _ mN_Jx4a65c) hG.K hP hD hS hA rfl (fun j hj => by rcases (show j = 0 ∨ j = 1 ∨ j = 2 by omega) with rfl | rfl | rfl <;> rfl) (Nat.le_of_ble_eq_true rfl) (Nat.le_of_ble_eq_true rfl) dX5_init_16 (fun lt H hP hD hS => ?_)
  have hP : va_P D cls [oO xo 5 [.ref lc, .null, .null, .null, .null], oO lc 7 [.int 0, .ref z, .int (nI 0)], oO lt 7 [.int 0, .null, .int 0]] H := hP
  have hD : va_D A [oO xo 5 [.ref lc, .null, .null, .null, .null], oO lc 7 [.int 0, .ref z, .int (nI 0)], oO lt 7 [.int 0, .null, .int 0]] := hD
  refine lv_dup hx hb dX5_init_19 rfl ?_
  have hP9 := hP.sub (ws' := [oO lt 7 [.int 0, .null, .int 0]]) [2] rfl
  have hD9 := (hD.sub (ws' := [oO lt 7 [.int 0, .null, .int 0]]) [2] (by decide) rfl).weaken (B := fun _ => True) (fun _ _ _ _ => trivial)
  refine kv (wr := [oO xo 5 [.ref lc, .null, .null, .null, .null], oO lc 7 [.int 0, .ref z, .int (nI 0)]]) (rIX (ZL.blind) (ZL.pre hX hS (va_free' hD hS hA [2] rfl).2) (rest := [.ref lt, .ref xo]) [] 0 0 0 hC (c_list_init l D (z := z) (lo := lt) (hz0 := H.size) ) mM_X5_9 mI_Jx4a65c_init_da8c8 mN_Jx4a65c mC_Jx4a65c_init_da8c8 rfl (by decide +kernel) rfl rfl ⟨Nat.le_of_ble_eq_true rfl, Nat.le_of_ble_eq_true rfl⟩ hG hP9 hD9 rfl hl.1 rfl (Nat.le_of_ble_eq_true rfl) dX5_init_20 ⟨Nat.le_of_ble_eq_true rfl, Nat.le_of_ble_eq_true rfl⟩) hP hD hS hA [2] [0, 1] rfl rfl (by decide) (by decide) (fun u20 H locs h20 hP hD hS hz hfr => ?_)
  have hP : va_P D cls [oO xo 5 [.ref lc, .null, .null, .null, .null], oO lc 7 [.int 0, .ref z, .int (nI 0)], oO lt 7 [.int 0, .ref z, .int (nI 0)]] H := hP
  have hD : va_D A [oO xo 5 [.ref lc, .null, .null, .null, .null], oO lc 7 [.int 0, .ref z, .int (nI 0)], oO lt 7 [.int 0, .ref z, .int (nI 0)]] := hD
  refine va_putF (D := D) (ci := 5) (v := .ref lt) (ty := .object "java/util/ArrayList") (C := RX5) (T := TX5) (N := 5) hx hb hts inlX5 tyX5 tyX5_ok nmX5 hown hG.K hP hD hS 0 rfl rfl 1 (by decide) (hts _ mF_X5_16) (fun _ h9 => h9) rfl hin rfl (by decide +kernel) rfl rfl (Nat.le_of_ble_eq_true rfl) dX5_init_23 (fun H locs hP hD hS => ?_)
  have hP : va_P D cls [oO xo 5 [.ref lc, .ref lt, .null, .null, .null], oO lc 7 [.int 0, .ref z, .int (nI 0)], oO lt 7 [.int 0, .ref z, .int (nI 0)]] H := hP
  have hD : va_D A [oO xo 5 [.ref lc, .ref lt, .null, .null, .null], oO lc 7 [.int 0, .ref z, .int (nI 0)], oO lt 7 [.int 0, .ref z, .int (nI 0)]] := hD
  refine lv_aload_n hx hb dX5_init_26 rfl (lv_at hl 0 rfl) ?_
  refine va_new (ci := 2) (fs := [.null, .int 0]) (C := RX2) (T := TX2) (N := 2) hx hb hts inlX2 tyX2 tyX2_ok hown (hts _ mK_X5_19) (hts _ mB_X2) (hts _ mN_X2) hG.K hP hD hS hA rfl (fun j hj => by rcases (show j = 0 ∨ j = 1 by omega) with rfl | rfl <;> rfl) (Nat.le_of_ble_eq_true rfl) (Nat.le_of_ble_eq_true rfl) dX5_init_27 (fun bo H hP hD hS => ?_)
  have hP : va_P D cls [oO xo 5 [.ref lc, .ref lt, .null, .null, .null], oO lc 7 [.int 0, .ref z, .int (nI 0)], oO lt 7 [.int 0, .ref z, .int (nI 0)], oO bo 2 [.null, .int 0]] H := hP
  have hD : va_D A [oO xo 5 [.ref lc, .ref lt, .null, .null, .null], oO lc 7 [.int 0, .ref z, .int (nI 0)], oO lt 7 [.int 0, .ref z, .int (nI 0)], oO bo 2 [.null, .int 0]] := hD
  refine lv_dup hx hb dX5_init_30 rfl ?_
  refine lv_iconst (v := 4) hx hb dX5_init_31 (by decide) ?_
  have hP9 := hP.sub (ws' := [oO bo 2 [.null, .int 0]]) [3] rfl
  have hD9 := (hD.sub (ws' := [oO bo 2 [.null, .int 0]]) [3] (by decide) rfl).weaken (B := fun _ => True) (fun _ _ _ _ => trivial)
  refine kv (wr := [oO xo 5 [.ref lc, .ref lt, .null, .null, .null], oO lc 7 [.int 0, .ref z, .int (nI 0)], oO lt 7 [.int 0, .ref z, .int (nI 0)]]) (rI (rest := [.ref bo, .ref xo]) [.int 4] 1 1 4 hC (c_Row_init l D (n := 4) (r := bo) (hz0 := H.size) (by omega) (by omega)) mM_X5_21 mI_X2_init mN_X2 mC_X2_init rfl (by decide +kernel) rfl rfl ⟨Nat.le_of_ble_eq_true rfl, Nat.le_of_ble_eq_true rfl⟩ hG hP9 hD9 rfl hl.1 rfl (Nat.le_of_ble_eq_true rfl) dX5_init_32 ⟨Nat.le_of_ble_eq_true rfl, Nat.le_of_ble_eq_true rfl⟩) hP hD hS hA [3] [0, 1, 2] rfl rfl (by decide) (by decide) (fun u32 H locs h32 hP hD hS hz hfr => ?_)
  obtain ⟨ba, rfl⟩ : ∃ z, z = u32 := ⟨_, rfl⟩
  have hP : va_P D cls [oO xo 5 [.ref lc, .ref lt, .null, .null, .null], oO lc 7 [.int 0, .ref z, .int (nI 0)], oO lt 7 [.int 0, .ref z, .int (nI 0)], oO bo 2 [.ref ba, .int (nI 0)], aI D ba 4 (fun _ => 0)] H := hP
  have hD : va_D A [oO xo 5 [.ref lc, .ref lt, .null, .null, .null], oO lc 7 [.int 0, .ref z, .int (nI 0)], oO lt 7 [.int 0, .ref z, .int (nI 0)], oO bo 2 [.ref ba, .int (nI 0)], aI D ba 4 (fun _ => 0)] := hD
  refine va_putF (D := D) (ci := 5) (v := .ref bo) (ty := .object "KeyStage$Row") (C := RX5) (T := TX5) (N := 5) hx hb hts inlX5 tyX5 tyX5_ok nmX5 hown hG.K hP hD hS 0 rfl rfl 2 (by decide) (hts _ mF_X5_24) (fun _ h9 => h9) rfl hin rfl (by decide +kernel) rfl rfl (Nat.le_of_ble_eq_true rfl) dX5_init_35 (fun H locs hP hD hS => ?_)
  have hP : va_P D cls [oO xo 5 [.ref lc, .ref lt, .ref bo, .null, .null], oO lc 7 [.int 0, .ref z, .int (nI 0)], oO lt 7 [.int 0, .ref z, .int (nI 0)], oO bo 2 [.ref ba, .int (nI 0)], aI D ba 4 (fun _ => 0)] H := hP
  have hD : va_D A [oO xo 5 [.ref lc, .ref lt, .ref bo, .null, .null], oO lc 7 [.int 0, .ref z, .int (nI 0)], oO lt 7 [.int 0, .ref z, .int (nI 0)], oO bo 2 [.ref ba, .int (nI 0)], aI D ba 4 (fun _ => 0)] := hD
  refine lv_iconst (v := 0) hx hb dX5_init_38 (by decide) ?_
  refine lv_istore_n (lv' := [(1, .int 0), (0, .ref xo)]) hx hb dX5_init_39 rfl hl (by decide) rfl (fun ls hl => ?_)
  have loop40 : ∀ (d9 : Nat) (i : Nat), (4 - i) < d9 → (i ≤ 4) → ∀ (H : Heap) (locs : List Loc) (ls : Array Slot), va_P D cls [oO xo 5 [.ref lc, .ref lt, .ref bo, .null, .null], oO lc 7 [.int 0, .ref z, .int (nI 0)], oO lt 7 [.int 0, .ref z, .int (nI 0)], oO bo 2 [.ref ba, .int (nI i)], aI D ba 4 (fun _ => 0)] H → va_D A [oO xo 5 [.ref lc, .ref lt, .ref bo, .null, .null], oO lc 7 [.int 0, .ref z, .int (nI 0)], oO lt 7 [.int 0, .ref z, .int (nI 0)], oO bo 2 [.ref ba, .int (nI i)], aI D ba 4 (fun _ => 0)] → va_S A s.heap H locs → lv_has ls 2 [(0, .ref xo), (1, .int (nI i))] → W p l e ({ frames := 4, cells := 15, slots := 437, locals := 80 } : Room) s m ([.ref xo] : List Value).toArray below meth c H locs 4 12 (MQ below (va_Qv (fun _ => True) (AT D A (fun ((lc, lt, bo, ba, yo, ya, no, g, h) : Nat × Nat × Nat × Nat × Nat × Nat × Nat × (Nat → Nat) × (Nat → Nat)) => [oO xo 5 [.ref lc, .ref lt, .ref bo, .ref yo, .ref no], oO lc 7 [.int 0, .ref z, .int (nI 0)], oO lt 7 [.int 0, .ref z, .int (nI 0)], oO bo 2 [.ref ba, .int (nI 4)], aI D ba 4 (fun _ => 0), oO yo 2 [.ref ya, .int (nI 0)], aI D ya 10 (fun _ => 0), oO no 1 [.ref (g 0), .ref (g 1), .ref (g 2), .ref (g 3), .int 0], oO (g 0) 2 [.ref (h 0), .int (nI 0)], oO (g 1) 2 [.ref (h 1), .int (nI 0)], oO (g 2) 2 [.ref (h 2), .int (nI 0)], oO (g 3) 2 [.ref (h 3), .int (nI 0)], aI D (h 0) 100 (fun _ => 0), aI D (h 1) 100 (fun _ => 0), aI D (h 2) 100 (fun _ => 0), aI D (h 3) 100 (fun _ => 0)])) A) ([.ref xo] : List Value).toArray s 15 437 A) (F0 m 40 ls []) := by
    intro d9
    induction d9 with
    | zero => intro i hd; exact absurd hd (Nat.not_lt_zero _)
    | succ d9 ih40 =>
      intro i hd40 hi H locs ls hP hD hS hl
      refine lv_iload_n hx hb dX5_init_40 rfl (lv_at hl 1 rfl) ?_
      refine lv_iconst (v := 4) hx hb dX5_init_41 (by decide) ?_
      refine lv_icmp_ge (tgt := 59) hx hb dX5_init_42 (by decide) (fun c42 => ?_) (fun c42 => ?_)
      · skip
        have n42 := (nI_leI (a := 4) (b := i) (by omega) (by omega)).mp c42
        have hi9 : i = 4 := by omega
        subst i
        refine lv_aload_n hx hb dX5_init_59 rfl (lv_at hl 0 rfl) ?_
        refine va_new (ci := 2) (fs := [.null, .int 0]) (C := RX2) (T := TX2) (N := 2) hx hb hts inlX2 tyX2 tyX2_ok hown (hts _ mK_X5_19) (hts _ mB_X2) (hts _ mN_X2) hG.K hP hD hS hA rfl (fun j hj => by rcases (show j = 0 ∨ j = 1 by omega) with rfl | rfl <;> rfl) (Nat.le_of_ble_eq_true rfl) (Nat.le_of_ble_eq_true rfl) dX5_init_60 (fun yo H hP hD hS => ?_)
        have hP : va_P D cls [oO xo 5 [.ref lc, .ref lt, .ref bo, .null, .null], oO lc 7 [.int 0, .ref z, .int (nI 0)], oO lt 7 [.int 0, .ref z, .int (nI 0)], oO bo 2 [.ref ba, .int (nI 4)], aI D ba 4 (fun _ => 0), oO yo 2 [.null, .int 0]] H := hP
        have hD : va_D A [oO xo 5 [.ref lc, .ref lt, .ref bo, .null, .null], oO lc 7 [.int 0, .ref z, .int (nI 0)], oO lt 7 [.int 0, .ref z, .int (nI 0)], oO bo 2 [.ref ba, .int (nI 4)], aI D ba 4 (fun _ => 0), oO yo 2 [.null, .int 0]] := hD
        refine lv_dup hx hb dX5_init_63 rfl ?_
        refine lv_bipush (v := 10) hx hb dX5_init_64 (by decide) ?_
        have hP9 := hP.sub (ws' := [oO yo 2 [.null, .int 0]]) [5] rfl
        have hD9 := (hD.sub (ws' := [oO yo 2 [.null, .int 0]]) [5] (by decide) rfl).weaken (B := fun _ => True) (fun _ _ _ _ => trivial)
        refine kv (wr := [oO xo 5 [.ref lc, .ref lt, .ref bo, .null, .null], oO lc 7 [.int 0, .ref z, .int (nI 0)], oO lt 7 [.int 0, .ref z, .int (nI 0)], oO bo 2 [.ref ba, .int (nI 4)], aI D ba 4 (fun _ => 0)]) (rI (rest := [.ref yo, .ref xo]) [.int 10] 1 1 10 hC (c_Row_init l D (n := 10) (r := yo) (hz0 := H.size) (by omega) (by omega)) mM_X5_21 mI_X2_init mN_X2 mC_X2_init rfl (by decide +kernel) rfl rfl ⟨Nat.le_of_ble_eq_true rfl, Nat.le_of_ble_eq_true rfl⟩ hG hP9 hD9 rfl hl.1 rfl (Nat.le_of_ble_eq_true rfl) dX5_init_66 ⟨Nat.le_of_ble_eq_true rfl, Nat.le_of_ble_eq_true rfl⟩) hP hD hS hA [5] [0, 1, 2, 3, 4] rfl rfl (by decide) (by decide) (fun u66 H locs h66 hP hD hS hz hfr => ?_)
        obtain ⟨ya, rfl⟩ : ∃ z, z = u66 := ⟨_, rfl⟩
        have hP : va_P D cls [oO xo 5 [.ref lc, .ref lt, .ref bo, .null, .null], oO lc 7 [.int 0, .ref z, .int (nI 0)], oO lt 7 [.int 0, .ref z, .int (nI 0)], oO bo 2 [.ref ba, .int (nI 4)], aI D ba 4 (fun _ => 0), oO yo 2 [.ref ya, .int (nI 0)], aI D ya 10 (fun _ => 0)] H := hP
        have hD : va_D A [oO xo 5 [.ref lc, .ref lt, .ref bo, .null, .null], oO lc 7 [.int 0, .ref z, .int (nI 0)], oO lt 7 [.int 0, .ref z, .int (nI 0)], oO bo 2 [.ref ba, .int (nI 4)], aI D ba 4 (fun _ => 0), oO yo 2 [.ref ya, .int (nI 0)], aI D ya 10 (fun _ => 0)] := hD
        refine va_putF (D := D) (ci := 5) (v := .ref yo) (ty := .object "KeyStage$Row") (C := RX5) (T := TX5) (N := 5) hx hb hts inlX5 tyX5 tyX5_ok nmX5 hown hG.K hP hD hS 0 rfl rfl 3 (by decide) (hts _ mF_X5_31) (fun _ h9 => h9) rfl hin rfl (by decide +kernel) rfl rfl (Nat.le_of_ble_eq_true rfl) dX5_init_69 (fun H locs hP hD hS => ?_)
        have hP : va_P D cls [oO xo 5 [.ref lc, .ref lt, .ref bo, .ref yo, .null], oO lc 7 [.int 0, .ref z, .int (nI 0)], oO lt 7 [.int 0, .ref z, .int (nI 0)], oO bo 2 [.ref ba, .int (nI 4)], aI D ba 4 (fun _ => 0), oO yo 2 [.ref ya, .int (nI 0)], aI D ya 10 (fun _ => 0)] H := hP
        have hD : va_D A [oO xo 5 [.ref lc, .ref lt, .ref bo, .ref yo, .null], oO lc 7 [.int 0, .ref z, .int (nI 0)], oO lt 7 [.int 0, .ref z, .int (nI 0)], oO bo 2 [.ref ba, .int (nI 4)], aI D ba 4 (fun _ => 0), oO yo 2 [.ref ya, .int (nI 0)], aI D ya 10 (fun _ => 0)] := hD
        refine lv_aload_n hx hb dX5_init_72 rfl (lv_at hl 0 rfl) ?_
        refine va_new (ci := 1) (fs := [.null, .null, .null, .null, .int 0]) (C := RX1) (T := TX1) (N := 5) hx hb hts inlX1 tyX1 tyX1_ok hown (hts _ mK_X5_34) (hts _ mB_X1) (hts _ mN_X1) hG.K hP hD hS hA rfl (fun j hj => by rcases (show j = 0 ∨ j = 1 ∨ j = 2 ∨ j = 3 ∨ j = 4 by omega) with rfl | rfl | rfl | rfl | rfl <;> rfl) (Nat.le_of_ble_eq_true rfl) (Nat.le_of_ble_eq_true rfl) dX5_init_73 (fun no H hP hD hS => ?_)
        have hP : va_P D cls [oO xo 5 [.ref lc, .ref lt, .ref bo, .ref yo, .null], oO lc 7 [.int 0, .ref z, .int (nI 0)], oO lt 7 [.int 0, .ref z, .int (nI 0)], oO bo 2 [.ref ba, .int (nI 4)], aI D ba 4 (fun _ => 0), oO yo 2 [.ref ya, .int (nI 0)], aI D ya 10 (fun _ => 0), oO no 1 [.null, .null, .null, .null, .int 0]] H := hP
        have hD : va_D A [oO xo 5 [.ref lc, .ref lt, .ref bo, .ref yo, .null], oO lc 7 [.int 0, .ref z, .int (nI 0)], oO lt 7 [.int 0, .ref z, .int (nI 0)], oO bo 2 [.ref ba, .int (nI 4)], aI D ba 4 (fun _ => 0), oO yo 2 [.ref ya, .int (nI 0)], aI D ya 10 (fun _ => 0), oO no 1 [.null, .null, .null, .null, .int 0]] := hD
        refine lv_dup hx hb dX5_init_76 rfl ?_
        have hP9 := hP.sub (ws' := [oO no 1 [.null, .null, .null, .null, .int 0]]) [7] rfl
        have hD9 := (hD.sub (ws' := [oO no 1 [.null, .null, .null, .null, .int 0]]) [7] (by decide) rfl).weaken (B := fun _ => True) (fun _ _ _ _ => trivial)
        refine kv (wr := [oO xo 5 [.ref lc, .ref lt, .ref bo, .ref yo, .null], oO lc 7 [.int 0, .ref z, .int (nI 0)], oO lt 7 [.int 0, .ref z, .int (nI 0)], oO bo 2 [.ref ba, .int (nI 4)], aI D ba 4 (fun _ => 0), oO yo 2 [.ref ya, .int (nI 0)], aI D ya 10 (fun _ => 0)]) (rIN (rest := [.ref no, .ref xo]) [] 0 8 408 hC (c_Notes_init l D (no := no) (hz0 := H.size) ) (nM_KeyStage_36 hG) mI_X1_init mN_X1 mC_X1_init rfl (by decide +kernel) rfl rfl ⟨Nat.le_of_ble_eq_true rfl, Nat.le_of_ble_eq_true rfl⟩ hG hP9 hD9 rfl hl.1 rfl (Nat.le_of_ble_eq_true rfl) dX5_init_77 ⟨Nat.le_of_ble_eq_true rfl, Nat.le_of_ble_eq_true rfl⟩) hP hD hS hA [7] [0, 1, 2, 3, 4, 5, 6] rfl rfl (by decide) (by decide) (fun u77 H locs h77 hP hD hS hz hfr => ?_)
        obtain ⟨g, h⟩ := u77
        have hP : va_P D cls [oO xo 5 [.ref lc, .ref lt, .ref bo, .ref yo, .null], oO lc 7 [.int 0, .ref z, .int (nI 0)], oO lt 7 [.int 0, .ref z, .int (nI 0)], oO bo 2 [.ref ba, .int (nI 4)], aI D ba 4 (fun _ => 0), oO yo 2 [.ref ya, .int (nI 0)], aI D ya 10 (fun _ => 0), oO no 1 [.ref (g 0), .ref (g 1), .ref (g 2), .ref (g 3), .int 0], oO (g 0) 2 [.ref (h 0), .int (nI 0)], oO (g 1) 2 [.ref (h 1), .int (nI 0)], oO (g 2) 2 [.ref (h 2), .int (nI 0)], oO (g 3) 2 [.ref (h 3), .int (nI 0)], aI D (h 0) 100 (fun _ => 0), aI D (h 1) 100 (fun _ => 0), aI D (h 2) 100 (fun _ => 0), aI D (h 3) 100 (fun _ => 0)] H := hP
        have hD : va_D A [oO xo 5 [.ref lc, .ref lt, .ref bo, .ref yo, .null], oO lc 7 [.int 0, .ref z, .int (nI 0)], oO lt 7 [.int 0, .ref z, .int (nI 0)], oO bo 2 [.ref ba, .int (nI 4)], aI D ba 4 (fun _ => 0), oO yo 2 [.ref ya, .int (nI 0)], aI D ya 10 (fun _ => 0), oO no 1 [.ref (g 0), .ref (g 1), .ref (g 2), .ref (g 3), .int 0], oO (g 0) 2 [.ref (h 0), .int (nI 0)], oO (g 1) 2 [.ref (h 1), .int (nI 0)], oO (g 2) 2 [.ref (h 2), .int (nI 0)], oO (g 3) 2 [.ref (h 3), .int (nI 0)], aI D (h 0) 100 (fun _ => 0), aI D (h 1) 100 (fun _ => 0), aI D (h 2) 100 (fun _ => 0), aI D (h 3) 100 (fun _ => 0)] := hD
        refine va_putF (D := D) (ci := 5) (v := .ref no) (ty := .object "KeyStage$Notes") (C := RX5) (T := TX5) (N := 5) hx hb hts inlX5 tyX5 tyX5_ok nmX5 hown hG.K hP hD hS 0 rfl rfl 4 (by decide) (hts _ mF_X5_37) (fun _ h9 => h9) rfl hin rfl (by decide +kernel) rfl rfl (Nat.le_of_ble_eq_true rfl) dX5_init_80 (fun H locs hP hD hS => ?_)
        have hP : va_P D cls [oO xo 5 [.ref lc, .ref lt, .ref bo, .ref yo, .ref no], oO lc 7 [.int 0, .ref z, .int (nI 0)], oO lt 7 [.int 0, .ref z, .int (nI 0)], oO bo 2 [.ref ba, .int (nI 4)], aI D ba 4 (fun _ => 0), oO yo 2 [.ref ya, .int (nI 0)], aI D ya 10 (fun _ => 0), oO no 1 [.ref (g 0), .ref (g 1), .ref (g 2), .ref (g 3), .int 0], oO (g 0) 2 [.ref (h 0), .int (nI 0)], oO (g 1) 2 [.ref (h 1), .int (nI 0)], oO (g 2) 2 [.ref (h 2), .int (nI 0)], oO (g 3) 2 [.ref (h 3), .int (nI 0)], aI D (h 0) 100 (fun _ => 0), aI D (h 1) 100 (fun _ => 0), aI D (h 2) 100 (fun _ => 0), aI D (h 3) 100 (fun _ => 0)] H := hP
        have hD : va_D A [oO xo 5 [.ref lc, .ref lt, .ref bo, .ref yo, .ref no], oO lc 7 [.int 0, .ref z, .int (nI 0)], oO lt 7 [.int 0, .ref z, .int (nI 0)], oO bo 2 [.ref ba, .int (nI 4)], aI D ba 4 (fun _ => 0), oO yo 2 [.ref ya, .int (nI 0)], aI D ya 10 (fun _ => 0), oO no 1 [.ref (g 0), .ref (g 1), .ref (g 2), .ref (g 3), .int 0], oO (g 0) 2 [.ref (h 0), .int (nI 0)], oO (g 1) 2 [.ref (h 1), .int (nI 0)], oO (g 2) 2 [.ref (h 2), .int (nI 0)], oO (g 3) 2 [.ref (h 3), .int (nI 0)], aI D (h 0) 100 (fun _ => 0), aI D (h 1) 100 (fun _ => 0), aI D (h 2) 100 (fun _ => 0), aI D (h 3) 100 (fun _ => 0)] := hD
        refine Wv (lc, lt, bo, ba, yo, ya, no, g, h) hx hb hr hlk ?_ hP hD hS (Nat.le_of_ble_eq_true rfl) (by first | exact Nat.le_of_ble_eq_true rfl | exact Nat.le_of_eq (Nat.zero_add _)) dX5_init_83
        exact trivial
      · skip
        have n42 := mt (nI_leI (a := 4) (b := i) (by omega) (by omega)).mpr c42
        refine lv_aload_n hx hb dX5_init_45 rfl (lv_at hl 0 rfl) ?_
        refine va_get (D := D) (ci := 5) (v := .ref bo) (C := RX5) (T := TX5) (N := 5) hx hb hts inlX5 hown hG.K hP 0 rfl rfl 2 (by decide) (hts _ mF_X5_24) (fun _ h9 => h9) rfl dX5_init_46 ?_
        refine lv_iconst (v := 0) hx hb dX5_init_49 (by decide) ?_
        have hP9 := hP.sub (ws' := [oO bo 2 [.ref ba, .int (nI i)], aI D ba 4 (fun _ => 0)]) [3, 4] rfl
        have hD9 := (hD.sub (ws' := [oO bo 2 [.ref ba, .int (nI i)], aI D ba 4 (fun _ => 0)]) [3, 4] (by decide) rfl).weaken (B := fun _ => True) (fun _ _ _ _ => trivial)
        refine kv (wr := [oO xo 5 [.ref lc, .ref lt, .ref bo, .null, .null], oO lc 7 [.int 0, .ref z, .int (nI 0)], oO lt 7 [.int 0, .ref z, .int (nI 0)]]) (rV (rest := []) (qc := (RX2, TX2, 2)) [.int 0] 1 0 0 hC (c_append l D (r := bo) (x := 0) (a := ba) (sz := i) (n := 4) (f := fun _ => 0) (hz0 := H.size) (by omega) (by omega)) rfl (hP 3 _ rfl) (gV mM_X5_28 mI_X2_append mS_X2_append mN_X2 mC_X2_append) (by decide +kernel) rfl rfl ⟨Nat.le_of_ble_eq_true rfl, Nat.le_of_ble_eq_true rfl⟩ hG hP9 hD9 rfl hl.1 rfl (Nat.le_of_ble_eq_true rfl) dX5_init_50 ⟨Nat.le_of_ble_eq_true rfl, Nat.le_of_ble_eq_true rfl⟩) hP hD hS hA [3, 4] [0, 1, 2] rfl rfl (by decide) (by decide) (fun u50 H locs h50 hP hD hS hz hfr => ?_)
        have hP : va_P D cls [oO xo 5 [.ref lc, .ref lt, .ref bo, .null, .null], oO lc 7 [.int 0, .ref z, .int (nI 0)], oO lt 7 [.int 0, .ref z, .int (nI 0)], oO bo 2 [.ref ba, .int (nI (i + 1))], aI D ba 4 (insF (fun _ => 0) i i 0)] H := hP
        have hD : va_D A [oO xo 5 [.ref lc, .ref lt, .ref bo, .null, .null], oO lc 7 [.int 0, .ref z, .int (nI 0)], oO lt 7 [.int 0, .ref z, .int (nI 0)], oO bo 2 [.ref ba, .int (nI (i + 1))], aI D ba 4 (insF (fun _ => 0) i i 0)] := hD
        have hcv1 : (fun _ => 0) = (insF (fun _ => 0) i i 0) := (insF_zero i).symm
        have hP := Eq.mpr (congrArg (fun z9 => va_P D cls [oO xo 5 [.ref lc, .ref lt, .ref bo, .null, .null], oO lc 7 [.int 0, .ref z, .int (nI 0)], oO lt 7 [.int 0, .ref z, .int (nI 0)], oO bo 2 [.ref ba, .int (nI (i + 1))], aI D ba 4 z9] H) hcv1) hP
        have hD := Eq.mpr (congrArg (fun z9 => va_D A [oO xo 5 [.ref lc, .ref lt, .ref bo, .null, .null], oO lc 7 [.int 0, .ref z, .int (nI 0)], oO lt 7 [.int 0, .ref z, .int (nI 0)], oO bo 2 [.ref ba, .int (nI (i + 1))], aI D ba 4 z9]) hcv1) hD
        have hP : va_P D cls [oO xo 5 [.ref lc, .ref lt, .ref bo, .null, .null], oO lc 7 [.int 0, .ref z, .int (nI 0)], oO lt 7 [.int 0, .ref z, .int (nI 0)], oO bo 2 [.ref ba, .int (nI (i + 1))], aI D ba 4 (fun _ => 0)] H := hP
        have hD : va_D A [oO xo 5 [.ref lc, .ref lt, .ref bo, .null, .null], oO lc 7 [.int 0, .ref z, .int (nI 0)], oO lt 7 [.int 0, .ref z, .int (nI 0)], oO bo 2 [.ref ba, .int (nI (i + 1))], aI D ba 4 (fun _ => 0)] := hD
        refine lv_iinc (v := nI (i + 1)) (lv' := [(1, .int (nI (i + 1))), (0, .ref xo)]) hx hb dX5_init_53 hl (k := 1) rfl (nI_1 _) (by decide) rfl (fun ls hl => ?_)
        refine lv_goto (tgt := 40) hx hb dX5_init_56 (by decide) ?_
        exact ih40 (i + 1) (by omega) (by omega) _ _ _ hP hD hS (lv_sub hl [1, 0] rfl)
  exact loop40 _ 0 (Nat.lt_succ_self _) (by omega) _ _ _ hP hD hS (lv_sub hl [1, 0] rfl)
