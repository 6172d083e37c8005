/-- the JDK's floorDiv of longs -/
def fdL (x y : Int64) : Int64 := if (x ^^^ y) < 0 ∧ ¬ x / y * y = x then x / y - 1 else x / y
/-- what both sides call rounded -/
def rnd (a b : Int64) : Int32 := (fdL (2 * a + b) (2 * b)).toInt32
set_option maxHeartbeats 4000000 in
set_option maxRecDepth 100000 in
theorem c_floorDiv (l : Launch) (D : va_G) {x y : Int64} (hy : ¬ y = 0) : Met l yJ9_floorDiv_f86c9 (ws_ yJ9_floorDiv_f86c9 cJ9_floorDiv_f86c9 6 (some .long)) ({ frames := 0, cells := 0, slots := 0, locals := 0 } : Room) (va_Pc [.long x, .long y] (PW D [])) (vp_Sl (fun v => v = fdL x y)) 0 0 (fun _ => False) := by
  refine va_MetF (cc := cJ9_floorDiv_f86c9) (maxL := 6) (ret := (some .long)) (by decide +kernel) rfl ?_
  intro p e s m args below meth c s₁ B hml hv
  obtain ⟨rfl, hG, hP⟩ := hv
  have hx := B.exec
  have hb := B.bytes
  have hr := B.returns
  have hts : ∀ w ∈ wsL_law, w.before _ s = true := fun w h => atoms_spec (ws := (ws_ yJ9_floorDiv_f86c9 cJ9_floorDiv_f86c9 6 (some .long))) B.pre w (List.mem_cons_of_mem _ h)
  have hown : s.vm.findClass RJ9 = some m.cls := findClass_of_methodNamed B.named
  have hlk := B.notSynchronized
  have hC : CallFix p m c cJ9_floorDiv_f86c9 6 s _ wsL_law RJ9 := ⟨hx, hb, hml, hown, hts⟩
  have hl := lv_entry ([.long x, .long y]) (n := 6) (Nat.le_of_ble_eq_true rfl)
  rw [lg_entry_eq]
  generalize (lg_sl ([.long x, .long y]) ++ List.replicate (6 - (lg_sl ([.long x, .long y])).length) Slot.unset).toArray = ls at hl ⊢
  have hl : lv_has ls 6 [(0, .long x), (2, .long y)] := hl
  refine lv_lload_n hx hb dJ9_floorDiv_f86c9_0 rfl (lv_at hl 0 rfl) ?_
  refine lv_lload_n hx hb dJ9_floorDiv_f86c9_1 rfl (lv_at hl 1 rfl) ?_
  refine lv_ldiv hx hb dJ9_floorDiv_f86c9_2 (hy) ?_
  refine lv_lstore (lv' := [(4, .long (x / y)), (0, .long x), (2, .long y)]) hx hb dJ9_floorDiv_f86c9_3 hl (by decide) rfl (fun ls hl => ?_)
  refine lv_lload_n hx hb dJ9_floorDiv_f86c9_5 rfl (lv_at hl 1 rfl) ?_
  refine lv_lload_n hx hb dJ9_floorDiv_f86c9_6 rfl (lv_at hl 2 rfl) ?_
  refine lv_lxor hx hb dJ9_floorDiv_f86c9_7 ?_
  refine lv_lconst (v := 0) hx hb dJ9_floorDiv_f86c9_8 (by decide) ?_
  refine W.lcmp hx hb dJ9_floorDiv_f86c9_9 ?_
  refine lv_if_ge (tgt := 27) hx hb dJ9_floorDiv_f86c9_10 (by decide) (fun c10 => ?_) (fun c10 => ?_)
  · skip
    have n10 := (lg_cmp_ge (x ^^^ y) 0).mp c10
    refine lv_lload hx hb dJ9_floorDiv_f86c9_27 (lv_at hl 0 rfl) ?_
    refine Rl hx hb hr hlk ?_ dJ9_floorDiv_f86c9_29
    show _ = fdL x y
    rw [fdL, if_neg]
    first
    | exact fun h => absurd n10 (Int64.not_le.mpr h.1)
    | exact fun h => h.2 n19
  · skip
    have n10 := mt (lg_cmp_ge (x ^^^ y) 0).mpr c10
    refine lv_lload hx hb dJ9_floorDiv_f86c9_13 (lv_at hl 0 rfl) ?_
    refine lv_lload_n hx hb dJ9_floorDiv_f86c9_15 rfl (lv_at hl 2 rfl) ?_
    refine lv_lmul hx hb dJ9_floorDiv_f86c9_16 ?_
    refine lv_lload_n hx hb dJ9_floorDiv_f86c9_17 rfl (lv_at hl 1 rfl) ?_
    refine W.lcmp hx hb dJ9_floorDiv_f86c9_18 ?_
    refine lv_if_eq (tgt := 27) hx hb dJ9_floorDiv_f86c9_19 (by decide) (fun c19 => ?_) (fun c19 => ?_)
    · skip
      have n19 := (lg_cmp_eq ((x / y) * y) x).mp c19
      refine lv_lload hx hb dJ9_floorDiv_f86c9_27 (lv_at hl 0 rfl) ?_
      refine Rl hx hb hr hlk ?_ dJ9_floorDiv_f86c9_29
      show _ = fdL x y
      rw [fdL, if_neg]
      first
      | exact fun h => absurd n10 (Int64.not_le.mpr h.1)
      | exact fun h => h.2 n19
    · skip
      have n19 := mt (lg_cmp_eq ((x / y) * y) x).mpr c19
      refine lv_lload hx hb dJ9_floorDiv_f86c9_22 (lv_at hl 0 rfl) ?_
      refine lv_lconst (v := 1) hx hb dJ9_floorDiv_f86c9_24 (by decide) ?_
      refine lv_lsub hx hb dJ9_floorDiv_f86c9_25 ?_
      refine Rl hx hb hr hlk ?_ dJ9_floorDiv_f86c9_26
      show _ = fdL x y
      rw [fdL, if_pos ⟨Int64.not_le.mp n10, n19⟩]
set_option maxHeartbeats 4000000 in
set_option maxRecDepth 100000 in
theorem c_isIn (l : Launch) (D : va_G) {x a b : Int32}  : Met l yX5_isIn (ws_ yX5_isIn cX5_isIn 3 (some .boolean)) ({ frames := 0, cells := 0, slots := 0, locals := 0 } : Room) (va_Pc [.int x, .int a, .int b] (PW D [])) (vp_Si (fun v => (v = 1 ∧ (a ≤ x ∧ x ≤ b)) ∨ (v = 0 ∧ ¬ (a ≤ x ∧ x ≤ b)))) 0 0 (fun _ => False) := by
  refine Met.ofW (cc := cX5_isIn) (maxL := 3) (ret := (some .boolean)) (by decide) rfl ?_
  intro p e s m args below meth c s₁ B hml hv
  obtain ⟨rfl, hG, hP⟩ := hv
  have hx := B.exec
  have hb := B.bytes
  have hr := B.returns
  have hts : ∀ w ∈ wsL_law, w.before _ s = true := fun w h => atoms_spec (ws := (ws_ yX5_isIn cX5_isIn 3 (some .boolean))) B.pre w (List.mem_cons_of_mem _ h)
  have hown : s.vm.findClass RX5 = some m.cls := findClass_of_methodNamed B.named
  have hlk := B.notSynchronized
  have hC : CallFix p m c cX5_isIn 3 s _ wsL_law RX5 := ⟨hx, hb, hml, hown, hts⟩
  have hl := lv_entry ([.int x, .int a, .int b]) (n := 3) (Nat.le_of_ble_eq_true rfl)
  rw [lg_entry_eq]
  generalize (lg_sl ([.int x, .int a, .int b]) ++ List.replicate (3 - (lg_sl ([.int x, .int a, .int b])).length) Slot.unset).toArray = ls at hl ⊢
  have hl : lv_has ls 3 [(0, .int x), (1, .int a), (2, .int b)] := hl
  refine lv_iload_n hx hb dX5_isIn_0 rfl (lv_at hl 0 rfl) ?_
  refine lv_iload_n hx hb dX5_isIn_1 rfl (lv_at hl 1 rfl) ?_
  refine lv_icmp_lt (tgt := 14) hx hb dX5_isIn_2 (by decide) (fun c2 => ?_) (fun c2 => ?_)
  · skip
    refine lv_iconst (v := 0) hx hb dX5_isIn_14 (by decide) ?_
    refine Rz hx hb hr hlk (by first | rfl | decide) ?_ dX5_isIn_15
    first
    | exact Or.inl ⟨rfl, Int32.not_lt.mp c2, Int32.not_lt.mp c7⟩
    | exact Or.inr ⟨rfl, fun h => absurd c2 (Int32.not_lt.mpr h.1)⟩
    | exact Or.inr ⟨rfl, fun h => absurd c7 (Int32.not_lt.mpr h.2)⟩
  · skip
    refine lv_iload_n hx hb dX5_isIn_5 rfl (lv_at hl 0 rfl) ?_
    refine lv_iload_n hx hb dX5_isIn_6 rfl (lv_at hl 2 rfl) ?_
    refine lv_icmp_gt (tgt := 14) hx hb dX5_isIn_7 (by decide) (fun c7 => ?_) (fun c7 => ?_)
    · skip
      refine lv_iconst (v := 0) hx hb dX5_isIn_14 (by decide) ?_
      refine Rz hx hb hr hlk (by first | rfl | decide) ?_ dX5_isIn_15
      first
      | exact Or.inl ⟨rfl, Int32.not_lt.mp c2, Int32.not_lt.mp c7⟩
      | exact Or.inr ⟨rfl, fun h => absurd c2 (Int32.not_lt.mpr h.1)⟩
      | exact Or.inr ⟨rfl, fun h => absurd c7 (Int32.not_lt.mpr h.2)⟩
    · skip
      refine lv_iconst (v := 1) hx hb dX5_isIn_10 (by decide) ?_
      refine lv_goto (tgt := 15) hx hb dX5_isIn_11 (by decide) ?_
      refine Rz hx hb hr hlk (by first | rfl | decide) ?_ dX5_isIn_15
      first
      | exact Or.inl ⟨rfl, Int32.not_lt.mp c2, Int32.not_lt.mp c7⟩
      | exact Or.inr ⟨rfl, fun h => absurd c2 (Int32.not_lt.mpr h.1)⟩
      | exact Or.inr ⟨rfl, fun h => absurd c7 (Int32.not_lt.mpr h.2)⟩
set_option maxHeartbeats 4000000 in
set_option maxRecDepth 100000 in
theorem c_isProperty (l : Launch) (D : va_G) {x : Int32}  : Met l yX5_isProperty (ws_ yX5_isProperty cX5_isProperty 1 (some .boolean)) ({ frames := 1, cells := 0, slots := 0, locals := 22 } : Room) (va_Pc [.int x] (PW D [])) (vp_Si (fun v => (v = 1 ∧ ((0 : Int32) ≤ x ∧ x ≤ 3)) ∨ (v = 0 ∧ ¬ ((0 : Int32) ≤ x ∧ x ≤ 3)))) 0 0 (fun _ => False) := by
  refine Met.ofW (cc := cX5_isProperty) (maxL := 1) (ret := (some .boolean)) (by decide) rfl ?_
  intro p e s m args below meth c s₁ B hml hv
  obtain ⟨rfl, hG, hP⟩ := hv
  have hx := B.exec
  have hb := B.bytes
  have hr := B.returns
  have hts : ∀ w ∈ wsL_law, w.before _ s = true := fun w h => atoms_spec (ws := (ws_ yX5_isProperty cX5_isProperty 1 (some .boolean))) B.pre w (List.mem_cons_of_mem _ h)
  have hown : s.vm.findClass RX5 = some m.cls := findClass_of_methodNamed B.named
  have hlk := B.notSynchronized
  have hC : CallFix p m c cX5_isProperty 1 s _ wsL_law RX5 := ⟨hx, hb, hml, hown, hts⟩
  have hl := lv_entry ([.int x]) (n := 1) (Nat.le_of_ble_eq_true rfl)
  rw [lg_entry_eq]
  generalize (lg_sl ([.int x]) ++ List.replicate (1 - (lg_sl ([.int x])).length) Slot.unset).toArray = ls at hl ⊢
  have hl : lv_has ls 1 [(0, .int x)] := hl
  refine lv_iload_n hx hb dX5_isProperty_0 rfl (lv_at hl 0 rfl) ?_
  refine lv_iconst (v := 0) hx hb dX5_isProperty_1 (by decide) ?_
  refine lv_iconst (v := 3) hx hb dX5_isProperty_2 (by decide) ?_
  have hP9 : va_P D cls [] s.heap := fun k q h => by simp at h
  refine vp_callSi (pS (rest := []) [.int x, .int 0, .int 3] 3 hC (c_isIn l D (x := x) (a := 0) (b := 3) ) (gS mM_X5_41 mT_X5_isIn mN_X5 mC_X5_isIn) (by decide +kernel) rfl rfl ⟨Nat.le_of_ble_eq_true rfl, Nat.le_of_ble_eq_true rfl⟩ hG hP9 rfl hl.1 rfl (Nat.le_of_ble_eq_true rfl) dX5_isProperty_3 ⟨Nat.le_of_ble_eq_true rfl, Nat.le_of_ble_eq_true rfl⟩) (fun r3 h3 => ?_)
  rcases h3 with ⟨rfl, hb3⟩ | ⟨rfl, hb3⟩
  · skip
    refine Rz hx hb hr hlk (by first | rfl | decide) ?_ dX5_isProperty_6
    first | exact Or.inl ⟨rfl, hb3⟩ | exact Or.inr ⟨rfl, hb3⟩
  · skip
    refine Rz hx hb hr hlk (by first | rfl | decide) ?_ dX5_isProperty_6
    first | exact Or.inl ⟨rfl, hb3⟩ | exact Or.inr ⟨rfl, hb3⟩
set_option maxHeartbeats 4000000 in
set_option maxRecDepth 100000 in
theorem c_isValue (l : Launch) (D : va_G) {x : Int32}  : Met l yX5_isValue (ws_ yX5_isValue cX5_isValue 1 (some .boolean)) ({ frames := 1, cells := 0, slots := 0, locals := 22 } : Room) (va_Pc [.int x] (PW D [])) (vp_Si (fun v => (v = 1 ∧ ((-10000 : Int32) ≤ x ∧ x ≤ 10000)) ∨ (v = 0 ∧ ¬ ((-10000 : Int32) ≤ x ∧ x ≤ 10000)))) 0 0 (fun _ => False) := by
  refine Met.ofW (cc := cX5_isValue) (maxL := 1) (ret := (some .boolean)) (by decide) rfl ?_
  intro p e s m args below meth c s₁ B hml hv
  obtain ⟨rfl, hG, hP⟩ := hv
  have hx := B.exec
  have hb := B.bytes
  have hr := B.returns
  have hts : ∀ w ∈ wsL_law, w.before _ s = true := fun w h => atoms_spec (ws := (ws_ yX5_isValue cX5_isValue 1 (some .boolean))) B.pre w (List.mem_cons_of_mem _ h)
  have hown : s.vm.findClass RX5 = some m.cls := findClass_of_methodNamed B.named
  have hlk := B.notSynchronized
  have hC : CallFix p m c cX5_isValue 1 s _ wsL_law RX5 := ⟨hx, hb, hml, hown, hts⟩
  have hl := lv_entry ([.int x]) (n := 1) (Nat.le_of_ble_eq_true rfl)
  rw [lg_entry_eq]
  generalize (lg_sl ([.int x]) ++ List.replicate (1 - (lg_sl ([.int x])).length) Slot.unset).toArray = ls at hl ⊢
  have hl : lv_has ls 1 [(0, .int x)] := hl
  refine lv_iload_n hx hb dX5_isValue_0 rfl (lv_at hl 0 rfl) ?_
  refine lv_sipush (v := -10000) hx hb dX5_isValue_1 (by decide) ?_
  refine lv_sipush (v := 10000) hx hb dX5_isValue_4 (by decide) ?_
  have hP9 : va_P D cls [] s.heap := fun k q h => by simp at h
  refine vp_callSi (pS (rest := []) [.int x, .int (-10000), .int 10000] 3 hC (c_isIn l D (x := x) (a := -10000) (b := 10000) ) (gS mM_X5_41 mT_X5_isIn mN_X5 mC_X5_isIn) (by decide +kernel) rfl rfl ⟨Nat.le_of_ble_eq_true rfl, Nat.le_of_ble_eq_true rfl⟩ hG hP9 rfl hl.1 rfl (Nat.le_of_ble_eq_true rfl) dX5_isValue_7 ⟨Nat.le_of_ble_eq_true rfl, Nat.le_of_ble_eq_true rfl⟩) (fun r7 h7 => ?_)
  rcases h7 with ⟨rfl, hb7⟩ | ⟨rfl, hb7⟩
  · skip
    refine Rz hx hb hr hlk (by first | rfl | decide) ?_ dX5_isValue_10
    first | exact Or.inl ⟨rfl, hb7⟩ | exact Or.inr ⟨rfl, hb7⟩
  · skip
    refine Rz hx hb hr hlk (by first | rfl | decide) ?_ dX5_isValue_10
    first | exact Or.inl ⟨rfl, hb7⟩ | exact Or.inr ⟨rfl, hb7⟩
set_option maxHeartbeats 4000000 in
set_option maxRecDepth 100000 in
theorem c_isTime (l : Launch) (D : va_G) {x : Int32}  : Met l yX5_isTime (ws_ yX5_isTime cX5_isTime 1 (some .boolean)) ({ frames := 1, cells := 0, slots := 0, locals := 22 } : Room) (va_Pc [.int x] (PW D [])) (vp_Si (fun v => (v = 1 ∧ ((0 : Int32) ≤ x ∧ x ≤ 100000)) ∨ (v = 0 ∧ ¬ ((0 : Int32) ≤ x ∧ x ≤ 100000)))) 0 0 (fun _ => False) := by
  refine Met.ofW (cc := cX5_isTime) (maxL := 1) (ret := (some .boolean)) (by decide) rfl ?_
  intro p e s m args below meth c s₁ B hml hv
  obtain ⟨rfl, hG, hP⟩ := hv
  have hx := B.exec
  have hb := B.bytes
  have hr := B.returns
  have hts : ∀ w ∈ wsL_law, w.before _ s = true := fun w h => atoms_spec (ws := (ws_ yX5_isTime cX5_isTime 1 (some .boolean))) B.pre w (List.mem_cons_of_mem _ h)
  have hown : s.vm.findClass RX5 = some m.cls := findClass_of_methodNamed B.named
  have hlk := B.notSynchronized
  have hC : CallFix p m c cX5_isTime 1 s _ wsL_law RX5 := ⟨hx, hb, hml, hown, hts⟩
  have hl := lv_entry ([.int x]) (n := 1) (Nat.le_of_ble_eq_true rfl)
  rw [lg_entry_eq]
  generalize (lg_sl ([.int x]) ++ List.replicate (1 - (lg_sl ([.int x])).length) Slot.unset).toArray = ls at hl ⊢
  have hl : lv_has ls 1 [(0, .int x)] := hl
  refine lv_iload_n hx hb dX5_isTime_0 rfl (lv_at hl 0 rfl) ?_
  refine lv_iconst (v := 0) hx hb dX5_isTime_1 (by decide) ?_
  refine lv_ldcw hx hb hown (hts _ mG_X5_264) dX5_isTime_2 ?_
  have hP9 : va_P D cls [] s.heap := fun k q h => by simp at h
  refine vp_callSi (pS (rest := []) [.int x, .int 0, .int 100000] 3 hC (c_isIn l D (x := x) (a := 0) (b := 100000) ) (gS mM_X5_41 mT_X5_isIn mN_X5 mC_X5_isIn) (by decide +kernel) rfl rfl ⟨Nat.le_of_ble_eq_true rfl, Nat.le_of_ble_eq_true rfl⟩ hG hP9 rfl hl.1 rfl (Nat.le_of_ble_eq_true rfl) dX5_isTime_5 ⟨Nat.le_of_ble_eq_true rfl, Nat.le_of_ble_eq_true rfl⟩) (fun r5 h5 => ?_)
  rcases h5 with ⟨rfl, hb5⟩ | ⟨rfl, hb5⟩
  · skip
    refine Rz hx hb hr hlk (by first | rfl | decide) ?_ dX5_isTime_8
    first | exact Or.inl ⟨rfl, hb5⟩ | exact Or.inr ⟨rfl, hb5⟩
  · skip
    refine Rz hx hb hr hlk (by first | rfl | decide) ?_ dX5_isTime_8
    first | exact Or.inl ⟨rfl, hb5⟩ | exact Or.inr ⟨rfl, hb5⟩
set_option maxHeartbeats 4000000 in
set_option maxRecDepth 100000 in
theorem c_cut (l : Launch) (D : va_G) {x y : Int32} (hy : 0 < y) : Met l yX5_cut (ws_ yX5_cut cX5_cut 2 (some .int)) ({ frames := 0, cells := 0, slots := 0, locals := 0 } : Room) (va_Pc [.int x, .int y] (PW D [])) (vp_Si (fun v => v = x / y)) 0 0 (fun _ => False) := by
  refine Met.ofW (cc := cX5_cut) (maxL := 2) (ret := (some .int)) (by decide) rfl ?_
  intro p e s m args below meth c s₁ B hml hv
  obtain ⟨rfl, hG, hP⟩ := hv
  have hx := B.exec
  have hb := B.bytes
  have hr := B.returns
  have hts : ∀ w ∈ wsL_law, w.before _ s = true := fun w h => atoms_spec (ws := (ws_ yX5_cut cX5_cut 2 (some .int))) B.pre w (List.mem_cons_of_mem _ h)
  have hown : s.vm.findClass RX5 = some m.cls := findClass_of_methodNamed B.named
  have hlk := B.notSynchronized
  have hC : CallFix p m c cX5_cut 2 s _ wsL_law RX5 := ⟨hx, hb, hml, hown, hts⟩
  have hl := lv_entry ([.int x, .int y]) (n := 2) (Nat.le_of_ble_eq_true rfl)
  rw [lg_entry_eq]
  generalize (lg_sl ([.int x, .int y]) ++ List.replicate (2 - (lg_sl ([.int x, .int y])).length) Slot.unset).toArray = ls at hl ⊢
  have hl : lv_has ls 2 [(0, .int x), (1, .int y)] := hl
  refine lv_iload_n hx hb dX5_cut_0 rfl (lv_at hl 1 rfl) ?_
  refine lv_if_le (tgt := 10) hx hb dX5_cut_1 (by decide) (fun c1 => absurd c1 (Int32.not_le.mpr hy)) (fun c1 => ?_)
  refine lv_iload_n hx hb dX5_cut_4 rfl (lv_at hl 0 rfl) ?_
  refine lv_iload_n hx hb dX5_cut_5 rfl (lv_at hl 1 rfl) ?_
  refine lv_idiv hx hb dX5_cut_6 (fun h => by rw [h] at hy; exact absurd hy (by decide)) ?_
  refine lv_goto (tgt := 11) hx hb dX5_cut_7 (by decide) ?_
  refine Ri hx hb hr hlk ?_ dX5_cut_11
  exact rfl
set_option maxHeartbeats 4000000 in
set_option maxRecDepth 100000 in
theorem c_roundedUp (l : Launch) (D : va_G) {x y : Int32} (hy : 0 < y) : Met l yX5_roundedUp (ws_ yX5_roundedUp cX5_roundedUp 2 (some .int)) ({ frames := 0, cells := 0, slots := 0, locals := 0 } : Room) (va_Pc [.int x, .int y] (PW D [])) (vp_Si (fun v => v = (x + y - 1) / y)) 0 0 (fun _ => False) := by
  refine Met.ofW (cc := cX5_roundedUp) (maxL := 2) (ret := (some .int)) (by decide) rfl ?_
  intro p e s m args below meth c s₁ B hml hv
  obtain ⟨rfl, hG, hP⟩ := hv
  have hx := B.exec
  have hb := B.bytes
  have hr := B.returns
  have hts : ∀ w ∈ wsL_law, w.before _ s = true := fun w h => atoms_spec (ws := (ws_ yX5_roundedUp cX5_roundedUp 2 (some .int))) B.pre w (List.mem_cons_of_mem _ h)
  have hown : s.vm.findClass RX5 = some m.cls := findClass_of_methodNamed B.named
  have hlk := B.notSynchronized
  have hC : CallFix p m c cX5_roundedUp 2 s _ wsL_law RX5 := ⟨hx, hb, hml, hown, hts⟩
  have hl := lv_entry ([.int x, .int y]) (n := 2) (Nat.le_of_ble_eq_true rfl)
  rw [lg_entry_eq]
  generalize (lg_sl ([.int x, .int y]) ++ List.replicate (2 - (lg_sl ([.int x, .int y])).length) Slot.unset).toArray = ls at hl ⊢
  have hl : lv_has ls 2 [(0, .int x), (1, .int y)] := hl
  refine lv_iload_n hx hb dX5_roundedUp_0 rfl (lv_at hl 1 rfl) ?_
  refine lv_if_le (tgt := 14) hx hb dX5_roundedUp_1 (by decide) (fun c1 => absurd c1 (Int32.not_le.mpr hy)) (fun c1 => ?_)
  refine lv_iload_n hx hb dX5_roundedUp_4 rfl (lv_at hl 0 rfl) ?_
  refine lv_iload_n hx hb dX5_roundedUp_5 rfl (lv_at hl 1 rfl) ?_
  refine lv_iadd hx hb dX5_roundedUp_6 ?_
  refine lv_iconst (v := 1) hx hb dX5_roundedUp_7 (by decide) ?_
  refine lv_isub hx hb dX5_roundedUp_8 ?_
  refine lv_iload_n hx hb dX5_roundedUp_9 rfl (lv_at hl 1 rfl) ?_
  refine lv_idiv hx hb dX5_roundedUp_10 (fun h => by rw [h] at hy; exact absurd hy (by decide)) ?_
  refine lv_goto (tgt := 15) hx hb dX5_roundedUp_11 (by decide) ?_
  refine Ri hx hb hr hlk ?_ dX5_roundedUp_15
  exact rfl
set_option maxHeartbeats 4000000 in
set_option maxRecDepth 100000 in
theorem c_rounded (l : Launch) (D : va_G) {x y : Int64} (hy : 0 < y) (hy2 : ¬ 2 * y = 0) : Met l yX5_rounded (ws_ yX5_rounded cX5_rounded 4 (some .int)) ({ frames := 1, cells := 0, slots := 0, locals := 25 } : Room) (va_Pc [.long x, .long y] (PW D [])) (vp_Si (fun v => v = rnd x y)) 0 0 (fun _ => False) := by
  refine Met.ofW (cc := cX5_rounded) (maxL := 4) (ret := (some .int)) (by decide) rfl ?_
  intro p e s m args below meth c s₁ B hml hv
  obtain ⟨rfl, hG, hP⟩ := hv
  have hx := B.exec
  have hb := B.bytes
  have hr := B.returns
  have hts : ∀ w ∈ wsL_law, w.before _ s = true := fun w h => atoms_spec (ws := (ws_ yX5_rounded cX5_rounded 4 (some .int))) B.pre w (List.mem_cons_of_mem _ h)
  have hown : s.vm.findClass RX5 = some m.cls := findClass_of_methodNamed B.named
  have hlk := B.notSynchronized
  have hC : CallFix p m c cX5_rounded 4 s _ wsL_law RX5 := ⟨hx, hb, hml, hown, hts⟩
  have hl := lv_entry ([.long x, .long y]) (n := 4) (Nat.le_of_ble_eq_true rfl)
  rw [lg_entry_eq]
  generalize (lg_sl ([.long x, .long y]) ++ List.replicate (4 - (lg_sl ([.long x, .long y])).length) Slot.unset).toArray = ls at hl ⊢
  have hl : lv_has ls 4 [(0, .long x), (2, .long y)] := hl
  refine lv_lload_n hx hb dX5_rounded_0 rfl (lv_at hl 1 rfl) ?_
  refine lv_lconst (v := 0) hx hb dX5_rounded_1 (by decide) ?_
  refine W.lcmp hx hb dX5_rounded_2 ?_
  refine lv_if_le (tgt := 25) hx hb dX5_rounded_3 (by decide) (fun c3 => absurd c3 (fun h => absurd ((lg_cmp_le _ _).mp h) (Int64.not_le.mpr hy))) (fun c3 => ?_)
  refine lv_ldc2 hx hb hown (hts _ mH_X5_329) dX5_rounded_6 ?_
  refine lv_lload_n hx hb dX5_rounded_9 rfl (lv_at hl 0 rfl) ?_
  refine lv_lmul hx hb dX5_rounded_10 ?_
  refine lv_lload_n hx hb dX5_rounded_11 rfl (lv_at hl 1 rfl) ?_
  refine lv_ladd hx hb dX5_rounded_12 ?_
  refine lv_ldc2 hx hb hown (hts _ mH_X5_329) dX5_rounded_13 ?_
  refine lv_lload_n hx hb dX5_rounded_16 rfl (lv_at hl 1 rfl) ?_
  refine lv_lmul hx hb dX5_rounded_17 ?_
  have hP9 : va_P D cls [] s.heap := fun k q h => by simp at h
  refine vp_callSl (pS (rest := []) [.long ((2 * x) + y), .long (2 * y)] 2 hC (c_floorDiv l D (x := (2 * x) + y) (y := 2 * y) (hy2)) (gS mM_X5_331 mT_J9_floorDiv_f86c9 mN_J9 mC_J9_floorDiv_f86c9) (by decide +kernel) rfl rfl ⟨Nat.le_of_ble_eq_true rfl, Nat.le_of_ble_eq_true rfl⟩ hG hP9 rfl hl.1 rfl (Nat.le_of_ble_eq_true rfl) dX5_rounded_18 ⟨Nat.le_of_ble_eq_true rfl, Nat.le_of_ble_eq_true rfl⟩) (fun r18 h18 => ?_)
  obtain rfl : r18 = (fdL ((2 * x) + y) (2 * y)) := h18
  refine lv_l2i hx hb dX5_rounded_21 rfl ?_
  refine lv_goto (tgt := 26) hx hb dX5_rounded_22 (by decide) ?_
  refine Ri hx hb hr hlk ?_ dX5_rounded_26
  exact rfl
set_option maxHeartbeats 4000000 in
set_option maxRecDepth 100000 in
theorem c_Row_init (l : Launch) (D : va_G) {r n : Nat} (hz0 : Nat) (h0 : 0 < n) (hn : n ≤ 1000) : Met l yX2_init (ws_ yX2_init cX2_init 2 none) ({ frames := 1, cells := 1, slots := n, locals := 20 } : Room) (va_Pc [.ref r, .int (nI n)] (SW D [oO r 2 [.null, .int 0]] hz0)) (va_Qv (fun _ => True) (AT D (va_A [oO r 2 [.null, .int 0]] hz0) (fun a : Nat => [oO r 2 [.ref a, .int (nI 0)], aI D a n (fun _ => 0)])) (va_A [oO r 2 [.null, .int 0]] hz0)) 1 n (va_A [oO r 2 [.null, .int 0]] hz0) := by
  refine Met.ofW (cc := cX2_init) (maxL := 2) (ret := none) (by decide) rfl ?_
  intro p e s m args below meth c s₁ B hml hv
  obtain ⟨rfl, hsz, hG, hP, hD0⟩ := hv
  have hx := B.exec
  have hb := B.bytes
  have hr := B.returns
  have hts : ∀ w ∈ wsL_law, w.before _ s = true := fun w h => atoms_spec (ws := (ws_ yX2_init cX2_init 2 none)) B.pre w (List.mem_cons_of_mem _ h)
  have hown : s.vm.findClass RX2 = some m.cls := findClass_of_methodNamed B.named
  have hlk := B.notSynchronized
  have hC : CallFix p m c cX2_init 2 s _ wsL_law RX2 := ⟨hx, hb, hml, hown, hts⟩
  have hin : meth.name = "<init>" := (name_of_methodNamed B.named B.method).1
  subst hsz
  have hD := hD0.self (sz := s.heap.size)
  generalize hAe : va_A [oO r 2 [.null, .int 0]] s.heap.size = A at hD ⊢
  have hA : ∀ q : Nat, s.heap.size ≤ q → A q := fun q h => by rw [← hAe]; exact Or.inr h
  have hS : va_S A s.heap s.heap [] := va_S.rf
  obtain ⟨H, hHe⟩ : ∃ H, H = s.heap := ⟨_, rfl⟩
  rw [← hHe] at hP
  have hS : va_S A s.heap H [] := by rw [hHe]; exact hS
  have hl := lv_entry ([.ref r, .int (nI n)]) (n := 2) (Nat.le_of_ble_eq_true rfl)
  rw [lg_entry_eq]
  generalize (lg_sl ([.ref r, .int (nI n)]) ++ List.replicate (2 - (lg_sl ([.ref r, .int (nI n)])).length) Slot.unset).toArray = ls at hl ⊢
  have hl : lv_has ls 2 [(0, .ref r), (1, .int (nI n))] := hl
  rw [← hHe]
  refine lv_aload_n hx hb dX2_init_0 rfl (lv_at hl 0 rfl) ?_
  refine W.objInit hx hb hown (hts _ mM_X2_1) (hts _ mI_objectInit) (hts _ mC_objectInit) rfl (by rw [hml]; exact hl.1) rfl dX2_init_1 (Nat.le_of_ble_eq_true rfl) (Nat.le_of_ble_eq_true rfl) ?_
  refine W.eq (g2 := F0 m 4 ls []) rfl ?_
  refine lv_aload_n hx hb dX2_init_4 rfl (lv_at hl 0 rfl) ?_
  refine lv_iload_n hx hb dX2_init_5 rfl (lv_at hl 1 rfl) ?_
  refine lv_if_le (tgt := 13) hx hb dX2_init_6 (by decide) (fun h9 => absurd ((nI_leI (a := n) (b := 0) (by omega) (by omega)).mp h9) (by omega)) (fun _ => ?_)
  refine lv_iload_n hx hb dX2_init_9 rfl (lv_at hl 1 rfl) ?_
  refine lv_goto (tgt := 14) hx hb dX2_init_10 (by decide) ?_
  refine narI (N := n) hx hb hG hts hP hD hS hA (nI_pos (by omega)) (nI_clamp (by omega)) (by omega) (Nat.le_of_ble_eq_true rfl) (by first | exact Nat.le_of_ble_eq_true rfl | exact Nat.le_of_eq (Nat.zero_add _)) dX2_init_14 (fun a H hP hD hS => ?_)
  have hP : va_P D cls [oO r 2 [.null, .int 0], aI D a n (fun _ => 0)] H := hP
  have hD : va_D A [oO r 2 [.null, .int 0], aI D a n (fun _ => 0)] := hD
  refine va_putF (D := D) (ci := 2) (v := .ref a) (ty := (.array .int)) (C := RX2) (T := TX2) (N := 2) hx hb hts inlX2 tyX2 tyX2_ok nmX2 hown hG.K hP hD hS 0 rfl rfl 0 (by decide) (hts _ mF_X2_7) (fun _ h9 => h9) rfl hin rfl (by decide +kernel) rfl rfl (Nat.le_of_ble_eq_true rfl) dX2_init_16 (fun H locs hP hD hS => ?_)
  have hP : va_P D cls [oO r 2 [.ref a, .int 0], aI D a n (fun _ => 0)] H := hP
  have hD : va_D A [oO r 2 [.ref a, .int 0], aI D a n (fun _ => 0)] := hD
  refine Wv a hx hb hr hlk ?_ hP hD hS (Nat.le_of_ble_eq_true rfl) (by first | exact Nat.le_of_ble_eq_true rfl | exact Nat.le_of_eq (Nat.zero_add _)) dX2_init_19
  exact trivial
