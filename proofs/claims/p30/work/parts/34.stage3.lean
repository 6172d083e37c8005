theorem FX.blind {D : va_G} {N : Nat} {w : Nat → va_W} {A : Nat → Prop} : ∀ (a : Array Value) (U : State) (g : JFrame) (mk : MethodId), FX D N w A U → FX D N w A (U.calling g mk a) := fun _ _ _ _ h => h
theorem insF_end {l : List Nat} {g : Nat → Int32} {x : Nat} (h : ∀ k, k < l.length → g k = nI (l.getD k 0)) : ∀ k, k < (l ++ [x]).length → insF g l.length l.length (nI x) k = nI ((l ++ [x]).getD k 0) := by
  intro k hk
  rw [List.length_append] at hk
  simp only [List.length_cons, List.length_nil] at hk
  rw [insF_at]
  by_cases e : k = l.length
  · subst e
    rw [if_pos rfl]
    simp [List.getD]
  · rw [if_neg e, if_neg (by omega), h k (by omega)]
    simp [List.getD, List.getElem?_append_left (show k < l.length by omega)]
theorem lyT_10 {lay : Nat → Int32} {nS : Nat} (h : nS ≤ 10) : (lyT lay nS 10).length ≤ nS := by
  obtain ⟨p, h1, -⟩ := lyT_len lay nS 10 (by omega)
  rw [h1]
  have := List.length_filter_le p (List.range nS)
  rw [List.length_range] at this
  exact this
/-- the sum of the values at n times -/
def sumF (vf : Nat → Int32) (a0 : Nat) : Nat → Int64
  | 0 => 0
  | k + 1 => sumF vf a0 k + (vf (a0 + k)).toInt64
section
variable {p : Program} {l : Launch} {e : Env} {R : Room} {s : State} {m : MethodId} {args : Array Value} {below : List Frame} {meth : Method} {c : Code} {H : Heap} {locs : List Loc} {cells slots mc ms pc : Nat} {cc : ByteArray} {ls : Array Slot} {D : va_G} {A : Nat → Prop}
theorem Wd {S : Type} {post : UInt64 → S → Prop} {w1 : S → va_W} {v : UInt64} (u : S) (hx : p.tables.exec = Jvm.exec) (hb : c.code = cc) (hr : meth.sig.returnType = some .double) (hk : meth.locks = false) (hp : post v u) (hP : va_P D cls (w1 u) H) (hD : va_D A (w1 u)) (hS : va_S A s.heap H locs) (hc : cells ≤ mc) (hs : slots ≤ ms) (hdg : decode cc pc = .ok (.dreturn, 1)) : W p l e R s m args below meth c H locs cells slots (MQ below (va_Qd post (AT D A w1) A) args s mc ms A) (F0 m pc ls [.double v]) := W.widen hc hs (W.dret hx hb hr (fun t ht _ => ⟨⟨v, u, rfl, hp, by rw [ht]; exact hP, hD⟩, hS.F ht⟩) hS.2.2 hdg hk)
end
set_option maxHeartbeats 4000000 in
set_option maxRecDepth 100000 in
theorem c_end (l : Launch) (D : va_G) {xo lc lt bo yo no : Nat} {et nS : Nat} {m2 : Int32} {sl ck cl ta : Nat → Nat} {pt : Nat → Nat → Int32} {len : Nat → Int32} {q : Nat → Nat → Nat} (hnS : nS ≤ 10) (hp : ∀ i, i < nS → 0 < pt i 5) : Met l yX5_end (ws_ yX5_end cX5_end 3 (some .int)) ({ frames := 3, cells := 0, slots := 0, locals := 81 } : Room) (va_Pc [.ref xo] (PXW D [oO xo 5 [.ref lc, .ref lt, .ref bo, .ref yo, .ref no], oO lt 7 [.int m2, .ref et, .int (nI nS)]] (FX D nS (fun i => [aO D et 10 (lsF sl nS), oO (sl i) 3 [.ref (cl (ck i)), .int (pt i 0), .int (pt i 1), .int (pt i 3), .int (pt i 4), .int (pt i 5), .int (pt i 6), .int (pt i 7), .int (pt i 8), .int (pt i 9), .int (pt i 10), .int (pt i 11), .int (pt i 12)], oO (cl (ck i)) 0 [.int (len (ck i)), .ref (ta (ck i)), .ref (q (ck i) 0), .ref (q (ck i) 1)]]) (fun _ => False)))) (vp_Si (fun v => v = endAll (fun i => endS (len (ck i)) (pt i)) nS)) 0 0 (fun _ => False) := by
  refine Met.ofW (cc := cX5_end) (maxL := 3) (ret := (some .int)) (by decide) rfl ?_
  intro p e s m args below meth c s₁ B hml hv
  obtain ⟨rfl, ⟨hG, hP⟩, hX⟩ := hv
  have hx := B.exec
  have hb := B.bytes
  have hr := B.returns
  have hts : ∀ w ∈ wsL_law, w.before _ s = true := fun w h => atoms_spec (ws := (ws_ yX5_end cX5_end 3 (some .int))) B.pre w (List.mem_cons_of_mem _ h)
  have hown : s.vm.findClass RX5 = some m.cls := findClass_of_methodNamed B.named
  have hlk := B.notSynchronized
  have hC : CallFix p m c cX5_end 3 s _ wsL_law RX5 := ⟨hx, hb, hml, hown, hts⟩
  have hl := lv_entry ([.ref xo]) (n := 3) (Nat.le_of_ble_eq_true rfl)
  rw [lg_entry_eq]
  generalize (lg_sl ([.ref xo]) ++ List.replicate (3 - (lg_sl ([.ref xo])).length) Slot.unset).toArray = ls at hl ⊢
  have hl : lv_has ls 3 [(0, .ref xo)] := hl
  refine lv_iconst (v := 0) hx hb dX5_end_0 (by decide) ?_
  refine lv_istore_n (lv' := [(1, .int 0), (0, .ref xo)]) hx hb dX5_end_1 rfl hl (by decide) rfl (fun ls hl => ?_)
  refine lv_iconst (v := 0) hx hb dX5_end_2 (by decide) ?_
  refine lv_istore_n (lv' := [(2, .int 0), (1, .int 0), (0, .ref xo)]) hx hb dX5_end_3 rfl hl (by decide) rfl (fun ls hl => ?_)
  have loop4 : ∀ (d9 : Nat) (i : Nat), (nS - i) < d9 → (i ≤ nS) → ∀ (ls : Array Slot), lv_has ls 3 [(0, .ref xo), (1, .int (endAll (fun i => endS (len (ck i)) (pt i)) i)), (2, .int (nI i))] → W p l e ({ frames := 3, cells := 0, slots := 0, locals := 81 } : Room) s m ([.ref xo] : List Value).toArray below meth c s.heap [] 0 0 (MQ below (vp_Si (fun v => v = endAll (fun i => endS (len (ck i)) (pt i)) nS)) ([.ref xo] : List Value).toArray s 0 0 (fun _ => False)) (F0 m 4 ls []) := by
    intro d9
    induction d9 with
    | zero => intro i hd; exact absurd hd (Nat.not_lt_zero _)
    | succ d9 ih4 =>
      intro i hd4 hi ls hl
      refine lv_iload_n hx hb dX5_end_4 rfl (lv_at hl 2 rfl) ?_
      refine lv_aload_n hx hb dX5_end_5 rfl (lv_at hl 0 rfl) ?_
      refine va_get (D := D) (ci := 5) (v := .ref lt) (C := RX5) (T := TX5) (N := 5) hx hb hts inlX5 hown hG.K hP 0 rfl rfl 1 (by decide) (hts _ mF_X5_16) (fun _ h9 => h9) rfl dX5_end_6 ?_
      have hP9 := hP.sub (ws' := [oO lt 7 [.int m2, .ref et, .int (nI nS)]]) [1] rfl
      refine vp_callSi (pV (rest := [.int (nI i)]) (qc := (RJx4a65c, TJx4a65c, 3)) [] 0 hC (c_list_size l D (lo := lt) (mc := m2) (ea := et) (n := nS) ) rfl (hP 1 _ rfl) (gV mM_X5_52 mI_Jx4a65c_size_8abf5 mS_Jx4a65c_size_8abf5 mN_Jx4a65c mC_Jx4a65c_size_8abf5) (by decide +kernel) rfl rfl ⟨Nat.le_of_ble_eq_true rfl, Nat.le_of_ble_eq_true rfl⟩ hG hP9 rfl hl.1 rfl (Nat.le_of_ble_eq_true rfl) dX5_end_9 ⟨Nat.le_of_ble_eq_true rfl, Nat.le_of_ble_eq_true rfl⟩) (fun r9 h9 => ?_)
      obtain rfl : r9 = (nI nS) := h9
      refine lv_icmp_ge (tgt := 40) hx hb dX5_end_12 (by decide) (fun c12 => ?_) (fun c12 => ?_)
      · skip
        have n12 := (nI_leI (a := nS) (b := i) (by omega) (by omega)).mp c12
        obtain rfl : i = nS := by omega
        refine lv_iload_n hx hb dX5_end_40 rfl (lv_at hl 1 rfl) ?_
        refine Ri hx hb hr hlk ?_ dX5_end_41
        exact rfl
      · skip
        have n12 := mt (nI_leI (a := nS) (b := i) (by omega) (by omega)).mpr c12
        have hW : va_P D cls [aO D et 10 (lsF sl nS), oO (sl i) 3 [.ref (cl (ck i)), .int (pt i 0), .int (pt i 1), .int (pt i 3), .int (pt i 4), .int (pt i 5), .int (pt i 6), .int (pt i 7), .int (pt i 8), .int (pt i 9), .int (pt i 10), .int (pt i 11), .int (pt i 12)], oO (cl (ck i)) 0 [.int (len (ck i)), .ref (ta (ck i)), .ref (q (ck i) 0), .ref (q (ck i) 1)]] s.heap := (hX i (by omega)).1
        refine lv_iload_n hx hb dX5_end_15 rfl (lv_at hl 1 rfl) ?_
        refine lv_aload_n hx hb dX5_end_16 rfl (lv_at hl 0 rfl) ?_
        refine va_get (D := D) (ci := 5) (v := .ref lt) (C := RX5) (T := TX5) (N := 5) hx hb hts inlX5 hown hG.K hP 0 rfl rfl 1 (by decide) (hts _ mF_X5_16) (fun _ h9 => h9) rfl dX5_end_17 ?_
        refine lv_iload_n hx hb dX5_end_20 rfl (lv_at hl 2 rfl) ?_
        have hP8 := ((hP.sub (ws' := [oO lt 7 [.int m2, .ref et, .int (nI nS)]]) [1] rfl).app (hW.sub (ws' := [aO D et 10 (lsF sl nS)]) [0] rfl))
        have hP9 : va_P D cls [oO lt 7 [.int m2, .ref et, .int (nI nS)], aO D et 10 (lsF sl nS)] s.heap := hP8.sub [0, 1] rfl
        refine va_csq (pV (rest := [.int (endAll (fun i => endS (len (ck i)) (pt i)) i)]) (qc := (RJx4a65c, TJx4a65c, 3)) [.int (nI i)] 1 hC (c_list_get l D (lo := lt) (i := i) (mc := m2) (ea := et) (n := nS) (k := 10) (f := lsF sl nS) (by omega) (by omega) (by omega)) rfl (hP 1 _ rfl) (gV mM_X5_250 mI_Jx4a65c_get_915e3 mS_Jx4a65c_get_915e3 mN_Jx4a65c mC_Jx4a65c_get_915e3) (by decide +kernel) rfl rfl ⟨Nat.le_of_ble_eq_true rfl, Nat.le_of_ble_eq_true rfl⟩ hG hP9 rfl hl.1 rfl (Nat.le_of_ble_eq_true rfl) dX5_end_21 ⟨Nat.le_of_ble_eq_true rfl, Nat.le_of_ble_eq_true rfl⟩) (fun r21 h21 => ?_)
        obtain rfl : r21 = ((lsF sl nS) i) := h21
        refine tpv (y := .ref (sl i)) (lsF_ref (by omega)) ?_
        refine va_castS (nm := RX3) hx hb hown (hts _ mK_X5_183) (hG.K.1 3 _ rfl).2 (rcv hG (hW 1 _ rfl) (ci := 3) rfl) dX5_end_24 ?_
        have hP9 := hW.sub (ws' := [oO (sl i) 3 [.ref (cl (ck i)), .int (pt i 0), .int (pt i 1), .int (pt i 3), .int (pt i 4), .int (pt i 5), .int (pt i 6), .int (pt i 7), .int (pt i 8), .int (pt i 9), .int (pt i 10), .int (pt i 11), .int (pt i 12)], oO (cl (ck i)) 0 [.int (len (ck i)), .ref (ta (ck i)), .ref (q (ck i) 0), .ref (q (ck i) 1)]]) [1, 2] rfl
        refine vp_callSi (pV (rest := [.int (endAll (fun i => endS (len (ck i)) (pt i)) i)]) (qc := (RX3, TX3, 13)) [] 0 hC (c_endTime l D (pt := pt i) (q := q (ck i)) (so := sl i) (co := cl (ck i)) (len := len (ck i)) (ta := ta (ck i)) (hp i (by omega))) rfl (hW 1 _ rfl) (gV mM_X5_206 mI_X3_endTime mS_X3_endTime mN_X3 mC_X3_endTime) (by decide +kernel) rfl rfl ⟨Nat.le_of_ble_eq_true rfl, Nat.le_of_ble_eq_true rfl⟩ hG hP9 rfl hl.1 rfl (Nat.le_of_ble_eq_true rfl) dX5_end_27 ⟨Nat.le_of_ble_eq_true rfl, Nat.le_of_ble_eq_true rfl⟩) (fun r27 h27 => ?_)
        obtain rfl : r27 = (endS (len (ck i)) (pt i)) := h27
        refine va_mmax hx hb (by rw [hml]; exact hl.1.symm) hown (hts _ mM_X5_252) (hts _ mT_Lib_Math_max_name) (hts _ mN__java_lang_Math_) (hts _ mC_Lib_Math_max_name) (Nat.le_of_ble_eq_true rfl) (Nat.le_of_ble_eq_true rfl) (Nat.le_of_ble_eq_true rfl) (Nat.le_of_ble_eq_true rfl) dX5_end_30 ?_
        refine lv_istore_n (lv' := [(1, .int (if (endAll (fun i => endS (len (ck i)) (pt i)) i) < (endS (len (ck i)) (pt i)) then (endS (len (ck i)) (pt i)) else (endAll (fun i => endS (len (ck i)) (pt i)) i))), (0, .ref xo), (2, .int (nI i))]) hx hb dX5_end_33 rfl hl (by decide) rfl (fun ls hl => ?_)
        refine lv_iinc (v := nI (i + 1)) (lv' := [(2, .int (nI (i + 1))), (1, .int (if (endAll (fun i => endS (len (ck i)) (pt i)) i) < (endS (len (ck i)) (pt i)) then (endS (len (ck i)) (pt i)) else (endAll (fun i => endS (len (ck i)) (pt i)) i))), (0, .ref xo)]) hx hb dX5_end_34 hl (k := 2) rfl (nI_1 _) (by decide) rfl (fun ls hl => ?_)
        refine lv_goto (tgt := 4) hx hb dX5_end_37 (by decide) ?_
        exact ih4 (i + 1) (by omega) (by omega) _ (lv_sub hl [2, 1, 0] rfl)
  exact loop4 _ 0 (Nat.lt_succ_self _) (by omega) _ (lv_sub hl [2, 1, 0] rfl)
set_option maxHeartbeats 4000000 in
set_option maxRecDepth 100000 in
theorem c_sortByLayers (l : Launch) (D : va_G) {xo lc lt bo yo no : Nat} {et nS ya n0 : Nat} {m2 : Int32} {sl ck cl : Nat → Nat} {pt : Nat → Nat → Int32} {yf : Nat → Int32} (hz0 : Nat) (hnS : nS ≤ 10) (hn0 : n0 ≤ 10) : Met l yX5_sortByLayers (ws_ yX5_sortByLayers cX5_sortByLayers 3 none) ({ frames := 3, cells := 0, slots := 0, locals := 81 } : Room) (va_Pc [.ref xo] (SX D [oO xo 5 [.ref lc, .ref lt, .ref bo, .ref yo, .ref no], oO lt 7 [.int m2, .ref et, .int (nI nS)], oO yo 2 [.ref ya, .int (nI n0)], aI D ya 10 yf] hz0 (FX D nS (fun i => [aO D et 10 (lsF sl nS), oO (sl i) 3 [.ref (cl (ck i)), .int (pt i 0), .int (pt i 1), .int (pt i 3), .int (pt i 4), .int (pt i 5), .int (pt i 6), .int (pt i 7), .int (pt i 8), .int (pt i 9), .int (pt i 10), .int (pt i 11), .int (pt i 12)]]) (va_A [oO xo 5 [.ref lc, .ref lt, .ref bo, .ref yo, .ref no], oO lt 7 [.int m2, .ref et, .int (nI nS)], oO yo 2 [.ref ya, .int (nI n0)], aI D ya 10 yf] hz0)))) (va_Qv (fun (g : Nat → Int32) => ∀ k, k < (lyT (fun z => pt z 7) nS 10).length → g k = nI ((lyT (fun z => pt z 7) nS 10).getD k 0)) (AT D (va_A [oO xo 5 [.ref lc, .ref lt, .ref bo, .ref yo, .ref no], oO lt 7 [.int m2, .ref et, .int (nI nS)], oO yo 2 [.ref ya, .int (nI n0)], aI D ya 10 yf] hz0) (fun g : Nat → Int32 => [oO xo 5 [.ref lc, .ref lt, .ref bo, .ref yo, .ref no], oO lt 7 [.int m2, .ref et, .int (nI nS)], oO yo 2 [.ref ya, .int (nI (lyT (fun z => pt z 7) nS 10).length)], aI D ya 10 g])) (va_A [oO xo 5 [.ref lc, .ref lt, .ref bo, .ref yo, .ref no], oO lt 7 [.int m2, .ref et, .int (nI nS)], oO yo 2 [.ref ya, .int (nI n0)], aI D ya 10 yf] hz0)) 0 0 (va_A [oO xo 5 [.ref lc, .ref lt, .ref bo, .ref yo, .ref no], oO lt 7 [.int m2, .ref et, .int (nI nS)], oO yo 2 [.ref ya, .int (nI n0)], aI D ya 10 yf] hz0) := by
  refine Met.ofW (cc := cX5_sortByLayers) (maxL := 3) (ret := none) (by decide) rfl ?_
  intro p e s m args below meth c s₁ B hml hv
  obtain ⟨rfl, ⟨hsz, hG, hP, hD0⟩, hX⟩ := hv
  have hx := B.exec
  have hb := B.bytes
  have hr := B.returns
  have hts : ∀ w ∈ wsL_law, w.before _ s = true := fun w h => atoms_spec (ws := (ws_ yX5_sortByLayers cX5_sortByLayers 3 none)) B.pre w (List.mem_cons_of_mem _ h)
  have hown : s.vm.findClass RX5 = some m.cls := findClass_of_methodNamed B.named
  have hlk := B.notSynchronized
  have hC : CallFix p m c cX5_sortByLayers 3 s _ wsL_law RX5 := ⟨hx, hb, hml, hown, hts⟩
  subst hsz
  have hD := hD0.self (sz := s.heap.size)
  generalize hAe : va_A [oO xo 5 [.ref lc, .ref lt, .ref bo, .ref yo, .ref no], oO lt 7 [.int m2, .ref et, .int (nI nS)], oO yo 2 [.ref ya, .int (nI n0)], aI D ya 10 yf] s.heap.size = A at hD hX ⊢
  have hA : ∀ q : Nat, s.heap.size ≤ q → A q := fun q h => by rw [← hAe]; exact Or.inr h
  have hS : va_S A s.heap s.heap [] := va_S.rf
  obtain ⟨H, hHe⟩ : ∃ H, H = s.heap := ⟨_, rfl⟩
  rw [← hHe] at hP
  have hS : va_S A s.heap H [] := by rw [hHe]; exact hS
  have hl := lv_entry ([.ref xo]) (n := 3) (Nat.le_of_ble_eq_true rfl)
  rw [lg_entry_eq]
  generalize (lg_sl ([.ref xo]) ++ List.replicate (3 - (lg_sl ([.ref xo])).length) Slot.unset).toArray = ls at hl ⊢
  have hl : lv_has ls 3 [(0, .ref xo)] := hl
  rw [← hHe]
  refine lv_aload_n hx hb dX5_sortByLayers_0 rfl (lv_at hl 0 rfl) ?_
  refine va_get (D := D) (ci := 5) (v := .ref yo) (C := RX5) (T := TX5) (N := 5) hx hb hts inlX5 hown hG.K hP 0 rfl rfl 3 (by decide) (hts _ mF_X5_31) (fun _ h9 => h9) rfl dX5_sortByLayers_1 ?_
  refine lv_iconst (v := 0) hx hb dX5_sortByLayers_4 (by decide) ?_
  have hP9 := hP.sub (ws' := [oO yo 2 [.ref ya, .int (nI n0)], aI D ya 10 yf]) [2, 3] rfl
  have hD9 := (hD.sub (ws' := [oO yo 2 [.ref ya, .int (nI n0)], aI D ya 10 yf]) [2, 3] (by decide) rfl).weaken (B := fun _ => True) (fun _ _ _ _ => trivial)
  refine kv (wr := [oO xo 5 [.ref lc, .ref lt, .ref bo, .ref yo, .ref no], oO lt 7 [.int m2, .ref et, .int (nI nS)]]) (rV (rest := []) (qc := (RX2, TX2, 2)) [.int 0] 1 0 0 hC (c_shorten l D (r := yo) (j := 0) (a := ya) (sz := n0) (n := 10) (f := yf) (hz0 := H.size) (by omega) (by omega) (by omega)) rfl (hP 2 _ rfl) (gV mM_X5_296 mI_X2_shorten mS_X2_shorten mN_X2 mC_X2_shorten) (by decide +kernel) rfl rfl ⟨Nat.le_of_ble_eq_true rfl, Nat.le_of_ble_eq_true rfl⟩ hG hP9 hD9 rfl hl.1 rfl (Nat.le_of_ble_eq_true rfl) dX5_sortByLayers_5 ⟨Nat.le_of_ble_eq_true rfl, Nat.le_of_ble_eq_true rfl⟩) hP hD hS hA [2, 3] [0, 1] rfl rfl (by decide) (by decide) (fun u5 H locs h5 hP hD hS hz hfr => ?_)
  have hP : va_P D cls [oO xo 5 [.ref lc, .ref lt, .ref bo, .ref yo, .ref no], oO lt 7 [.int m2, .ref et, .int (nI nS)], oO yo 2 [.ref ya, .int (nI (min 0 n0))], aI D ya 10 yf] H := hP
  have hD : va_D A [oO xo 5 [.ref lc, .ref lt, .ref bo, .ref yo, .ref no], oO lt 7 [.int m2, .ref et, .int (nI nS)], oO yo 2 [.ref ya, .int (nI (min 0 n0))], aI D ya 10 yf] := hD
  have hcv1 : (.int (nI (lyT (fun z => pt z 7) nS 0).length) : Value) = (.int (nI (min 0 n0))) := by rw [Nat.zero_min]; rfl
  have hP := Eq.mpr (congrArg (fun z9 => va_P D cls [oO xo 5 [.ref lc, .ref lt, .ref bo, .ref yo, .ref no], oO lt 7 [.int m2, .ref et, .int (nI nS)], oO yo 2 [.ref ya, z9], aI D ya 10 yf] H) hcv1) hP
  have hD := Eq.mpr (congrArg (fun z9 => va_D A [oO xo 5 [.ref lc, .ref lt, .ref bo, .ref yo, .ref no], oO lt 7 [.int m2, .ref et, .int (nI nS)], oO yo 2 [.ref ya, z9], aI D ya 10 yf]) hcv1) hD
  have hP : va_P D cls [oO xo 5 [.ref lc, .ref lt, .ref bo, .ref yo, .ref no], oO lt 7 [.int m2, .ref et, .int (nI nS)], oO yo 2 [.ref ya, .int (nI (lyT (fun z => pt z 7) nS 0).length)], aI D ya 10 yf] H := hP
  have hD : va_D A [oO xo 5 [.ref lc, .ref lt, .ref bo, .ref yo, .ref no], oO lt 7 [.int m2, .ref et, .int (nI nS)], oO yo 2 [.ref ya, .int (nI (lyT (fun z => pt z 7) nS 0).length)], aI D ya 10 yf] := hD
  refine lv_iconst (v := 0) hx hb dX5_sortByLayers_8 (by decide) ?_
  refine lv_istore_n (lv' := [(1, .int 0), (0, .ref xo)]) hx hb dX5_sortByLayers_9 rfl hl (by decide) rfl (fun ls hl => ?_)
  have loop10 : ∀ (d9 : Nat) (L1 : Nat) (g0 : Nat → Int32), (10 - L1) < d9 → (L1 ≤ 10) → (∀ k, k < (lyT (fun z => pt z 7) nS L1).length → g0 k = nI ((lyT (fun z => pt z 7) nS L1).getD k 0)) → ∀ (H : Heap) (locs : List Loc) (ls : Array Slot), va_P D cls [oO xo 5 [.ref lc, .ref lt, .ref bo, .ref yo, .ref no], oO lt 7 [.int m2, .ref et, .int (nI nS)], oO yo 2 [.ref ya, .int (nI (lyT (fun z => pt z 7) nS L1).length)], aI D ya 10 g0] H → va_D A [oO xo 5 [.ref lc, .ref lt, .ref bo, .ref yo, .ref no], oO lt 7 [.int m2, .ref et, .int (nI nS)], oO yo 2 [.ref ya, .int (nI (lyT (fun z => pt z 7) nS L1).length)], aI D ya 10 g0] → va_S A s.heap H locs → lv_has ls 3 [(0, .ref xo), (1, .int (nI L1))] → W p l e ({ frames := 3, cells := 0, slots := 0, locals := 81 } : Room) s m ([.ref xo] : List Value).toArray below meth c H locs 0 0 (MQ below (va_Qv (fun (g : Nat → Int32) => ∀ k, k < (lyT (fun z => pt z 7) nS 10).length → g k = nI ((lyT (fun z => pt z 7) nS 10).getD k 0)) (AT D A (fun g : Nat → Int32 => [oO xo 5 [.ref lc, .ref lt, .ref bo, .ref yo, .ref no], oO lt 7 [.int m2, .ref et, .int (nI nS)], oO yo 2 [.ref ya, .int (nI (lyT (fun z => pt z 7) nS 10).length)], aI D ya 10 g])) A) ([.ref xo] : List Value).toArray s 0 0 A) (F0 m 10 ls []) := by
    intro d9
    induction d9 with
    | zero => intro L1 g0 hd; exact absurd hd (Nat.not_lt_zero _)
    | succ d9 ih10 =>
      intro L1 g0 hd10 hL hg0 H locs ls hP hD hS hl
      refine lv_iload_n hx hb dX5_sortByLayers_10 rfl (lv_at hl 1 rfl) ?_
      refine lv_bipush (v := 9) hx hb dX5_sortByLayers_11 (by decide) ?_
      refine lv_icmp_gt (tgt := 67) hx hb dX5_sortByLayers_13 (by decide) (fun c13 => ?_) (fun c13 => ?_)
      · skip
        have n13 := (nI_ltI (a := 9) (b := L1) (by omega) (by omega)).mp c13
        obtain rfl : L1 = 10 := by omega
        refine Wv g0 hx hb hr hlk ?_ hP hD hS (Nat.le_of_ble_eq_true rfl) (by first | exact Nat.le_of_ble_eq_true rfl | exact Nat.le_of_eq (Nat.zero_add _)) dX5_sortByLayers_67
        exact hg0
      · skip
        have n13 := mt (nI_ltI (a := 9) (b := L1) (by omega) (by omega)).mpr c13
        refine lv_iconst (v := 0) hx hb dX5_sortByLayers_16 (by decide) ?_
        refine lv_istore_n (lv' := [(2, .int 0), (0, .ref xo), (1, .int (nI L1))]) hx hb dX5_sortByLayers_17 rfl hl (by decide) rfl (fun ls hl => ?_)
        have loop18 : ∀ (d9 : Nat) (k1 : Nat) (g1 : Nat → Int32), (nS - k1) < d9 → (k1 ≤ nS) → (∀ k, k < (lyI (fun z => pt z 7) nS L1 k1).length → g1 k = nI ((lyI (fun z => pt z 7) nS L1 k1).getD k 0)) → ∀ (H : Heap) (locs : List Loc) (ls : Array Slot), va_P D cls [oO xo 5 [.ref lc, .ref lt, .ref bo, .ref yo, .ref no], oO lt 7 [.int m2, .ref et, .int (nI nS)], oO yo 2 [.ref ya, .int (nI (lyI (fun z => pt z 7) nS L1 k1).length)], aI D ya 10 g1] H → va_D A [oO xo 5 [.ref lc, .ref lt, .ref bo, .ref yo, .ref no], oO lt 7 [.int m2, .ref et, .int (nI nS)], oO yo 2 [.ref ya, .int (nI (lyI (fun z => pt z 7) nS L1 k1).length)], aI D ya 10 g1] → va_S A s.heap H locs → lv_has ls 3 [(0, .ref xo), (1, .int (nI L1)), (2, .int (nI k1))] → W p l e ({ frames := 3, cells := 0, slots := 0, locals := 81 } : Room) s m ([.ref xo] : List Value).toArray below meth c H locs 0 0 (MQ below (va_Qv (fun (g : Nat → Int32) => ∀ k, k < (lyT (fun z => pt z 7) nS 10).length → g k = nI ((lyT (fun z => pt z 7) nS 10).getD k 0)) (AT D A (fun g : Nat → Int32 => [oO xo 5 [.ref lc, .ref lt, .ref bo, .ref yo, .ref no], oO lt 7 [.int m2, .ref et, .int (nI nS)], oO yo 2 [.ref ya, .int (nI (lyT (fun z => pt z 7) nS 10).length)], aI D ya 10 g])) A) ([.ref xo] : List Value).toArray s 0 0 A) (F0 m 18 ls []) := by
          intro d9
          induction d9 with
          | zero => intro k1 g1 hd; exact absurd hd (Nat.not_lt_zero _)
          | succ d9 ih18 =>
            intro k1 g1 hd18 hk1 hg1 H locs ls hP hD hS hl
            refine lv_iload_n hx hb dX5_sortByLayers_18 rfl (lv_at hl 2 rfl) ?_
            refine lv_aload_n hx hb dX5_sortByLayers_19 rfl (lv_at hl 0 rfl) ?_
            refine va_get (D := D) (ci := 5) (v := .ref lt) (C := RX5) (T := TX5) (N := 5) hx hb hts inlX5 hown hG.K hP 0 rfl rfl 1 (by decide) (hts _ mF_X5_16) (fun _ h9 => h9) rfl dX5_sortByLayers_20 ?_
            have hP9 := hP.sub (ws' := [oO lt 7 [.int m2, .ref et, .int (nI nS)]]) [1] rfl
            refine vp_callSi (pV (rest := [.int (nI k1)]) (qc := (RJx4a65c, TJx4a65c, 3)) [] 0 hC (c_list_size l D (lo := lt) (mc := m2) (ea := et) (n := nS) ) rfl (hP 1 _ rfl) (gV mM_X5_52 mI_Jx4a65c_size_8abf5 mS_Jx4a65c_size_8abf5 mN_Jx4a65c mC_Jx4a65c_size_8abf5) (by decide +kernel) rfl rfl ⟨Nat.le_of_ble_eq_true rfl, Nat.le_of_ble_eq_true rfl⟩ hG hP9 rfl hl.1 rfl (Nat.le_of_ble_eq_true rfl) dX5_sortByLayers_23 ⟨Nat.le_of_ble_eq_true rfl, Nat.le_of_ble_eq_true rfl⟩) (fun r23 h23 => ?_)
            obtain rfl : r23 = (nI nS) := h23
            refine lv_icmp_ge (tgt := 61) hx hb dX5_sortByLayers_26 (by decide) (fun c26 => ?_) (fun c26 => ?_)
            · skip
              have n26 := (nI_leI (a := nS) (b := k1) (by omega) (by omega)).mp c26
              have hk9 : k1 = nS := by omega
              subst k1
              have hcv2 : (.int (nI (lyT (fun z => pt z 7) nS (L1 + 1)).length) : Value) = (.int (nI (lyI (fun z => pt z 7) nS L1 nS).length)) := rfl
              have hP := Eq.mpr (congrArg (fun z9 => va_P D cls [oO xo 5 [.ref lc, .ref lt, .ref bo, .ref yo, .ref no], oO lt 7 [.int m2, .ref et, .int (nI nS)], oO yo 2 [.ref ya, z9], aI D ya 10 g1] H) hcv2) hP
              have hD := Eq.mpr (congrArg (fun z9 => va_D A [oO xo 5 [.ref lc, .ref lt, .ref bo, .ref yo, .ref no], oO lt 7 [.int m2, .ref et, .int (nI nS)], oO yo 2 [.ref ya, z9], aI D ya 10 g1]) hcv2) hD
              have hP : va_P D cls [oO xo 5 [.ref lc, .ref lt, .ref bo, .ref yo, .ref no], oO lt 7 [.int m2, .ref et, .int (nI nS)], oO yo 2 [.ref ya, .int (nI (lyT (fun z => pt z 7) nS (L1 + 1)).length)], aI D ya 10 g1] H := hP
              have hD : va_D A [oO xo 5 [.ref lc, .ref lt, .ref bo, .ref yo, .ref no], oO lt 7 [.int m2, .ref et, .int (nI nS)], oO yo 2 [.ref ya, .int (nI (lyT (fun z => pt z 7) nS (L1 + 1)).length)], aI D ya 10 g1] := hD
              refine lv_iinc (v := nI (L1 + 1)) (lv' := [(1, .int (nI (L1 + 1))), (0, .ref xo), (2, .int (nI nS))]) hx hb dX5_sortByLayers_61 hl (k := 1) rfl (nI_1 _) (by decide) rfl (fun ls hl => ?_)
              refine lv_goto (tgt := 10) hx hb dX5_sortByLayers_64 (by decide) ?_
              exact ih10 (L1 + 1) g1 (by omega) (by omega) (hg1) _ _ _ hP hD hS (lv_sub hl [1, 0] rfl)
            · skip
              have n26 := mt (nI_leI (a := nS) (b := k1) (by omega) (by omega)).mpr c26
              have hW : va_P D cls [aO D et 10 (lsF sl nS), oO (sl k1) 3 [.ref (cl (ck k1)), .int (pt k1 0), .int (pt k1 1), .int (pt k1 3), .int (pt k1 4), .int (pt k1 5), .int (pt k1 6), .int (pt k1 7), .int (pt k1 8), .int (pt k1 9), .int (pt k1 10), .int (pt k1 11), .int (pt k1 12)]] H := FX.at hX hS (i := k1) (by omega)
              refine lv_aload_n hx hb dX5_sortByLayers_29 rfl (lv_at hl 0 rfl) ?_
              refine va_get (D := D) (ci := 5) (v := .ref lt) (C := RX5) (T := TX5) (N := 5) hx hb hts inlX5 hown hG.K hP 0 rfl rfl 1 (by decide) (hts _ mF_X5_16) (fun _ h9 => h9) rfl dX5_sortByLayers_30 ?_
              refine lv_iload_n hx hb dX5_sortByLayers_33 rfl (lv_at hl 2 rfl) ?_
              have hP8 := ((hP.sub (ws' := [oO lt 7 [.int m2, .ref et, .int (nI nS)]]) [1] rfl).app (hW.sub (ws' := [aO D et 10 (lsF sl nS)]) [0] rfl))
              have hP9 : va_P D cls [oO lt 7 [.int m2, .ref et, .int (nI nS)], aO D et 10 (lsF sl nS)] H := hP8.sub [0, 1] rfl
              refine va_csq (pV (rest := []) (qc := (RJx4a65c, TJx4a65c, 3)) [.int (nI k1)] 1 hC (c_list_get l D (lo := lt) (i := k1) (mc := m2) (ea := et) (n := nS) (k := 10) (f := lsF sl nS) (by omega) (by omega) (by omega)) rfl (hP 1 _ rfl) (gV mM_X5_250 mI_Jx4a65c_get_915e3 mS_Jx4a65c_get_915e3 mN_Jx4a65c mC_Jx4a65c_get_915e3) (by decide +kernel) rfl rfl ⟨Nat.le_of_ble_eq_true rfl, Nat.le_of_ble_eq_true rfl⟩ hG hP9 rfl hl.1 rfl (Nat.le_of_ble_eq_true rfl) dX5_sortByLayers_34 ⟨Nat.le_of_ble_eq_true rfl, Nat.le_of_ble_eq_true rfl⟩) (fun r34 h34 => ?_)
              obtain rfl : r34 = ((lsF sl nS) k1) := h34
              refine tpv (y := .ref (sl k1)) (lsF_ref (by omega)) ?_
              refine va_castS (nm := RX3) hx hb hown (hts _ mK_X5_183) (hG.K.1 3 _ rfl).2 (rcv hG (hW 1 _ rfl) (ci := 3) rfl) dX5_sortByLayers_37 ?_
              refine va_getN (D := D) (ci := 3) (v := .int (pt k1 7)) (C := RX3) (T := TX3) (N := 13) hx hb hts inlX3 hown hG.K hW 1 rfl rfl 7 (by decide) (va_Nw.use rfl (nF_KeyStage_211 hG)) (fun _ h9 => h9) rfl dX5_sortByLayers_40 ?_
              refine lv_iload_n hx hb dX5_sortByLayers_43 rfl (lv_at hl 1 rfl) ?_
              refine lv_icmp_ne (tgt := 55) hx hb dX5_sortByLayers_44 (by decide) (fun c44 => ?_) (fun c44 => ?_)
              · skip
                have hcv3 : (.int (nI (lyI (fun z => pt z 7) nS L1 (k1 + 1)).length) : Value) = (.int (nI (lyI (fun z => pt z 7) nS L1 k1).length)) := by rw [lyI_no (lay := fun z => pt z 7) c44]
                have hP := Eq.mpr (congrArg (fun z9 => va_P D cls [oO xo 5 [.ref lc, .ref lt, .ref bo, .ref yo, .ref no], oO lt 7 [.int m2, .ref et, .int (nI nS)], oO yo 2 [.ref ya, z9], aI D ya 10 g1] H) hcv3) hP
                have hD := Eq.mpr (congrArg (fun z9 => va_D A [oO xo 5 [.ref lc, .ref lt, .ref bo, .ref yo, .ref no], oO lt 7 [.int m2, .ref et, .int (nI nS)], oO yo 2 [.ref ya, z9], aI D ya 10 g1]) hcv3) hD
                have hP : va_P D cls [oO xo 5 [.ref lc, .ref lt, .ref bo, .ref yo, .ref no], oO lt 7 [.int m2, .ref et, .int (nI nS)], oO yo 2 [.ref ya, .int (nI (lyI (fun z => pt z 7) nS L1 (k1 + 1)).length)], aI D ya 10 g1] H := hP
                have hD : va_D A [oO xo 5 [.ref lc, .ref lt, .ref bo, .ref yo, .ref no], oO lt 7 [.int m2, .ref et, .int (nI nS)], oO yo 2 [.ref ya, .int (nI (lyI (fun z => pt z 7) nS L1 (k1 + 1)).length)], aI D ya 10 g1] := hD
                refine lv_iinc (v := nI (k1 + 1)) (lv' := [(2, .int (nI (k1 + 1))), (0, .ref xo), (1, .int (nI L1))]) hx hb dX5_sortByLayers_55 hl (k := 2) rfl (nI_1 _) (by decide) rfl (fun ls hl => ?_)
                refine lv_goto (tgt := 18) hx hb dX5_sortByLayers_58 (by decide) ?_
                exact ih18 (k1 + 1) g1 (by omega) (by omega) (by rw [lyI_no (lay := fun z => pt z 7) c44]; exact hg1) _ _ _ hP hD hS (lv_sub hl [1, 2, 0] rfl)
              · skip
                refine lv_aload_n hx hb dX5_sortByLayers_47 rfl (lv_at hl 0 rfl) ?_
                refine va_get (D := D) (ci := 5) (v := .ref yo) (C := RX5) (T := TX5) (N := 5) hx hb hts inlX5 hown hG.K hP 0 rfl rfl 3 (by decide) (hts _ mF_X5_31) (fun _ h9 => h9) rfl dX5_sortByLayers_48 ?_
                refine lv_iload_n hx hb dX5_sortByLayers_51 rfl (lv_at hl 2 rfl) ?_
                have hP9 := hP.sub (ws' := [oO yo 2 [.ref ya, .int (nI (lyI (fun z => pt z 7) nS L1 k1).length)], aI D ya 10 g1]) [2, 3] rfl
                have hD9 := (hD.sub (ws' := [oO yo 2 [.ref ya, .int (nI (lyI (fun z => pt z 7) nS L1 k1).length)], aI D ya 10 g1]) [2, 3] (by decide) rfl).weaken (B := fun _ => True) (fun _ _ _ _ => trivial)
                refine kv (wr := [oO xo 5 [.ref lc, .ref lt, .ref bo, .ref yo, .ref no], oO lt 7 [.int m2, .ref et, .int (nI nS)]]) (rV (rest := []) (qc := (RX2, TX2, 2)) [.int (nI k1)] 1 0 0 hC (c_append l D (r := yo) (x := nI k1) (a := ya) (sz := (lyI (fun z => pt z 7) nS L1 k1).length) (n := 10) (f := g1) (hz0 := H.size) (by omega) (Nat.lt_of_lt_of_le (lyI_room (lay := (fun z => pt z 7)) (by omega) (by omega) c44) hnS)) rfl (hP 2 _ rfl) (gV mM_X5_28 mI_X2_append mS_X2_append mN_X2 mC_X2_append) (by decide +kernel) rfl rfl ⟨Nat.le_of_ble_eq_true rfl, Nat.le_of_ble_eq_true rfl⟩ hG hP9 hD9 rfl hl.1 rfl (Nat.le_of_ble_eq_true rfl) dX5_sortByLayers_52 ⟨Nat.le_of_ble_eq_true rfl, Nat.le_of_ble_eq_true rfl⟩) hP hD hS hA [2, 3] [0, 1] rfl rfl (by decide) (by decide) (fun u52 H locs h52 hP hD hS hz hfr => ?_)
                have hP : va_P D cls [oO xo 5 [.ref lc, .ref lt, .ref bo, .ref yo, .ref no], oO lt 7 [.int m2, .ref et, .int (nI nS)], oO yo 2 [.ref ya, .int (nI (((lyI (fun z => pt z 7) nS L1 k1).length) + 1))], aI D ya 10 (insF g1 ((lyI (fun z => pt z 7) nS L1 k1).length) ((lyI (fun z => pt z 7) nS L1 k1).length) (nI k1))] H := hP
                have hD : va_D A [oO xo 5 [.ref lc, .ref lt, .ref bo, .ref yo, .ref no], oO lt 7 [.int m2, .ref et, .int (nI nS)], oO yo 2 [.ref ya, .int (nI (((lyI (fun z => pt z 7) nS L1 k1).length) + 1))], aI D ya 10 (insF g1 ((lyI (fun z => pt z 7) nS L1 k1).length) ((lyI (fun z => pt z 7) nS L1 k1).length) (nI k1))] := hD
                have hcv4 : (.int (nI (lyI (fun z => pt z 7) nS L1 (k1 + 1)).length) : Value) = (.int (nI (((lyI (fun z => pt z 7) nS L1 k1).length) + 1))) := by rw [lyI_yes (lay := fun z => pt z 7) c44, List.length_append]; rfl
                have hP := Eq.mpr (congrArg (fun z9 => va_P D cls [oO xo 5 [.ref lc, .ref lt, .ref bo, .ref yo, .ref no], oO lt 7 [.int m2, .ref et, .int (nI nS)], oO yo 2 [.ref ya, z9], aI D ya 10 (insF g1 ((lyI (fun z => pt z 7) nS L1 k1).length) ((lyI (fun z => pt z 7) nS L1 k1).length) (nI k1))] H) hcv4) hP
                have hD := Eq.mpr (congrArg (fun z9 => va_D A [oO xo 5 [.ref lc, .ref lt, .ref bo, .ref yo, .ref no], oO lt 7 [.int m2, .ref et, .int (nI nS)], oO yo 2 [.ref ya, z9], aI D ya 10 (insF g1 ((lyI (fun z => pt z 7) nS L1 k1).length) ((lyI (fun z => pt z 7) nS L1 k1).length) (nI k1))]) hcv4) hD
                have hP : va_P D cls [oO xo 5 [.ref lc, .ref lt, .ref bo, .ref yo, .ref no], oO lt 7 [.int m2, .ref et, .int (nI nS)], oO yo 2 [.ref ya, .int (nI (lyI (fun z => pt z 7) nS L1 (k1 + 1)).length)], aI D ya 10 (insF g1 ((lyI (fun z => pt z 7) nS L1 k1).length) ((lyI (fun z => pt z 7) nS L1 k1).length) (nI k1))] H := hP
                have hD : va_D A [oO xo 5 [.ref lc, .ref lt, .ref bo, .ref yo, .ref no], oO lt 7 [.int m2, .ref et, .int (nI nS)], oO yo 2 [.ref ya, .int (nI (lyI (fun z => pt z 7) nS L1 (k1 + 1)).length)], aI D ya 10 (insF g1 ((lyI (fun z => pt z 7) nS L1 k1).length) ((lyI (fun z => pt z 7) nS L1 k1).length) (nI k1))] := hD
                refine lv_iinc (v := nI (k1 + 1)) (lv' := [(2, .int (nI (k1 + 1))), (0, .ref xo), (1, .int (nI L1))]) hx hb dX5_sortByLayers_55 hl (k := 2) rfl (nI_1 _) (by decide) rfl (fun ls hl => ?_)
                refine lv_goto (tgt := 18) hx hb dX5_sortByLayers_58 (by decide) ?_
                exact ih18 (k1 + 1) (insF g1 (lyI (fun z => pt z 7) nS L1 k1).length (lyI (fun z => pt z 7) nS L1 k1).length (nI k1)) (by omega) (by omega) (by rw [lyI_yes (lay := fun z => pt z 7) c44]; exact insF_end hg1) _ _ _ hP hD hS (lv_sub hl [1, 2, 0] rfl)
        have hcv5 : (.int (nI (lyI (fun z => pt z 7) nS L1 0).length) : Value) = (.int (nI (lyT (fun z => pt z 7) nS L1).length)) := by rw [lyI_0]
        have hP := Eq.mpr (congrArg (fun z9 => va_P D cls [oO xo 5 [.ref lc, .ref lt, .ref bo, .ref yo, .ref no], oO lt 7 [.int m2, .ref et, .int (nI nS)], oO yo 2 [.ref ya, z9], aI D ya 10 g0] H) hcv5) hP
        have hD := Eq.mpr (congrArg (fun z9 => va_D A [oO xo 5 [.ref lc, .ref lt, .ref bo, .ref yo, .ref no], oO lt 7 [.int m2, .ref et, .int (nI nS)], oO yo 2 [.ref ya, z9], aI D ya 10 g0]) hcv5) hD
        have hP : va_P D cls [oO xo 5 [.ref lc, .ref lt, .ref bo, .ref yo, .ref no], oO lt 7 [.int m2, .ref et, .int (nI nS)], oO yo 2 [.ref ya, .int (nI (lyI (fun z => pt z 7) nS L1 0).length)], aI D ya 10 g0] H := hP
        have hD : va_D A [oO xo 5 [.ref lc, .ref lt, .ref bo, .ref yo, .ref no], oO lt 7 [.int m2, .ref et, .int (nI nS)], oO yo 2 [.ref ya, .int (nI (lyI (fun z => pt z 7) nS L1 0).length)], aI D ya 10 g0] := hD
        exact loop18 _ 0 g0 (Nat.lt_succ_self _) (by omega) (by rw [lyI_0]; exact hg0) _ _ _ hP hD hS (lv_sub hl [1, 2, 0] rfl)
  exact loop10 _ 0 yf (Nat.lt_succ_self _) (by omega) (fun k hk => absurd hk (Nat.not_lt_zero _)) _ _ _ hP hD hS (lv_sub hl [1, 0] rfl)
set_option maxHeartbeats 4000000 in
set_option maxRecDepth 100000 in
theorem c_stageVal (l : Launch) (D : va_G) {xo lc lt bo yo no : Nat} {et nS : Nat} {m2 : Int32} {sl ck cl ta : Nat → Nat} {pt : Nat → Nat → Int32} {len : Nat → Int32} {q : Nat → Nat → Nat} {t r a sz : Nat → Nat → Nat} {f : Nat → Nat → Nat → Int32} {ba ya j : Nat} {bf yf : Nat → Int32} {ll : List Nat} {x : Int32} (hnS : nS ≤ 10) (hj : j < 4) (hp : ∀ i, i < nS → 0 < pt i 5) (hq : ∀ i, i < nS → 0 < pt i 6) (hln : ∀ i, i < nS → 0 < len (ck i)) (h16 : ∀ i, i < nS → sz (ck i) j ≤ 16) (hT : ∀ i, i < nS → tOK (f (ck i) (3 * j)) (sz (ck i) j)) (hF : ∀ i, i < nS → isOnS (len (ck i)) (pt i) x → fadesOK (len (ck i)) (pt i) x) (hll : ll.length ≤ 10) (hlm : ∀ z, z ∈ ll → z < nS) (hyf : ∀ k, k < ll.length → yf k = nI (ll.getD k 0)) : Met l yX5_valueAt (ws_ yX5_valueAt cX5_valueAt 6 (some .int)) ({ frames := 5, cells := 0, slots := 0, locals := 127 } : Room) (va_Pc [.ref xo, .int (nI j), .int x] (PXW D [oO xo 5 [.ref lc, .ref lt, .ref bo, .ref yo, .ref no], oO lt 7 [.int m2, .ref et, .int (nI nS)], oO bo 2 [.ref ba, .int (nI 4)], aI D ba 4 bf, oO yo 2 [.ref ya, .int (nI ll.length)], aI D ya 10 yf] (FX D nS (fun i => [aO D et 10 (lsF sl nS), oO (sl i) 3 [.ref (cl (ck i)), .int (pt i 0), .int (pt i 1), .int (pt i 3), .int (pt i 4), .int (pt i 5), .int (pt i 6), .int (pt i 7), .int (pt i 8), .int (pt i 9), .int (pt i 10), .int (pt i 11), .int (pt i 12)], oO (cl (ck i)) 0 [.int (len (ck i)), .ref (ta (ck i)), .ref (q (ck i) 0), .ref (q (ck i) 1)], aT D (ta (ck i)) 4 (tkF (t (ck i))), oO (t (ck i) j) 4 [.ref (r (ck i) (3 * j)), .ref (r (ck i) (3 * j + 1)), .ref (r (ck i) (3 * j + 2))], oO (r (ck i) (3 * j)) 2 [.ref (a (ck i) (3 * j)), .int (nI (sz (ck i) j))], oO (r (ck i) (3 * j + 1)) 2 [.ref (a (ck i) (3 * j + 1)), .int (nI (sz (ck i) j))], oO (r (ck i) (3 * j + 2)) 2 [.ref (a (ck i) (3 * j + 2)), .int (nI (sz (ck i) j))], aI D (a (ck i) (3 * j)) 16 (f (ck i) (3 * j)), aI D (a (ck i) (3 * j + 1)) 16 (f (ck i) (3 * j + 1)), aI D (a (ck i) (3 * j + 2)) 16 (f (ck i) (3 * j + 2))]) (fun _ => False)))) (vp_Si (fun v => v = valL (fun z v => blendS (len (ck z)) (pt z) (sz (ck z) j) (f (ck z) (3 * j)) (f (ck z) (3 * j + 1)) (f (ck z) (3 * j + 2)) v x) ll (bf j) ll.length)) 0 0 (fun _ => False) := by
  refine Met.ofW (cc := cX5_valueAt) (maxL := 6) (ret := (some .int)) (by decide) rfl ?_
  intro p e s m args below meth c s₁ B hml hv
  obtain ⟨rfl, ⟨hG, hP⟩, hX⟩ := hv
  have hx := B.exec
  have hb := B.bytes
  have hr := B.returns
  have hts : ∀ w ∈ wsL_law, w.before _ s = true := fun w h => atoms_spec (ws := (ws_ yX5_valueAt cX5_valueAt 6 (some .int))) B.pre w (List.mem_cons_of_mem _ h)
  have hown : s.vm.findClass RX5 = some m.cls := findClass_of_methodNamed B.named
  have hlk := B.notSynchronized
  have hC : CallFix p m c cX5_valueAt 6 s _ wsL_law RX5 := ⟨hx, hb, hml, hown, hts⟩
  have hl := lv_entry ([.ref xo, .int (nI j), .int x]) (n := 6) (Nat.le_of_ble_eq_true rfl)
  rw [lg_entry_eq]
  generalize (lg_sl ([.ref xo, .int (nI j), .int x]) ++ List.replicate (6 - (lg_sl ([.ref xo, .int (nI j), .int x])).length) Slot.unset).toArray = ls at hl ⊢
  have hl : lv_has ls 6 [(0, .ref xo), (1, .int (nI j)), (2, .int x)] := hl
  refine lv_aload_n hx hb dX5_valueAt_0 rfl (lv_at hl 0 rfl) ?_
  refine va_get (D := D) (ci := 5) (v := .ref bo) (C := RX5) (T := TX5) (N := 5) hx hb hts inlX5 hown hG.K hP 0 rfl rfl 2 (by decide) (hts _ mF_X5_24) (fun _ h9 => h9) rfl dX5_valueAt_1 ?_
  refine lv_iload_n hx hb dX5_valueAt_4 rfl (lv_at hl 1 rfl) ?_
  have hP9 := hP.sub (ws' := [oO bo 2 [.ref ba, .int (nI 4)], aI D ba 4 bf]) [2, 3] rfl
  refine vp_callSi (pV (rest := []) (qc := (RX2, TX2, 2)) [.int (nI j)] 1 hC (c_get l D (r := bo) (j := j) (a := ba) (sz := 4) (n := 4) (f := bf) (by omega) (by omega) (by omega)) rfl (hP 2 _ rfl) (gV mM_X5_173 mI_X2_get mS_X2_get mN_X2 mC_X2_get) (by decide +kernel) rfl rfl ⟨Nat.le_of_ble_eq_true rfl, Nat.le_of_ble_eq_true rfl⟩ hG hP9 rfl hl.1 rfl (Nat.le_of_ble_eq_true rfl) dX5_valueAt_5 ⟨Nat.le_of_ble_eq_true rfl, Nat.le_of_ble_eq_true rfl⟩) (fun r5 h5 => ?_)
  obtain rfl : r5 = (bf j) := h5
  refine lv_istore_n (lv' := [(3, .int (bf j)), (0, .ref xo), (1, .int (nI j)), (2, .int x)]) hx hb dX5_valueAt_8 rfl hl (by decide) rfl (fun ls hl => ?_)
  refine lv_iconst (v := 0) hx hb dX5_valueAt_9 (by decide) ?_
  refine lv_istore (lv' := [(4, .int 0), (3, .int (bf j)), (0, .ref xo), (1, .int (nI j)), (2, .int x)]) hx hb dX5_valueAt_10 hl (by decide) rfl (fun ls hl => ?_)
  have loop12 : ∀ (d9 : Nat) (k : Nat), (ll.length - k) < d9 → (k ≤ ll.length) → ∀ (ls : Array Slot), lv_has ls 6 [(0, .ref xo), (1, .int (nI j)), (2, .int x), (3, .int (valL (fun z v => blendS (len (ck z)) (pt z) (sz (ck z) j) (f (ck z) (3 * j)) (f (ck z) (3 * j + 1)) (f (ck z) (3 * j + 2)) v x) ll (bf j) k)), (4, .int (nI k))] → W p l e ({ frames := 5, cells := 0, slots := 0, locals := 127 } : Room) s m ([.ref xo, .int (nI j), .int x] : List Value).toArray below meth c s.heap [] 0 0 (MQ below (vp_Si (fun v => v = valL (fun z v => blendS (len (ck z)) (pt z) (sz (ck z) j) (f (ck z) (3 * j)) (f (ck z) (3 * j + 1)) (f (ck z) (3 * j + 2)) v x) ll (bf j) ll.length)) ([.ref xo, .int (nI j), .int x] : List Value).toArray s 0 0 (fun _ => False)) (F0 m 12 ls []) := by
    intro d9
    induction d9 with
    | zero => intro k hd; exact absurd hd (Nat.not_lt_zero _)
    | succ d9 ih12 =>
      intro k hd12 hk ls hl
      refine lv_iload hx hb dX5_valueAt_12 (lv_at hl 4 rfl) ?_
      refine lv_aload_n hx hb dX5_valueAt_14 rfl (lv_at hl 0 rfl) ?_
      refine va_get (D := D) (ci := 5) (v := .ref yo) (C := RX5) (T := TX5) (N := 5) hx hb hts inlX5 hown hG.K hP 0 rfl rfl 3 (by decide) (hts _ mF_X5_31) (fun _ h9 => h9) rfl dX5_valueAt_15 ?_
      have hP9 := hP.sub (ws' := [oO yo 2 [.ref ya, .int (nI ll.length)], aI D ya 10 yf]) [4, 5] rfl
      refine vp_callSi (pV (rest := [.int (nI k)]) (qc := (RX2, TX2, 2)) [] 0 hC (c_size l D (r := yo) (a := ya) (sz := ll.length) (n := 10) (f := yf) ) rfl (hP 4 _ rfl) (gV mM_X5_299 mI_X2_size mS_X2_size mN_X2 mC_X2_size) (by decide +kernel) rfl rfl ⟨Nat.le_of_ble_eq_true rfl, Nat.le_of_ble_eq_true rfl⟩ hG hP9 rfl hl.1 rfl (Nat.le_of_ble_eq_true rfl) dX5_valueAt_18 ⟨Nat.le_of_ble_eq_true rfl, Nat.le_of_ble_eq_true rfl⟩) (fun r18 h18 => ?_)
      obtain rfl : r18 = (nI ll.length) := h18
      refine lv_icmp_ge (tgt := 59) hx hb dX5_valueAt_21 (by decide) (fun c21 => ?_) (fun c21 => ?_)
      · skip
        have n21 := (nI_leI (a := ll.length) (b := k) (by omega) (by omega)).mp c21
        obtain rfl : k = ll.length := by omega
        refine lv_iload_n hx hb dX5_valueAt_59 rfl (lv_at hl 3 rfl) ?_
        refine Ri hx hb hr hlk ?_ dX5_valueAt_60
        exact rfl
      · skip
        have n21 := mt (nI_leI (a := ll.length) (b := k) (by omega) (by omega)).mpr c21
        refine lv_aload_n hx hb dX5_valueAt_24 rfl (lv_at hl 0 rfl) ?_
        refine lv_aload_n hx hb dX5_valueAt_25 rfl (lv_at hl 0 rfl) ?_
        refine va_get (D := D) (ci := 5) (v := .ref yo) (C := RX5) (T := TX5) (N := 5) hx hb hts inlX5 hown hG.K hP 0 rfl rfl 3 (by decide) (hts _ mF_X5_31) (fun _ h9 => h9) rfl dX5_valueAt_26 ?_
        refine lv_iload hx hb dX5_valueAt_29 (lv_at hl 4 rfl) ?_
        obtain ⟨i, hi9⟩ : ∃ i, i = ll.getD k 0 := ⟨_, rfl⟩
        have hi8 : i < nS := by rw [hi9]; exact getD_lt hlm (by omega)
        have hP9 := hP.sub (ws' := [oO yo 2 [.ref ya, .int (nI ll.length)], aI D ya 10 yf]) [4, 5] rfl
        refine vp_callSi (pV (rest := [.ref xo]) (qc := (RX2, TX2, 2)) [.int (nI k)] 1 hC (c_get l D (r := yo) (j := k) (a := ya) (sz := ll.length) (n := 10) (f := yf) (by omega) (by omega) (by omega)) rfl (hP 4 _ rfl) (gV mM_X5_173 mI_X2_get mS_X2_get mN_X2 mC_X2_get) (by decide +kernel) rfl rfl ⟨Nat.le_of_ble_eq_true rfl, Nat.le_of_ble_eq_true rfl⟩ hG hP9 rfl hl.1 rfl (Nat.le_of_ble_eq_true rfl) dX5_valueAt_31 ⟨Nat.le_of_ble_eq_true rfl, Nat.le_of_ble_eq_true rfl⟩) (fun r31 h31 => ?_)
        obtain rfl : r31 = (yf k) := h31
        refine tpi (y := nI i) (by rw [hi9]; exact hyf k (by omega)) ?_
        have hW : va_P D cls [aO D et 10 (lsF sl nS), oO (sl i) 3 [.ref (cl (ck i)), .int (pt i 0), .int (pt i 1), .int (pt i 3), .int (pt i 4), .int (pt i 5), .int (pt i 6), .int (pt i 7), .int (pt i 8), .int (pt i 9), .int (pt i 10), .int (pt i 11), .int (pt i 12)], oO (cl (ck i)) 0 [.int (len (ck i)), .ref (ta (ck i)), .ref (q (ck i) 0), .ref (q (ck i) 1)], aT D (ta (ck i)) 4 (tkF (t (ck i))), oO (t (ck i) j) 4 [.ref (r (ck i) (3 * j)), .ref (r (ck i) (3 * j + 1)), .ref (r (ck i) (3 * j + 2))], oO (r (ck i) (3 * j)) 2 [.ref (a (ck i) (3 * j)), .int (nI (sz (ck i) j))], oO (r (ck i) (3 * j + 1)) 2 [.ref (a (ck i) (3 * j + 1)), .int (nI (sz (ck i) j))], oO (r (ck i) (3 * j + 2)) 2 [.ref (a (ck i) (3 * j + 2)), .int (nI (sz (ck i) j))], aI D (a (ck i) (3 * j)) 16 (f (ck i) (3 * j)), aI D (a (ck i) (3 * j + 1)) 16 (f (ck i) (3 * j + 1)), aI D (a (ck i) (3 * j + 2)) 16 (f (ck i) (3 * j + 2))] s.heap := (hX i hi8).1
        have hP8 := ((hP.sub (ws' := [oO xo 5 [.ref lc, .ref lt, .ref bo, .ref yo, .ref no], oO lt 7 [.int m2, .ref et, .int (nI nS)]]) [0, 1] rfl).app (hW.sub (ws' := [aO D et 10 (lsF sl nS), oO (sl i) 3 [.ref (cl (ck i)), .int (pt i 0), .int (pt i 1), .int (pt i 3), .int (pt i 4), .int (pt i 5), .int (pt i 6), .int (pt i 7), .int (pt i 8), .int (pt i 9), .int (pt i 10), .int (pt i 11), .int (pt i 12)]]) [0, 1] rfl))
        have hP9 : va_P D cls [oO xo 5 [.ref lc, .ref lt, .ref bo, .ref yo, .ref no], oO lt 7 [.int m2, .ref et, .int (nI nS)], aO D et 10 (lsF sl nS), oO (sl i) 3 [.ref (cl (ck i)), .int (pt i 0), .int (pt i 1), .int (pt i 3), .int (pt i 4), .int (pt i 5), .int (pt i 6), .int (pt i 7), .int (pt i 8), .int (pt i 9), .int (pt i 10), .int (pt i 11), .int (pt i 12)]] s.heap := hP8.sub [0, 1, 2, 3] rfl
        refine va_csq (pV (rest := []) (qc := (RX5, TX5, 5)) [.int (nI i)] 1 hC (c_stripOrNull l D (sl := sl) (pt := pt i) (co := cl (ck i)) (s0 := i) (xo := xo) (lc := lc) (lt := lt) (bo := bo) (yo := yo) (no := no) (m2 := m2) (et := et) (nS := nS) (by omega) (hi8)) rfl (hP 0 _ rfl) (gV mM_X5_194 mI_X5_stripOrNull mS_X5_stripOrNull mN_X5 mC_X5_stripOrNull) (by decide +kernel) rfl rfl ⟨Nat.le_of_ble_eq_true rfl, Nat.le_of_ble_eq_true rfl⟩ hG hP9 rfl hl.1 rfl (Nat.le_of_ble_eq_true rfl) dX5_valueAt_34 ⟨Nat.le_of_ble_eq_true rfl, Nat.le_of_ble_eq_true rfl⟩) (fun r34 h34 => ?_)
        obtain rfl : r34 = (some (sl i)) := h34
        refine tpv (y := .ref (sl i)) rfl ?_
        refine lv_astore (lv' := [(5, .ref (sl i)), (0, .ref xo), (1, .int (nI j)), (2, .int x), (3, .int (valL (fun z v => blendS (len (ck z)) (pt z) (sz (ck z) j) (f (ck z) (3 * j)) (f (ck z) (3 * j + 1)) (f (ck z) (3 * j + 2)) v x) ll (bf j) k)), (4, .int (nI k))]) hx hb dX5_valueAt_37 hl (by decide) rfl (fun ls hl => ?_)
        refine lv_aload hx hb dX5_valueAt_39 (lv_at hl 0 rfl) ?_
        refine lv_ifnull hx hb dX5_valueAt_41 ?_
        refine lv_aload hx hb dX5_valueAt_44 (lv_at hl 0 rfl) ?_
        refine lv_iload_n hx hb dX5_valueAt_46 rfl (lv_at hl 4 rfl) ?_
        refine lv_iload_n hx hb dX5_valueAt_47 rfl (lv_at hl 2 rfl) ?_
        refine lv_iload_n hx hb dX5_valueAt_48 rfl (lv_at hl 3 rfl) ?_
        have hP9 := hW.sub (ws' := [oO (sl i) 3 [.ref (cl (ck i)), .int (pt i 0), .int (pt i 1), .int (pt i 3), .int (pt i 4), .int (pt i 5), .int (pt i 6), .int (pt i 7), .int (pt i 8), .int (pt i 9), .int (pt i 10), .int (pt i 11), .int (pt i 12)], oO (cl (ck i)) 0 [.int (len (ck i)), .ref (ta (ck i)), .ref (q (ck i) 0), .ref (q (ck i) 1)], aT D (ta (ck i)) 4 (tkF (t (ck i))), oO (t (ck i) j) 4 [.ref (r (ck i) (3 * j)), .ref (r (ck i) (3 * j + 1)), .ref (r (ck i) (3 * j + 2))], oO (r (ck i) (3 * j)) 2 [.ref (a (ck i) (3 * j)), .int (nI (sz (ck i) j))], oO (r (ck i) (3 * j + 1)) 2 [.ref (a (ck i) (3 * j + 1)), .int (nI (sz (ck i) j))], oO (r (ck i) (3 * j + 2)) 2 [.ref (a (ck i) (3 * j + 2)), .int (nI (sz (ck i) j))], aI D (a (ck i) (3 * j)) 16 (f (ck i) (3 * j)), aI D (a (ck i) (3 * j + 1)) 16 (f (ck i) (3 * j + 1)), aI D (a (ck i) (3 * j + 2)) 16 (f (ck i) (3 * j + 2))]) [1, 2, 3, 4, 5, 6, 7, 8, 9, 10] rfl
        refine vp_callSi (pV (rest := []) (qc := (RX3, TX3, 13)) [.int (valL (fun z v => blendS (len (ck z)) (pt z) (sz (ck z) j) (f (ck z) (3 * j)) (f (ck z) (3 * j + 1)) (f (ck z) (3 * j + 2)) v x) ll (bf j) k), .int (nI j), .int x] 3 hC (c_blended l D (pt := pt i) (q := q (ck i)) (t := t (ck i)) (r1 := r (ck i) (3 * j)) (r2 := r (ck i) (3 * j + 1)) (r3 := r (ck i) (3 * j + 2)) (a1 := a (ck i) (3 * j)) (a2 := a (ck i) (3 * j + 1)) (a3 := a (ck i) (3 * j + 2)) (ft := f (ck i) (3 * j)) (fv := f (ck i) (3 * j + 1)) (fe := f (ck i) (3 * j + 2)) (sz := sz (ck i) j) (so := sl i) (v := valL (fun z v => blendS (len (ck z)) (pt z) (sz (ck z) j) (f (ck z) (3 * j)) (f (ck z) (3 * j + 1)) (f (ck z) (3 * j + 2)) v x) ll (bf j) k) (j := j) (x := x) (co := cl (ck i)) (len := len (ck i)) (ta := ta (ck i)) (hp i hi8) (hq i hi8) (hln i hi8) (by omega) (h16 i hi8) (hT i hi8) (hF i hi8)) rfl (hW 1 _ rfl) (gV mM_X5_300 mI_X3_blended mS_X3_blended mN_X3 mC_X3_blended) (by decide +kernel) rfl rfl ⟨Nat.le_of_ble_eq_true rfl, Nat.le_of_ble_eq_true rfl⟩ hG hP9 rfl hl.1 rfl (Nat.le_of_ble_eq_true rfl) dX5_valueAt_49 ⟨Nat.le_of_ble_eq_true rfl, Nat.le_of_ble_eq_true rfl⟩) (fun r49 h49 => ?_)
        refine tpi (y := valL (fun z v => blendS (len (ck z)) (pt z) (sz (ck z) j) (f (ck z) (3 * j)) (f (ck z) (3 * j + 1)) (f (ck z) (3 * j + 2)) v x) ll (bf j) (k + 1)) (by rw [h49, hi9]; rfl) ?_
        refine lv_istore_n (lv' := [(3, .int (valL (fun z v => blendS (len (ck z)) (pt z) (sz (ck z) j) (f (ck z) (3 * j)) (f (ck z) (3 * j + 1)) (f (ck z) (3 * j + 2)) v x) ll (bf j) (k + 1))), (5, .ref (sl i)), (0, .ref xo), (1, .int (nI j)), (2, .int x), (4, .int (nI k))]) hx hb dX5_valueAt_52 rfl hl (by decide) rfl (fun ls hl => ?_)
        refine lv_iinc (v := nI (k + 1)) (lv' := [(4, .int (nI (k + 1))), (3, .int (valL (fun z v => blendS (len (ck z)) (pt z) (sz (ck z) j) (f (ck z) (3 * j)) (f (ck z) (3 * j + 1)) (f (ck z) (3 * j + 2)) v x) ll (bf j) (k + 1))), (5, .ref (sl i)), (0, .ref xo), (1, .int (nI j)), (2, .int x)]) hx hb dX5_valueAt_53 hl (k := 5) rfl (nI_1 _) (by decide) rfl (fun ls hl => ?_)
        refine lv_goto (tgt := 12) hx hb dX5_valueAt_56 (by decide) ?_
        exact ih12 (k + 1) (by omega) (by omega) _ (lv_sub hl [3, 4, 5, 1, 0] rfl)
  exact loop12 _ 0 (Nat.lt_succ_self _) (by omega) _ (lv_sub hl [2, 3, 4, 1, 0] rfl)
set_option maxHeartbeats 4000000 in
set_option maxRecDepth 100000 in
theorem c_at (l : Launch) (D : va_G) {xo lc lt bo yo no : Nat} {et nS : Nat} {m2 : Int32} {sl ck cl ta : Nat → Nat} {pt : Nat → Nat → Int32} {len : Nat → Int32} {q : Nat → Nat → Nat} {t r a sz : Nat → Nat → Nat} {f : Nat → Nat → Nat → Int32} {ba ya n0 j : Nat} {bf yf : Nat → Int32} {x : Int32} (hz0 : Nat) (hnS : nS ≤ 10) (hn0 : n0 ≤ 10) (hj : j < 4) (h : (0 : Int32) ≤ x ∧ x ≤ 100000) (hp : ∀ i, i < nS → 0 < pt i 5) (hq : ∀ i, i < nS → 0 < pt i 6) (hln : ∀ i, i < nS → 0 < len (ck i)) (h16 : ∀ i, i < nS → sz (ck i) j ≤ 16) (hT : ∀ i, i < nS → tOK (f (ck i) (3 * j)) (sz (ck i) j)) (hF : ∀ i, i < nS → isOnS (len (ck i)) (pt i) x → fadesOK (len (ck i)) (pt i) x) : Met l yX5_at (ws_ yX5_at cX5_at 3 (some .int)) ({ frames := 6, cells := 0, slots := 0, locals := 152 } : Room) (va_Pc [.ref xo, .int (nI j), .int x] (SX D [oO xo 5 [.ref lc, .ref lt, .ref bo, .ref yo, .ref no], oO lt 7 [.int m2, .ref et, .int (nI nS)], oO yo 2 [.ref ya, .int (nI n0)], aI D ya 10 yf, oO bo 2 [.ref ba, .int (nI 4)], aI D ba 4 bf] hz0 (FX D nS (fun i => [aO D et 10 (lsF sl nS), oO (sl i) 3 [.ref (cl (ck i)), .int (pt i 0), .int (pt i 1), .int (pt i 3), .int (pt i 4), .int (pt i 5), .int (pt i 6), .int (pt i 7), .int (pt i 8), .int (pt i 9), .int (pt i 10), .int (pt i 11), .int (pt i 12)], oO (cl (ck i)) 0 [.int (len (ck i)), .ref (ta (ck i)), .ref (q (ck i) 0), .ref (q (ck i) 1)], aT D (ta (ck i)) 4 (tkF (t (ck i))), oO (t (ck i) j) 4 [.ref (r (ck i) (3 * j)), .ref (r (ck i) (3 * j + 1)), .ref (r (ck i) (3 * j + 2))], oO (r (ck i) (3 * j)) 2 [.ref (a (ck i) (3 * j)), .int (nI (sz (ck i) j))], oO (r (ck i) (3 * j + 1)) 2 [.ref (a (ck i) (3 * j + 1)), .int (nI (sz (ck i) j))], oO (r (ck i) (3 * j + 2)) 2 [.ref (a (ck i) (3 * j + 2)), .int (nI (sz (ck i) j))], aI D (a (ck i) (3 * j)) 16 (f (ck i) (3 * j)), aI D (a (ck i) (3 * j + 1)) 16 (f (ck i) (3 * j + 1)), aI D (a (ck i) (3 * j + 2)) 16 (f (ck i) (3 * j + 2))]) (va_A [oO xo 5 [.ref lc, .ref lt, .ref bo, .ref yo, .ref no], oO lt 7 [.int m2, .ref et, .int (nI nS)], oO yo 2 [.ref ya, .int (nI n0)], aI D ya 10 yf, oO bo 2 [.ref ba, .int (nI 4)], aI D ba 4 bf] hz0)))) (va_Qi (fun v _ => v = valL (fun z v => blendS (len (ck z)) (pt z) (sz (ck z) j) (f (ck z) (3 * j)) (f (ck z) (3 * j + 1)) (f (ck z) (3 * j + 2)) v x) (lyT (fun z => pt z 7) nS 10) (bf j) (lyT (fun z => pt z 7) nS 10).length) (AT D (va_A [oO xo 5 [.ref lc, .ref lt, .ref bo, .ref yo, .ref no], oO lt 7 [.int m2, .ref et, .int (nI nS)], oO yo 2 [.ref ya, .int (nI n0)], aI D ya 10 yf, oO bo 2 [.ref ba, .int (nI 4)], aI D ba 4 bf] hz0) (fun g : Nat → Int32 => [oO xo 5 [.ref lc, .ref lt, .ref bo, .ref yo, .ref no], oO lt 7 [.int m2, .ref et, .int (nI nS)], oO yo 2 [.ref ya, .int (nI (lyT (fun z => pt z 7) nS 10).length)], aI D ya 10 g, oO bo 2 [.ref ba, .int (nI 4)], aI D ba 4 bf])) (va_A [oO xo 5 [.ref lc, .ref lt, .ref bo, .ref yo, .ref no], oO lt 7 [.int m2, .ref et, .int (nI nS)], oO yo 2 [.ref ya, .int (nI n0)], aI D ya 10 yf, oO bo 2 [.ref ba, .int (nI 4)], aI D ba 4 bf] hz0)) 0 0 (va_A [oO xo 5 [.ref lc, .ref lt, .ref bo, .ref yo, .ref no], oO lt 7 [.int m2, .ref et, .int (nI nS)], oO yo 2 [.ref ya, .int (nI n0)], aI D ya 10 yf, oO bo 2 [.ref ba, .int (nI 4)], aI D ba 4 bf] hz0) := by
  refine Met.ofW (cc := cX5_at) (maxL := 3) (ret := (some .int)) (by decide) rfl ?_
  intro p e s m args below meth c s₁ B hml hv
  obtain ⟨rfl, ⟨hsz, hG, hP, hD0⟩, hX⟩ := hv
  have hx := B.exec
  have hb := B.bytes
  have hr := B.returns
  have hts : ∀ w ∈ wsL_law, w.before _ s = true := fun w h => atoms_spec (ws := (ws_ yX5_at cX5_at 3 (some .int))) B.pre w (List.mem_cons_of_mem _ h)
  have hown : s.vm.findClass RX5 = some m.cls := findClass_of_methodNamed B.named
  have hlk := B.notSynchronized
  have hC : CallFix p m c cX5_at 3 s _ wsL_law RX5 := ⟨hx, hb, hml, hown, hts⟩
  subst hsz
  have hD := hD0.self (sz := s.heap.size)
  generalize hAe : va_A [oO xo 5 [.ref lc, .ref lt, .ref bo, .ref yo, .ref no], oO lt 7 [.int m2, .ref et, .int (nI nS)], oO yo 2 [.ref ya, .int (nI n0)], aI D ya 10 yf, oO bo 2 [.ref ba, .int (nI 4)], aI D ba 4 bf] s.heap.size = A at hD hX ⊢
  have hA : ∀ q : Nat, s.heap.size ≤ q → A q := fun q h => by rw [← hAe]; exact Or.inr h
  have hS : va_S A s.heap s.heap [] := va_S.rf
  obtain ⟨H, hHe⟩ : ∃ H, H = s.heap := ⟨_, rfl⟩
  rw [← hHe] at hP
  have hS : va_S A s.heap H [] := by rw [hHe]; exact hS
  have hl := lv_entry ([.ref xo, .int (nI j), .int x]) (n := 3) (Nat.le_of_ble_eq_true rfl)
  rw [lg_entry_eq]
  generalize (lg_sl ([.ref xo, .int (nI j), .int x]) ++ List.replicate (3 - (lg_sl ([.ref xo, .int (nI j), .int x])).length) Slot.unset).toArray = ls at hl ⊢
  have hl : lv_has ls 3 [(0, .ref xo), (1, .int (nI j)), (2, .int x)] := hl
  rw [← hHe]
  refine lv_iload_n hx hb dX5_at_0 rfl (lv_at hl 1 rfl) ?_
  have hP9 : va_P D cls [] H := fun k q h => by simp at h
  refine vp_callSi (pS (rest := []) [.int (nI j)] 1 hC (c_isProperty l D (x := nI j) ) (gS mM_X5_166 mT_X5_isProperty mN_X5 mC_X5_isProperty) (by decide +kernel) rfl rfl ⟨Nat.le_of_ble_eq_true rfl, Nat.le_of_ble_eq_true rfl⟩ hG hP9 rfl hl.1 rfl (Nat.le_of_ble_eq_true rfl) dX5_at_1 ⟨Nat.le_of_ble_eq_true rfl, Nat.le_of_ble_eq_true rfl⟩) (fun r1 h1 => ?_)
  rcases h1 with ⟨rfl, hb1⟩ | ⟨rfl, hb1⟩
  rotate_left
  · exact absurd (in3 hj) hb1
  refine lv_if_ne (tgt := 17) hx hb dX5_at_4 (by decide) (fun _ => ?_) (fun h9 => absurd h9 (by decide))
  refine lv_iload_n hx hb dX5_at_17 rfl (lv_at hl 2 rfl) ?_
  have hP9 : va_P D cls [] H := fun k q h => by simp at h
  refine vp_callSi (pS (rest := []) [.int x] 1 hC (c_isTime l D (x := x) ) (gS mM_X5_236 mT_X5_isTime mN_X5 mC_X5_isTime) (by decide +kernel) rfl rfl ⟨Nat.le_of_ble_eq_true rfl, Nat.le_of_ble_eq_true rfl⟩ hG hP9 rfl hl.1 rfl (Nat.le_of_ble_eq_true rfl) dX5_at_18 ⟨Nat.le_of_ble_eq_true rfl, Nat.le_of_ble_eq_true rfl⟩) (fun r18 h18 => ?_)
  rcases h18 with ⟨rfl, hb18⟩ | ⟨rfl, hb18⟩
  rotate_left
  · exact absurd (h) hb18
  refine lv_if_ne (tgt := 34) hx hb dX5_at_21 (by decide) (fun _ => ?_) (fun h9 => absurd h9 (by decide))
  refine lv_aload_n hx hb dX5_at_34 rfl (lv_at hl 0 rfl) ?_
  have hP9 := hP.sub (ws' := [oO xo 5 [.ref lc, .ref lt, .ref bo, .ref yo, .ref no], oO lt 7 [.int m2, .ref et, .int (nI nS)], oO yo 2 [.ref ya, .int (nI n0)], aI D ya 10 yf]) [0, 1, 2, 3] rfl
  have hD9 := (hD.sub (ws' := [oO xo 5 [.ref lc, .ref lt, .ref bo, .ref yo, .ref no], oO lt 7 [.int m2, .ref et, .int (nI nS)], oO yo 2 [.ref ya, .int (nI n0)], aI D ya 10 yf]) [0, 1, 2, 3] (by decide) rfl).weaken (B := fun _ => True) (fun _ _ _ _ => trivial)
  refine kv (wr := [oO bo 2 [.ref ba, .int (nI 4)], aI D ba 4 bf]) (rVX (FX.blind) ((FX.sub hX [0, 1] (fun _ => rfl)).pre hS (va_free' hD hS hA [0, 1, 2, 3] rfl).2) (rest := []) (qc := (RX5, TX5, 5)) [] 0 0 0 hC (c_sortByLayers l D (ck := ck) (cl := cl) (pt := pt) (xo := xo) (lc := lc) (lt := lt) (bo := bo) (yo := yo) (no := no) (m2 := m2) (et := et) (nS := nS) (ya := ya) (n0 := n0) (yf := yf) (hz0 := H.size) (by omega) (by omega)) rfl (hP 0 _ rfl) (gV mM_X5_257 mI_X5_sortByLayers mS_X5_sortByLayers mN_X5 mC_X5_sortByLayers) (by decide +kernel) rfl rfl ⟨Nat.le_of_ble_eq_true rfl, Nat.le_of_ble_eq_true rfl⟩ hG hP9 hD9 rfl hl.1 rfl (Nat.le_of_ble_eq_true rfl) dX5_at_35 ⟨Nat.le_of_ble_eq_true rfl, Nat.le_of_ble_eq_true rfl⟩) hP hD hS hA [0, 1, 2, 3] [4, 5] rfl rfl (by decide) (by decide) (fun u35 H locs h35 hP hD hS hz hfr => ?_)
  obtain ⟨g, rfl⟩ : ∃ z, z = u35 := ⟨_, rfl⟩
  have hP : va_P D cls [oO bo 2 [.ref ba, .int (nI 4)], aI D ba 4 bf, oO xo 5 [.ref lc, .ref lt, .ref bo, .ref yo, .ref no], oO lt 7 [.int m2, .ref et, .int (nI nS)], oO yo 2 [.ref ya, .int (nI (lyT (fun z => pt z 7) nS 10).length)], aI D ya 10 g] H := hP
  have hD : va_D A [oO bo 2 [.ref ba, .int (nI 4)], aI D ba 4 bf, oO xo 5 [.ref lc, .ref lt, .ref bo, .ref yo, .ref no], oO lt 7 [.int m2, .ref et, .int (nI nS)], oO yo 2 [.ref ya, .int (nI (lyT (fun z => pt z 7) nS 10).length)], aI D ya 10 g] := hD
  have hg := h35
  refine lv_aload_n hx hb dX5_at_38 rfl (lv_at hl 0 rfl) ?_
  refine lv_iload_n hx hb dX5_at_39 rfl (lv_at hl 1 rfl) ?_
  refine lv_iload_n hx hb dX5_at_40 rfl (lv_at hl 2 rfl) ?_
  have hP9 := hP.sub (ws' := [oO xo 5 [.ref lc, .ref lt, .ref bo, .ref yo, .ref no], oO lt 7 [.int m2, .ref et, .int (nI nS)], oO bo 2 [.ref ba, .int (nI 4)], aI D ba 4 bf, oO yo 2 [.ref ya, .int (nI (lyT (fun z => pt z 7) nS 10).length)], aI D ya 10 g]) [2, 3, 0, 1, 4, 5] rfl
  refine vp_callSi (pVX (FX.blind) (FX.pre (A1 := fun _ => False) hX hS (fun _ h => False.elim h)) (rest := []) (qc := (RX5, TX5, 5)) [.int (nI j), .int x] 2 hC (c_stageVal l D (ck := ck) (cl := cl) (pt := pt) (len := len) (ta := ta) (q := q) (t := t) (r := r) (a := a) (sz := sz) (f := f) (ll := (lyT (fun z => pt z 7) nS 10)) (yf := g) (xo := xo) (j := j) (x := x) (lc := lc) (lt := lt) (bo := bo) (yo := yo) (no := no) (m2 := m2) (et := et) (nS := nS) (ba := ba) (bf := bf) (ya := ya) (hnS) (by omega) (hp) (hq) (hln) (h16) (hT) (hF) (Nat.le_trans (lyT_10 (lay := (fun z => pt z 7)) hnS) hnS) (fun z hz => lyT_lt hz) (hg)) rfl (hP 2 _ rfl) (gV mM_X5_260 mI_X5_valueAt mS_X5_valueAt mN_X5 mC_X5_valueAt) (by decide +kernel) rfl rfl ⟨Nat.le_of_ble_eq_true rfl, Nat.le_of_ble_eq_true rfl⟩ hG hP9 rfl hl.1 rfl (Nat.le_of_ble_eq_true rfl) dX5_at_41 ⟨Nat.le_of_ble_eq_true rfl, Nat.le_of_ble_eq_true rfl⟩) (fun r41 h41 => ?_)
  obtain rfl : r41 = (valL (fun z v => blendS (len (ck z)) (pt z) (sz (ck z) j) (f (ck z) (3 * j)) (f (ck z) (3 * j + 1)) (f (ck z) (3 * j + 2)) v x) (lyT (fun z => pt z 7) nS 10) (bf j) (lyT (fun z => pt z 7) nS 10).length) := h41
  refine Wi g hx hb hr hlk ?_ (hP.sub [2, 3, 4, 5, 0, 1] rfl) (hD.sub [2, 3, 4, 5, 0, 1] (by decide) rfl) hS (Nat.le_of_ble_eq_true rfl) (by first | exact Nat.le_of_ble_eq_true rfl | exact Nat.le_of_eq (Nat.zero_add _)) dX5_at_44
  exact rfl
