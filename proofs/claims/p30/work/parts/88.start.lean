theorem wG_nil0 {F0 E1 E2 : va_W} {hd : Nat → va_W} {tk : Nat → Nat → va_W} {st : Nat → va_W} (h1 : E1 = []) (h2 : E2 = []) (hh : ∀ c, hd c = []) (ht : ∀ c j, tk c j = []) (hs : ∀ i, st i = []) : ∀ g, g ∉ [kF 0] → wG F0 E1 E2 [] [] hd tk st g = [] := by
  intro g hg
  match g, hg with
  | .inl 0, hg => exact absurd (by simp) hg
  | .inl 1, hg => exact h1
  | .inl 2, hg => exact h2
  | .inl 3, hg => rfl
  | .inl 4, hg => rfl
  | .inl (n + 5), hg => rfl
  | .inr (.inl c), hg => exact hh c
  | .inr (.inr (.inl (c, j))), hg => exact ht c j
  | .inr (.inr (.inr i)), hg => exact hs i
set_option maxHeartbeats 4000000 in
set_option maxRecDepth 100000 in
theorem KB.first {D : va_G} {A0 : Nat → Prop} {lc lt bo yo no z ba ya xo : Nat} {gg hh : Nat → Nat} {H : Heap} (hP : va_P D cls [oO xo 5 [.ref lc, .ref lt, .ref bo, .ref yo, .ref no], oO lc 7 [.int 0, .ref z, .int (nI 0)], oO lt 7 [.int 0, .ref z, .int (nI 0)], oO bo 2 [.ref ba, .int (nI 4)], aI D ba 4 (fun _ => 0), oO yo 2 [.ref ya, .int (nI 0)], aI D ya 10 (fun _ => 0), oO no 1 [.ref (gg 0), .ref (gg 1), .ref (gg 2), .ref (gg 3), .int 0], oO (gg 0) 2 [.ref (hh 0), .int (nI 0)], oO (gg 1) 2 [.ref (hh 1), .int (nI 0)], oO (gg 2) 2 [.ref (hh 2), .int (nI 0)], oO (gg 3) 2 [.ref (hh 3), .int (nI 0)], aI D (hh 0) 100 (fun _ => 0), aI D (hh 1) 100 (fun _ => 0), aI D (hh 2) 100 (fun _ => 0), aI D (hh 3) 100 (fun _ => 0)] H) (hD : va_D A0 [oO xo 5 [.ref lc, .ref lt, .ref bo, .ref yo, .ref no], oO lc 7 [.int 0, .ref z, .int (nI 0)], oO lt 7 [.int 0, .ref z, .int (nI 0)], oO bo 2 [.ref ba, .int (nI 4)], aI D ba 4 (fun _ => 0), oO yo 2 [.ref ya, .int (nI 0)], aI D ya 10 (fun _ => 0), oO no 1 [.ref (gg 0), .ref (gg 1), .ref (gg 2), .ref (gg 3), .int 0], oO (gg 0) 2 [.ref (hh 0), .int (nI 0)], oO (gg 1) 2 [.ref (hh 1), .int (nI 0)], oO (gg 2) 2 [.ref (hh 2), .int (nI 0)], oO (gg 3) 2 [.ref (hh 3), .int (nI 0)], aI D (hh 0) 100 (fun _ => 0), aI D (hh 1) 100 (fun _ => 0), aI D (hh 2) 100 (fun _ => 0), aI D (hh 3) 100 (fun _ => 0)]) : KB D A0 z xo [] H 0 (fun _ => 0) (fun _ _ => 0) (fun _ _ _ => 0) (fun _ => 0) (fun _ _ => 0) (fun _ _ => 0) (fun _ => 0) 0 (fun _ => 0) (fun _ _ => 0) 0 (fun _ _ => 0) 0 := by
  have hL : fG (wG [oO xo 5 [.ref lc, .ref lt, .ref bo, .ref yo, .ref no], oO lc 7 [.int 0, .ref z, .int (nI 0)], oO lt 7 [.int 0, .ref z, .int (nI 0)], oO bo 2 [.ref ba, .int (nI 4)], aI D ba 4 (fun _ => 0), oO yo 2 [.ref ya, .int (nI 0)], aI D ya 10 (fun _ => 0), oO no 1 [.ref (gg 0), .ref (gg 1), .ref (gg 2), .ref (gg 3), .int 0], oO (gg 0) 2 [.ref (hh 0), .int (nI 0)], oO (gg 1) 2 [.ref (hh 1), .int (nI 0)], oO (gg 2) 2 [.ref (hh 2), .int (nI 0)], oO (gg 3) 2 [.ref (hh 3), .int (nI 0)], aI D (hh 0) 100 ((fun _ _ => 0) 0), aI D (hh 1) 100 ((fun _ _ => 0) 1), aI D (hh 2) 100 ((fun _ _ => 0) 2), aI D (hh 3) 100 ((fun _ _ => 0) 3)] (elC D z 0 0 (fun _ => 0)) (elC D z 0 0 (fun _ => 0)) [] [] (hdC D 0 (fun _ => 0) (fun _ => 0) (fun _ _ => 0) (fun _ _ => 0) (fun _ _ => 0) (fun _ => 0) (fun _ => 0) (fun _ _ => 0) (fun _ _ => 0)) (tkC D 0 (fun _ _ => 0) (fun _ _ => 0) (fun _ _ => 0) (fun _ _ => 0) (fun _ _ _ => 0)) (stC 0 (fun _ => 0) (fun _ => 0) (fun _ => 0) (fun _ _ => 0))) [kF 0] = [oO xo 5 [.ref lc, .ref lt, .ref bo, .ref yo, .ref no], oO lc 7 [.int 0, .ref z, .int (nI 0)], oO lt 7 [.int 0, .ref z, .int (nI 0)], oO bo 2 [.ref ba, .int (nI 4)], aI D ba 4 (fun _ => 0), oO yo 2 [.ref ya, .int (nI 0)], aI D ya 10 (fun _ => 0), oO no 1 [.ref (gg 0), .ref (gg 1), .ref (gg 2), .ref (gg 3), .int 0], oO (gg 0) 2 [.ref (hh 0), .int (nI 0)], oO (gg 1) 2 [.ref (hh 1), .int (nI 0)], oO (gg 2) 2 [.ref (hh 2), .int (nI 0)], oO (gg 3) 2 [.ref (hh 3), .int (nI 0)], aI D (hh 0) 100 (fun _ => 0), aI D (hh 1) 100 (fun _ => 0), aI D (hh 2) 100 (fun _ => 0), aI D (hh 3) 100 (fun _ => 0)] := rfl
  have h0 : ∀ g, g ∉ [kF 0] → (wG [oO xo 5 [.ref lc, .ref lt, .ref bo, .ref yo, .ref no], oO lc 7 [.int 0, .ref z, .int (nI 0)], oO lt 7 [.int 0, .ref z, .int (nI 0)], oO bo 2 [.ref ba, .int (nI 4)], aI D ba 4 (fun _ => 0), oO yo 2 [.ref ya, .int (nI 0)], aI D ya 10 (fun _ => 0), oO no 1 [.ref (gg 0), .ref (gg 1), .ref (gg 2), .ref (gg 3), .int 0], oO (gg 0) 2 [.ref (hh 0), .int (nI 0)], oO (gg 1) 2 [.ref (hh 1), .int (nI 0)], oO (gg 2) 2 [.ref (hh 2), .int (nI 0)], oO (gg 3) 2 [.ref (hh 3), .int (nI 0)], aI D (hh 0) 100 ((fun _ _ => 0) 0), aI D (hh 1) 100 ((fun _ _ => 0) 1), aI D (hh 2) 100 ((fun _ _ => 0) 2), aI D (hh 3) 100 ((fun _ _ => 0) 3)] (elC D z 0 0 (fun _ => 0)) (elC D z 0 0 (fun _ => 0)) [] [] (hdC D 0 (fun _ => 0) (fun _ => 0) (fun _ _ => 0) (fun _ _ => 0) (fun _ _ => 0) (fun _ => 0) (fun _ => 0) (fun _ _ => 0) (fun _ _ => 0)) (tkC D 0 (fun _ _ => 0) (fun _ _ => 0) (fun _ _ => 0) (fun _ _ => 0) (fun _ _ _ => 0)) (stC 0 (fun _ => 0) (fun _ => 0) (fun _ => 0) (fun _ _ => 0))) g = [] := wG_nil0 elC_0 elC_0 (fun c => if_neg (Nat.not_lt_zero c)) (fun c j => if_neg (fun h => Nat.not_lt_zero c h.1)) (fun i => if_neg (Nat.not_lt_zero i))
  exact ⟨lc, lt, bo, yo, no, z, z, ba, ya, 0, 0, 0, 0, (fun _ => 0), (fun _ => 0), (fun _ => 0), (fun _ => 0), gg, hh, (fun _ _ => 0), (fun _ _ => 0), (fun _ _ => 0), (fun _ _ => 0), (fun _ _ => 0), GP.base hL hP h0, GD.base hL hD (by simp) h0, ⟨⟨by omega, by omega⟩, fun c h => absurd h (Nat.not_lt_zero c), fun c h => absurd h (Nat.not_lt_zero c), fun c h => absurd h (Nat.not_lt_zero c), fun j _ => (show (-10000 : Int) ≤ (0 : Int32).toInt ∧ (0 : Int32).toInt ≤ 10000 by decide), fun i h => absurd h (Nat.not_lt_zero i), fun c _ => ⟨rfl, fun _ => rfl⟩⟩, by omega, by omega, fun _ => rfl, fun _ => ⟨rfl, rfl⟩⟩
set_option maxHeartbeats 4000000 in
set_option maxRecDepth 100000 in
theorem whole_start {p : Program} {e : Env} {s : State} {m : MethodId} {below : List Frame} {meth : Method} {c : Code} (l : Launch) (hflags : l.flags = flags0) {b L : Nat} {xs : Nat → Int32} (hL : L ≤ 260) (C0 : lw_At p s m meth c b L xs) : W p l e room_1 s m #[Value.ref b] below meth c s.heap [] 0 0 (lw_Z below #[Value.ref b] s) (entryFrame m ([Value.ref b] : List Value).toArray 12) := by
  obtain ⟨sb, rfl⟩ : ∃ z9, z9 = b := ⟨_, rfl⟩
  obtain ⟨hx, hb, hr, hml, hown, hts0, hX0, hbl, hlocks, hgv⟩ := C0
  have hgf := flat_of_before _ hgv
  obtain ⟨D, hG⟩ := world_G hts0 hgf
  obtain ⟨z, hZL⟩ := world_ZL hts0 hgf
  have hts : ∀ w ∈ wsL_law, w.before #[Value.ref sb] s = true := fun w h => hts0 w (wsL_law_in w h)
  have hown : s.vm.findClass RL = some m.cls := hown
  have hC : CallFix p m c cL_law 12 s #[Value.ref sb] wsL_law RL := ⟨hx, hb, hml, hown, hts⟩
  have hA : ∀ q : Nat, s.heap.size ≤ q → (fun q => s.heap.size ≤ q) q := fun _ h => h
  have hX : SCR sb L xs (fun q => s.heap.size ≤ q) s := ⟨hX0, hbl, Nat.not_le.mpr hbl⟩
  have C : LX p s m c sb L xs D z (fun q => s.heap.size ≤ q) := ⟨⟨hx, hb, hown, hml, hts⟩, ⟨hX, hL⟩, hG, hZL, hA⟩
  have hS : va_S (fun q => s.heap.size ≤ q) s.heap s.heap [] := va_S.rf
  have hP : va_P D cls [] s.heap := fun k q h => by simp at h
  have hD : va_D (fun q => s.heap.size ≤ q) [] := ⟨fun i j p q h => by simp at h, fun k q h => by simp at h⟩
  have hl := lv_entry ([.ref sb]) (n := 12) (Nat.le_of_ble_eq_true rfl)
  rw [lg_entry_eq]
  generalize (lg_sl ([.ref sb]) ++ List.replicate (12 - (lg_sl ([.ref sb])).length) Slot.unset).toArray = ls at hl ⊢
  have hl : lv_has ls 12 [(0, .ref sb)] := hl
  refine va_new (ci := 5) (fs := [.null, .null, .null, .null, .null]) (C := RX5) (T := TX5) (N := 5) hx hb hts inlX5 tyX5 tyX5_ok hown (hts _ mK_L_20) (hts _ mB_X5) (hts _ mN_X5) hG.K hP hD hS hA rfl (fun j hj => by rcases (show j = 0 ∨ j = 1 ∨ j = 2 ∨ j = 3 ∨ j = 4 by omega) with rfl | rfl | rfl | rfl | rfl <;> rfl) (Nat.le_of_ble_eq_true rfl) (Nat.le_of_ble_eq_true rfl) dL_law_0 (fun xo H hP hD hS => ?_)
  have hP : va_P D cls [oO xo 5 [.null, .null, .null, .null, .null]] H := hP
  have hD : va_D (fun q => s.heap.size ≤ q) [oO xo 5 [.null, .null, .null, .null, .null]] := hD
  refine lv_dup hx hb dL_law_3 rfl ?_
  have hP9 := hP.sub (ws' := [oO xo 5 [.null, .null, .null, .null, .null]]) [0] rfl
  have hD9 := (hD.sub (ws' := [oO xo 5 [.null, .null, .null, .null, .null]]) [0] (by decide) rfl).weaken (B := fun _ => True) (fun _ _ _ _ => trivial)
  refine kv (wr := []) (rIX (ZL.blind) (ZL.pre hZL hS (va_free' hD hS hA [0] rfl).2) (rest := [.ref xo]) [] 0 15 437 hC (c_init l D (z := z) (xo := xo) (hz0 := H.size)) mM_L_54 mI_X5_init mN_X5 mC_X5_init rfl (by decide +kernel) rfl rfl ⟨Nat.le_of_ble_eq_true rfl, Nat.le_of_ble_eq_true rfl⟩ hG hP9 hD9 rfl hl.1 rfl (Nat.le_of_ble_eq_true rfl) dL_law_4 ⟨Nat.le_of_ble_eq_true rfl, Nat.le_of_ble_eq_true rfl⟩) hP hD hS hA [0] [] rfl rfl (by decide) (by decide) (fun u4 H locs h4 hP hD hS hz hfr => ?_)
  obtain ⟨lc, lt, bo, ba, yo, ya, no, gg, hh⟩ := u4
  have hP : va_P D cls [oO xo 5 [.ref lc, .ref lt, .ref bo, .ref yo, .ref no], oO lc 7 [.int 0, .ref z, .int (nI 0)], oO lt 7 [.int 0, .ref z, .int (nI 0)], oO bo 2 [.ref ba, .int (nI 4)], aI D ba 4 (fun _ => 0), oO yo 2 [.ref ya, .int (nI 0)], aI D ya 10 (fun _ => 0), oO no 1 [.ref (gg 0), .ref (gg 1), .ref (gg 2), .ref (gg 3), .int 0], oO (gg 0) 2 [.ref (hh 0), .int (nI 0)], oO (gg 1) 2 [.ref (hh 1), .int (nI 0)], oO (gg 2) 2 [.ref (hh 2), .int (nI 0)], oO (gg 3) 2 [.ref (hh 3), .int (nI 0)], aI D (hh 0) 100 (fun _ => 0), aI D (hh 1) 100 (fun _ => 0), aI D (hh 2) 100 (fun _ => 0), aI D (hh 3) 100 (fun _ => 0)] H := hP
  have hD : va_D (fun q => s.heap.size ≤ q) [oO xo 5 [.ref lc, .ref lt, .ref bo, .ref yo, .ref no], oO lc 7 [.int 0, .ref z, .int (nI 0)], oO lt 7 [.int 0, .ref z, .int (nI 0)], oO bo 2 [.ref ba, .int (nI 4)], aI D ba 4 (fun _ => 0), oO yo 2 [.ref ya, .int (nI 0)], aI D ya 10 (fun _ => 0), oO no 1 [.ref (gg 0), .ref (gg 1), .ref (gg 2), .ref (gg 3), .int 0], oO (gg 0) 2 [.ref (hh 0), .int (nI 0)], oO (gg 1) 2 [.ref (hh 1), .int (nI 0)], oO (gg 2) 2 [.ref (hh 2), .int (nI 0)], oO (gg 3) 2 [.ref (hh 3), .int (nI 0)], aI D (hh 0) 100 (fun _ => 0), aI D (hh 1) 100 (fun _ => 0), aI D (hh 2) 100 (fun _ => 0), aI D (hh 3) 100 (fun _ => 0)] := hD
  obtain ⟨A0, hA0⟩ : ∃ A0 : Nat → Prop, A0 = (fun q => s.heap.size ≤ q) := ⟨_, rfl⟩
  rw [← hA0] at hD hS hA hZL hX C
  have hK : KB D A0 z xo [] H 0 (fun _ => 0) (fun _ _ => 0) (fun _ _ _ => 0) (fun _ => 0) (fun _ _ => 0) (fun _ _ => 0) (fun _ => 0) 0 (fun _ => 0) (fun _ _ => 0) 0 (fun _ _ => 0) 0 := KB.first hP hD
  refine lv_astore_n (lv' := [(1, .ref xo), (0, .ref sb)]) hx hb dL_law_7 rfl hl (by decide) rfl (fun ls hl => ?_)
  refine lv_iconst (v := 2) hx hb dL_law_8 (by decide) ?_
  refine knew (N := 2) hx hb hts hG hK hS hA (by decide) (by decide) (by omega) (Nat.le_of_ble_eq_true rfl) (Nat.le_of_ble_eq_true rfl) dL_law_9 (fun q9 H hK hS => ?_)
  have hK : KB D A0 z xo [aI D q9 2 (fun _ => 0)] H 0 (fun _ => 0) (fun _ _ => 0) (fun _ _ _ => 0) (fun _ => 0) (fun _ _ => 0) (fun _ _ => 0) (fun _ => 0) 0 (fun _ => 0) (fun _ _ => 0) 0 (fun _ _ => 0) 0 := hK
  refine lv_astore_n (lv' := [(2, .ref q9), (1, .ref xo), (0, .ref sb)]) hx hb dL_law_11 rfl hl (by decide) rfl (fun ls hl => ?_)
  refine lv_sipush (v := 130) hx hb dL_law_12 (by decide) ?_
  refine knew (N := 130) hx hb hts hG hK hS hA (by decide) (by decide) (by omega) (Nat.le_of_ble_eq_true rfl) (Nat.le_of_ble_eq_true rfl) dL_law_15 (fun q15 H hK hS => ?_)
  have hK : KB D A0 z xo [aI D q9 2 (fun _ => 0), aI D q15 130 (fun _ => 0)] H 0 (fun _ => 0) (fun _ _ => 0) (fun _ _ _ => 0) (fun _ => 0) (fun _ _ => 0) (fun _ _ => 0) (fun _ => 0) 0 (fun _ => 0) (fun _ _ => 0) 0 (fun _ _ => 0) 0 := hK
  refine lv_astore_n (lv' := [(3, .ref q15), (2, .ref q9), (1, .ref xo), (0, .ref sb)]) hx hb dL_law_17 rfl hl (by decide) rfl (fun ls hl => ?_)
  refine lv_aload_n hx hb dL_law_18 rfl (lv_at hl 2 rfl) ?_
  refine lv_aload_n hx hb dL_law_19 rfl (lv_at hl 3 rfl) ?_
  refine lv_aload_n hx hb dL_law_20 rfl (lv_at hl 1 rfl) ?_
  refine lv_bipush (v := 120) hx hb dL_law_21 (by decide) ?_
  refine knew (N := 120) hx hb hts hG hK hS hA (by decide) (by decide) (by omega) (Nat.le_of_ble_eq_true rfl) (Nat.le_of_ble_eq_true rfl) dL_law_23 (fun q23 H hK hS => ?_)
  have hK : KB D A0 z xo [aI D q9 2 (fun _ => 0), aI D q15 130 (fun _ => 0), aI D q23 120 (fun _ => 0)] H 0 (fun _ => 0) (fun _ _ => 0) (fun _ _ _ => 0) (fun _ => 0) (fun _ _ => 0) (fun _ _ => 0) (fun _ => 0) 0 (fun _ => 0) (fun _ _ => 0) 0 (fun _ _ => 0) 0 := hK
  refine lv_iconst (v := 2) hx hb dL_law_25 (by decide) ?_
  refine knew (N := 2) hx hb hts hG hK hS hA (by decide) (by decide) (by omega) (Nat.le_of_ble_eq_true rfl) (Nat.le_of_ble_eq_true rfl) dL_law_26 (fun q26 H hK hS => ?_)
  have hK : KB D A0 z xo [aI D q9 2 (fun _ => 0), aI D q15 130 (fun _ => 0), aI D q23 120 (fun _ => 0), aI D q26 2 (fun _ => 0)] H 0 (fun _ => 0) (fun _ _ => 0) (fun _ _ _ => 0) (fun _ => 0) (fun _ _ => 0) (fun _ _ => 0) (fun _ => 0) 0 (fun _ => 0) (fun _ _ => 0) 0 (fun _ _ => 0) 0 := hK
  refine lv_aload_n hx hb dL_law_28 rfl (lv_at hl 0 rfl) ?_
  refine va_calli (A0 := A0) (va_runS hC (c_stage l D (A0 := A0) (hz0 := H.size) (L := L) (xs := xs) hL (fun q hq => hA q (Nat.le_trans hS.1 hq))) (va_cwS 6 hC.2.2.2.2 (gS mM_L_55 mT_L_stage mN_L mC_L_stage) rfl rfl rfl (by decide +kernel) ⟨Nat.le_of_ble_eq_true rfl, Nat.le_of_ble_eq_true rfl⟩) ⟨STW.blind, STW.pre hG hK hZL hX hS⟩ rfl (As := [.ref xo, .ref sb, .ref q9, .ref q23, .ref q26, .ref q15]) (rest := []) rfl hl.1 rfl (lv_room (Nat.le_of_ble_eq_true rfl)) dL_law_29 ⟨Nat.le_of_ble_eq_true rfl, Nat.le_of_ble_eq_true rfl⟩) hS (fun q _ h => h) (fun q h => h) (fun r u t H locs ht _ hp hB _ _ hS => ?_)
  obtain ⟨len, sz, ff, nc, ct, cn, nS, ck, pt, fl, fk, fm, fs⟩ := u
  obtain ⟨hr0, ⟨hnS1, hnS6⟩, hSG, hst⟩ := (show STP r len sz nc nS pt fl fs from hp)
  subst hr0
  have hK : KB D A0 z xo [aI D q9 2 fl, aI D q15 130 fs, aI D q23 120 fk, aI D q26 2 fm] H 2 len sz ff nc ct cn (fun _ => 0) nS ck pt 0 (fun _ _ => 0) 0 := by subst ht; exact hB
  refine lv_istore (lv' := [(4, .int (nI nS)), (3, .ref q15), (2, .ref q9), (1, .ref xo), (0, .ref sb)]) hx hb dL_law_32 hl (by decide) rfl (fun ls hl => ?_)
  refine lv_iload hx hb dL_law_34 (lv_at hl 0 rfl) ?_
  refine lv_if_ge (tgt := 41) hx hb dL_law_36 (by decide) (fun _ => ?_) (fun h9 => absurd ((nI_leI (a := 0) (b := nS) (by omega) (by omega)).mpr (by omega)) h9)
  refine W.widen (k := 1000) (n := 10000) (Nat.le_of_ble_eq_true rfl) (Nat.le_of_ble_eq_true rfl) ?_
  exact law_main C hnS1 hnS6 hSG hst hK hS (lv_sub hl [4, 3, 2, 1, 0] rfl) (fun H1 l1 ls1 hS1 => va_forget (fun q hq => by have := hS1.2.2 q hq; rw [hA0] at this; exact this) (lw_ret hx hb hr hlocks dL_law_726))
