/-- an int's last five bits -/
theorem and31 (x : Int32) : ∃ k, k < 32 ∧ x &&& 31 = nI k := by
  have h : (x &&& 31).toBitVec.toNat < 32 := by
    rw [Int32.toBitVec_and, BitVec.toNat_and]
    exact Nat.and_lt_two_pow (n := 5) _ (by decide)
  refine ⟨(x &&& 31).toBitVec.toNat, h, Int32.toBitVec_inj.mp (BitVec.eq_of_toNat_eq ?_)⟩
  show _ = (BitVec.ofNat 32 _).toNat
  rw [BitVec.toNat_ofNat, Nat.mod_eq_of_lt (Nat.lt_trans h (by decide))]
theorem lp_le {L n : Nat} (h : ¬ (Int32.ofNat L - 6 < nI (6 * n))) (hL : L ≤ 3072) (hn : 6 * n ≤ L) : 6 * n + 6 ≤ L := by
  by_cases h6 : 6 ≤ L
  · rw [show Int32.ofNat L - 6 = nI (L - 6) from pk_sub (a := L) (b := 6) h6] at h
    rcases Nat.lt_or_ge L (6 * n + 6) with q | q
    · exact absurd ((nI_ltI (a := L - 6) (b := 6 * n) (by omega) (by omega)).mpr (by omega)) h
    · exact q
  · exfalso
    obtain rfl : n = 0 := by omega
    have h5 : L = 0 ∨ L = 1 ∨ L = 2 ∨ L = 3 ∨ L = 4 ∨ L = 5 := by omega
    rcases h5 with rfl | rfl | rfl | rfl | rfl | rfl <;> exact h (by decide)
set_option maxHeartbeats 4000000 in
set_option maxRecDepth 100000 in
theorem law_jump {p : Program} {l : Launch} {e : Env} {s : State} {m : MethodId} {below : List Frame} {meth : Method} {c : Code} {D : va_G} {z sb L : Nat} {xs : Nat → Int32} {Q : State → Prop} (C : LX p l s m c sb L xs D z) {xo mo ou od i cells slots : Nat} {H : Heap} {locs : List Loc} {ls : Array Slot} (hi : i + 6 ≤ L) {nC : Nat} {len : Nat → Int32} {sz : Nat → Nat → Nat} {ff : Nat → Nat → Nat → Int32} {nc : Nat → Nat} {ct : Nat → Nat → Int32} {cn : Nat → Nat → Int32} {bf : Nat → Int32} {nS : Nat} {ck : Nat → Nat} {pt : Nat → Nat → Int32} {kN : Nat} {nf : Nat → Nat → Int32} {cnt : Int32} {lc : Nat} {lt : Nat} {bo : Nat} {yo : Nat} {no : Nat} {ec : Nat} {et : Nat} {ba : Nat} {ya : Nat} {n0 : Nat} {eS : Nat} {m1 : Int32} {m2 : Int32} {yf : Nat → Int32} {cl : Nat → Nat} {ta : Nat → Nat} {sl : Nat → Nat} {ggf : Nat → Nat} {hhf : Nat → Nat} {qq : Nat → Nat → Nat} {bb : Nat → Nat → Nat} {tt : Nat → Nat → Nat} {rr : Nat → Nat → Nat} {aa : Nat → Nat → Nat} {th : Int32} {nM : Nat} {a1 : Nat} {a2 : Nat} {a3 : Nat} {a4 : Nat} {a5 : Nat} {a6 : Nat} {a7 : Nat} {a8 : Nat} {a9 : Nat} {a10 : Nat} {a11 : Nat} {bs : Nat → Int32} {ln : Nat → Int32} {ks : Nat → Int32} {tm : Nat → Int32} {wo : Nat → Int32} {ea : Nat → Int32} {qs : Nat → Int32} {qt : Nat → Int32} {qn : Nat → Int32} {pa : Nat → Int32} {mm : Nat → Int32} {wl : Nat → Int64} {wd : Nat → UInt64} (hI : LB D (fun q => s.heap.size ≤ q) z xo mo ou od H nC len sz ff nc ct cn bf nS ck pt kN nf cnt lc lt bo yo no ec et ba ya n0 eS m1 m2 yf cl ta sl ggf hhf qq bb tt rr aa th nM a1 a2 a3 a4 a5 a6 a7 a8 a9 a10 a11 bs ln ks tm wo ea qs qt qn pa mm wl wd) (hS : va_S (fun q => s.heap.size ≤ q) s.heap H locs) (hcl : cells + 1100 ≤ 601024) (hsl : slots + 14000 ≤ 7293034) (hl : lv_has ls 9 [(0, .ref sb), (1, .ref xo), (2, .ref mo), (3, .ref ou), (4, .ref od), (5, .int (nI i))]) (kont : ∀ (nC : Nat) (len : Nat → Int32) (sz : Nat → Nat → Nat) (ff : Nat → Nat → Nat → Int32) (nc : Nat → Nat) (ct : Nat → Nat → Int32) (cn : Nat → Nat → Int32) (bf : Nat → Int32) (nS : Nat) (ck : Nat → Nat) (pt : Nat → Nat → Int32) (kN : Nat) (nf : Nat → Nat → Int32) (cnt : Int32) (lc : Nat) (lt : Nat) (bo : Nat) (yo : Nat) (no : Nat) (ec : Nat) (et : Nat) (ba : Nat) (ya : Nat) (n0 : Nat) (eS : Nat) (m1 : Int32) (m2 : Int32) (yf : Nat → Int32) (cl : Nat → Nat) (ta : Nat → Nat) (sl : Nat → Nat) (ggf : Nat → Nat) (hhf : Nat → Nat) (qq : Nat → Nat → Nat) (bb : Nat → Nat → Nat) (tt : Nat → Nat → Nat) (rr : Nat → Nat → Nat) (aa : Nat → Nat → Nat) (th : Int32) (nM : Nat) (a1 : Nat) (a2 : Nat) (a3 : Nat) (a4 : Nat) (a5 : Nat) (a6 : Nat) (a7 : Nat) (a8 : Nat) (a9 : Nat) (a10 : Nat) (a11 : Nat) (bs : Nat → Int32) (ln : Nat → Int32) (ks : Nat → Int32) (tm : Nat → Int32) (wo : Nat → Int32) (ea : Nat → Int32) (qs : Nat → Int32) (qt : Nat → Int32) (qn : Nat → Int32) (pa : Nat → Int32) (mm : Nat → Int32) (wl : Nat → Int64) (wd : Nat → UInt64) (H1 : Heap) (locs1 : List Loc) (ls1 : Array Slot), LB D (fun q => s.heap.size ≤ q) z xo mo ou od H1 nC len sz ff nc ct cn bf nS ck pt kN nf cnt lc lt bo yo no ec et ba ya n0 eS m1 m2 yf cl ta sl ggf hhf qq bb tt rr aa th nM a1 a2 a3 a4 a5 a6 a7 a8 a9 a10 a11 bs ln ks tm wo ea qs qt qn pa mm wl wd → va_S (fun q => s.heap.size ≤ q) s.heap H1 locs1 → lv_has ls1 9 [(0, .ref sb), (1, .ref xo), (2, .ref mo), (3, .ref ou), (4, .ref od), (5, .int (nI i))] → W p l e room_1 s m #[Value.ref sb] below meth c H1 locs1 (cells + 1100) (slots + 14000) Q (F0 m 2192 ls1 [])) {k : Nat} (hk : k < 27) : W p l e room_1 s m #[Value.ref sb] below meth c H locs cells slots Q (F0 m 45 ls [.int (nI k)]) := by
  have hx := C.1.1
  have hb := C.1.2.1
  match k, hk with
  | 0, _ => exact lv_tableIn (off := 123) (tgt := 168) hx hb dL_law_45 (by decide) (by decide) (by decide) (by decide) (o_addClip C hi hI hS hcl hsl hl kont)
  | 1, _ => exact lv_tableIn (off := 179) (tgt := 224) hx hb dL_law_45 (by decide) (by decide) (by decide) (by decide) (o_clip C hi hI hS hcl hsl hl kont)
  | 2, _ => exact lv_tableIn (off := 247) (tgt := 292) hx hb dL_law_45 (by decide) (by decide) (by decide) (by decide) (o_key C hi hI hS hcl hsl hl kont)
  | 3, _ => exact lv_tableIn (off := 351) (tgt := 396) hx hb dL_law_45 (by decide) (by decide) (by decide) (by decide) (o_unkey C hi hI hS hcl hsl hl kont)
  | 4, _ => exact lv_tableIn (off := 431) (tgt := 476) hx hb dL_law_45 (by decide) (by decide) (by decide) (by decide) (o_keys C hi hI hS hcl hsl hl kont)
  | 5, _ => exact lv_tableIn (off := 499) (tgt := 544) hx hb dL_law_45 (by decide) (by decide) (by decide) (by decide) (o_keyOf C hi hI hS hcl hsl hl kont)
  | 6, _ => exact lv_tableIn (off := 591) (tgt := 636) hx hb dL_law_45 (by decide) (by decide) (by decide) (by decide) (o_trackAt C hi hI hS hcl hsl hl kont)
  | 7, _ => exact lv_tableIn (off := 671) (tgt := 716) hx hb dL_law_45 (by decide) (by decide) (by decide) (by decide) (o_cue C hi hI hS hcl hsl hl kont)
  | 8, _ => exact lv_tableIn (off := 751) (tgt := 796) hx hb dL_law_45 (by decide) (by decide) (by decide) (by decide) (o_cueOf C hi hI hS hcl hsl hl kont)
  | 9, _ => exact lv_tableIn (off := 831) (tgt := 876) hx hb dL_law_45 (by decide) (by decide) (by decide) (by decide) (o_mirror C hi hI hS hcl hsl hl kont)
  | 10, _ => exact lv_tableIn (off := 887) (tgt := 932) hx hb dL_law_45 (by decide) (by decide) (by decide) (by decide) (o_retime C hi hI hS hcl hsl hl kont)
  | 11, _ => exact lv_tableIn (off := 967) (tgt := 1012) hx hb dL_law_45 (by decide) (by decide) (by decide) (by decide) (o_reduce C hi hI hS hcl hsl hl kont)
  | 12, _ => exact lv_tableIn (off := 1047) (tgt := 1092) hx hb dL_law_45 (by decide) (by decide) (by decide) (by decide) (o_setBase C hi hI hS hcl hsl hl kont)
  | 13, _ => exact lv_tableIn (off := 1115) (tgt := 1160) hx hb dL_law_45 (by decide) (by decide) (by decide) (by decide) (o_addStrip C hi hI hS hcl hsl hl kont)
  | 14, _ => exact lv_tableIn (off := 1207) (tgt := 1252) hx hb dL_law_45 (by decide) (by decide) (by decide) (by decide) (o_removeStrip C hi hI hS hcl hsl hl kont)
  | 15, _ => exact lv_tableIn (off := 1263) (tgt := 1308) hx hb dL_law_45 (by decide) (by decide) (by decide) (by decide) (o_setSpeed C hi hI hS hcl hsl hl kont)
  | 16, _ => exact lv_tableIn (off := 1343) (tgt := 1388) hx hb dL_law_45 (by decide) (by decide) (by decide) (by decide) (o_setBlend C hi hI hS hcl hsl hl kont)
  | 17, _ => exact lv_tableIn (off := 1479) (tgt := 1524) hx hb dL_law_45 (by decide) (by decide) (by decide) (by decide) (o_setFade C hi hI hS hcl hsl hl kont)
  | 18, _ => exact lv_tableIn (off := 1559) (tgt := 1604) hx hb dL_law_45 (by decide) (by decide) (by decide) (by decide) (o_strip C hi hI hS hcl hsl hl kont)
  | 19, _ => exact lv_tableIn (off := 1627) (tgt := 1672) hx hb dL_law_45 (by decide) (by decide) (by decide) (by decide) (o_stripAt C hi hI hS hcl hsl hl kont)
  | 20, _ => exact lv_tableIn (off := 1723) (tgt := 1768) hx hb dL_law_45 (by decide) (by decide) (by decide) (by decide) (o_end C hi hI hS hcl hsl hl kont)
  | 21, _ => exact lv_tableIn (off := 1736) (tgt := 1781) hx hb dL_law_45 (by decide) (by decide) (by decide) (by decide) (o_at C hi hI hS hcl hsl hl kont)
  | 22, _ => exact lv_tableIn (off := 1804) (tgt := 1849) hx hb dL_law_45 (by decide) (by decide) (by decide) (by decide) (o_reaches C hi hI hS hcl hsl hl kont)
  | 23, _ => exact lv_tableIn (off := 1896) (tgt := 1941) hx hb dL_law_45 (by decide) (by decide) (by decide) (by decide) (o_mean C hi hI hS hcl hsl hl kont)
  | 24, _ => exact lv_tableIn (off := 1997) (tgt := 2042) hx hb dL_law_45 (by decide) (by decide) (by decide) (by decide) (o_play C hi hI hS hcl hsl hl kont)
  | 25, _ => exact lv_tableIn (off := 2065) (tgt := 2110) hx hb dL_law_45 (by decide) (by decide) (by decide) (by decide) (o_met C hi hI hS hcl hsl hl kont)
  | 26, _ => exact lv_tableIn (off := 2133) (tgt := 2178) hx hb dL_law_45 (by decide) (by decide) (by decide) (by decide) (o_digest C hi hI hS hcl hsl hl kont)
  | k + 27, h => exact absurd h (by omega)
set_option maxHeartbeats 4000000 in
set_option maxRecDepth 100000 in
theorem law_loop {p : Program} {l : Launch} {e : Env} {s : State} {m : MethodId} {below : List Frame} {meth : Method} {c : Code} {D : va_G} {z sb L : Nat} {xs : Nat → Int32} (C : LX p l s m c sb L xs D z) (hr : meth.sig.returnType = ret) (hlocks : meth.locks = false) {xo mo ou od : Nat} : ∀ (r n : Nat), L < 6 * n + r → 6 * n ≤ L → ∀ (nC : Nat) (len : Nat → Int32) (sz : Nat → Nat → Nat) (ff : Nat → Nat → Nat → Int32) (nc : Nat → Nat) (ct : Nat → Nat → Int32) (cn : Nat → Nat → Int32) (bf : Nat → Int32) (nS : Nat) (ck : Nat → Nat) (pt : Nat → Nat → Int32) (kN : Nat) (nf : Nat → Nat → Int32) (cnt : Int32) (lc : Nat) (lt : Nat) (bo : Nat) (yo : Nat) (no : Nat) (ec : Nat) (et : Nat) (ba : Nat) (ya : Nat) (n0 : Nat) (eS : Nat) (m1 : Int32) (m2 : Int32) (yf : Nat → Int32) (cl : Nat → Nat) (ta : Nat → Nat) (sl : Nat → Nat) (ggf : Nat → Nat) (hhf : Nat → Nat) (qq : Nat → Nat → Nat) (bb : Nat → Nat → Nat) (tt : Nat → Nat → Nat) (rr : Nat → Nat → Nat) (aa : Nat → Nat → Nat) (th : Int32) (nM : Nat) (a1 : Nat) (a2 : Nat) (a3 : Nat) (a4 : Nat) (a5 : Nat) (a6 : Nat) (a7 : Nat) (a8 : Nat) (a9 : Nat) (a10 : Nat) (a11 : Nat) (bs : Nat → Int32) (ln : Nat → Int32) (ks : Nat → Int32) (tm : Nat → Int32) (wo : Nat → Int32) (ea : Nat → Int32) (qs : Nat → Int32) (qt : Nat → Int32) (qn : Nat → Int32) (pa : Nat → Int32) (mm : Nat → Int32) (wl : Nat → Int64) (wd : Nat → UInt64) (H : Heap) (locs : List Loc) (ls : Array Slot), LB D (fun q => s.heap.size ≤ q) z xo mo ou od H nC len sz ff nc ct cn bf nS ck pt kN nf cnt lc lt bo yo no ec et ba ya n0 eS m1 m2 yf cl ta sl ggf hhf qq bb tt rr aa th nM a1 a2 a3 a4 a5 a6 a7 a8 a9 a10 a11 bs ln ks tm wo ea qs qt qn pa mm wl wd → va_S (fun q => s.heap.size ≤ q) s.heap H locs → lv_has ls 9 [(0, .ref sb), (1, .ref xo), (2, .ref mo), (3, .ref ou), (4, .ref od), (5, .int (nI (6 * n)))] → W p l e room_1 s m #[Value.ref sb] below meth c H locs (100 + 1100 * n) (6000 + 14000 * n) (lw_Z below #[Value.ref sb] s) (F0 m 28 ls []) := by
  intro r
  induction r with
  | zero => exact fun n h1 h2 => absurd h1 (by omega)
  | succ r ih =>
    intro n hLr hLn nC len sz ff nc ct cn bf nS ck pt kN nf cnt lc lt bo yo no ec et ba ya n0 eS m1 m2 yf cl ta sl ggf hhf qq bb tt rr aa th nM a1 a2 a3 a4 a5 a6 a7 a8 a9 a10 a11 bs ln ks tm wo ea qs qt qn pa mm wl wd H locs ls hI hS hl
    have ⟨⟨hx, hb, hown, hml, hts2⟩, hX, hns, hG, hZU, hZL⟩ := C
    have hL := hX.2.2
    refine lv_iload hx hb dL_law_28 (lv_at hl 5 rfl) ?_
    refine lv_aload_n hx hb dL_law_30 rfl (lv_at hl 0 rfl) ?_
    refine va_slen hx hb hX.1 hX.2.1 (Nat.not_le.mpr hX.2.1) hS dL_law_31 ?_
    refine lv_bipush (v := 6) hx hb dL_law_32 (by decide) ?_
    refine lv_isub hx hb dL_law_34 ?_
    refine lv_icmp_gt (tgt := 2198) hx hb dL_law_35 (by decide) (fun c35 => ?_) (fun c35 => ?_)
    · have h512 : n ≤ 512 := by omega
      refine lv_iconst (v := 1) hx hb dL_law_2198 (by decide) ?_
      refine va_forget (fun q hq => hS.2.2 q hq) ?_
      refine W.widen (k := 601024) (n := 7293034) (by omega) (by omega) ?_
      refine W.base ?_
      exact lw_ret (Drawn.sameBut.refl s.drawn lw_cs) hx hb hr hlocks dL_law_2199
    · have hi : 6 * n + 6 ≤ L := lp_le c35 hL hLn
      have hcl : (100 + 1100 * n) + 1100 ≤ 601024 := by omega
      have hsl : (6000 + 14000 * n) + 14000 ≤ 7293034 := by omega
      have kont : ∀ (nC : Nat) (len : Nat → Int32) (sz : Nat → Nat → Nat) (ff : Nat → Nat → Nat → Int32) (nc : Nat → Nat) (ct : Nat → Nat → Int32) (cn : Nat → Nat → Int32) (bf : Nat → Int32) (nS : Nat) (ck : Nat → Nat) (pt : Nat → Nat → Int32) (kN : Nat) (nf : Nat → Nat → Int32) (cnt : Int32) (lc : Nat) (lt : Nat) (bo : Nat) (yo : Nat) (no : Nat) (ec : Nat) (et : Nat) (ba : Nat) (ya : Nat) (n0 : Nat) (eS : Nat) (m1 : Int32) (m2 : Int32) (yf : Nat → Int32) (cl : Nat → Nat) (ta : Nat → Nat) (sl : Nat → Nat) (ggf : Nat → Nat) (hhf : Nat → Nat) (qq : Nat → Nat → Nat) (bb : Nat → Nat → Nat) (tt : Nat → Nat → Nat) (rr : Nat → Nat → Nat) (aa : Nat → Nat → Nat) (th : Int32) (nM : Nat) (a1 : Nat) (a2 : Nat) (a3 : Nat) (a4 : Nat) (a5 : Nat) (a6 : Nat) (a7 : Nat) (a8 : Nat) (a9 : Nat) (a10 : Nat) (a11 : Nat) (bs : Nat → Int32) (ln : Nat → Int32) (ks : Nat → Int32) (tm : Nat → Int32) (wo : Nat → Int32) (ea : Nat → Int32) (qs : Nat → Int32) (qt : Nat → Int32) (qn : Nat → Int32) (pa : Nat → Int32) (mm : Nat → Int32) (wl : Nat → Int64) (wd : Nat → UInt64) (H1 : Heap) (locs1 : List Loc) (ls1 : Array Slot), LB D (fun q => s.heap.size ≤ q) z xo mo ou od H1 nC len sz ff nc ct cn bf nS ck pt kN nf cnt lc lt bo yo no ec et ba ya n0 eS m1 m2 yf cl ta sl ggf hhf qq bb tt rr aa th nM a1 a2 a3 a4 a5 a6 a7 a8 a9 a10 a11 bs ln ks tm wo ea qs qt qn pa mm wl wd → va_S (fun q => s.heap.size ≤ q) s.heap H1 locs1 → lv_has ls1 9 [(0, .ref sb), (1, .ref xo), (2, .ref mo), (3, .ref ou), (4, .ref od), (5, .int (nI (6 * n)))] → W p l e room_1 s m #[Value.ref sb] below meth c H1 locs1 ((100 + 1100 * n) + 1100) ((6000 + 14000 * n) + 14000) (lw_Z below #[Value.ref sb] s) (F0 m 2192 ls1 []) := by
        intro nC len sz ff nc ct cn bf nS ck pt kN nf cnt lc lt bo yo no ec et ba ya n0 eS m1 m2 yf cl ta sl ggf hhf qq bb tt rr aa th nM a1 a2 a3 a4 a5 a6 a7 a8 a9 a10 a11 bs ln ks tm wo ea qs qt qn pa mm wl wd H1 locs1 ls1 hI1 hS1 hl1
        refine lv_iinc (v := nI (6 * (n + 1))) (k := 5) hx hb dL_law_2192 hl1 rfl ((congrArg (fun v => nI (6 * n) + v) (show Int32.ofInt 6 = nI 6 by decide)).trans (nI_add (6 * n) 6)) (by decide) rfl (fun ls2 hl2 => ?_)
        refine lv_goto (tgt := 28) hx hb dL_law_2195 (by decide) ?_
        refine W.widen (k := 100 + 1100 * (n + 1)) (n := 6000 + 14000 * (n + 1)) (by omega) (by omega) ?_
        exact ih (n + 1) (by omega) (by omega) nC len sz ff nc ct cn bf nS ck pt kN nf cnt lc lt bo yo no ec et ba ya n0 eS m1 m2 yf cl ta sl ggf hhf qq bb tt rr aa th nM a1 a2 a3 a4 a5 a6 a7 a8 a9 a10 a11 bs ln ks tm wo ea qs qt qn pa mm wl wd _ _ _ hI1 hS1 (lv_sub hl2 [1, 2, 3, 4, 5, 0] rfl)
      refine lv_aload_n hx hb dL_law_38 rfl (lv_at hl 0 rfl) ?_
      refine lv_iload hx hb dL_law_39 (lv_at hl 5 rfl) ?_
      refine sld hx hb hX hS (j := 6 * n) (by omega) dL_law_41 ?_
      refine lv_bipush (v := 31) hx hb dL_law_42 (by decide) ?_
      refine lv_iand hx hb dL_law_44 ?_
      obtain ⟨k, hk, hek⟩ := and31 (xs (6 * n))
      refine tpi (y := nI k) hek ?_
      by_cases hk27 : k < 27
      · exact law_jump C hi hI hS hcl hsl hl kont hk27
      · refine lv_tableOut (tgt := 2192) hx hb dL_law_45 (Or.inr ?_) (by decide) ?_
        · rw [show (nI k).toInt = (k : Int) from nI_toInt (by omega)]
          omega
        · refine W.widen (k := (100 + 1100 * n) + 1100) (n := (6000 + 14000 * n) + 14000) (by omega) (by omega) ?_
          exact kont nC len sz ff nc ct cn bf nS ck pt kN nf cnt lc lt bo yo no ec et ba ya n0 eS m1 m2 yf cl ta sl ggf hhf qq bb tt rr aa th nM a1 a2 a3 a4 a5 a6 a7 a8 a9 a10 a11 bs ln ks tm wo ea qs qt qn pa mm wl wd _ _ _ hI hS hl
