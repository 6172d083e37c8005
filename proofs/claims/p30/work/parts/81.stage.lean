set_option maxHeartbeats 40000000 in
set_option maxRecDepth 100000 in
theorem c_stage (l : Launch) (D : va_G) {A0 : Nat → Prop} {hz0 z xo sb ln ky mn st9 L kN : Nat} {xs bf : Nat → Int32} {cnt : Int32} {len : Nat → Int32} {sz : Nat → Nat → Nat} {ff : Nat → Nat → Nat → Int32} {nc : Nat → Nat} {ct cn : Nat → Nat → Int32} {ck : Nat → Nat} {pt nf : Nat → Nat → Int32} (hL : L ≤ 260) (hA : ∀ q : Nat, hz0 ≤ q → A0 q) : Met l yL_stage (ws_ yL_stage cL_stage 13 (some .int)) ({ frames := 9, cells := 200, slots := 3000, locals := 250 } : Room) (va_Pc ([.ref xo, .ref sb, .ref ln, .ref ky, .ref mn, .ref st9] : List Value) (STW D A0 hz0 z sb L xs (fun H => KB D A0 z xo [aI D ln 2 (fun _ => 0), aI D st9 130 (fun _ => 0), aI D ky 120 (fun _ => 0), aI D mn 2 (fun _ => 0)] H 0 len sz ff nc ct cn bf 0 ck pt kN nf cnt))) (va_Qi (fun r ((len, sz, ff, nc, ct, cn, nS, ck, pt, fl, fk, fm, fs) : SD) => STP r len sz nc nS pt fl fs) (fun ((len, sz, ff, nc, ct, cn, nS, ck, pt, fl, fk, fm, fs) : SD) t => KB D A0 z xo [aI D ln 2 fl, aI D st9 130 fs, aI D ky 120 fk, aI D mn 2 fm] t.heap 2 len sz ff nc ct cn bf nS ck pt kN nf cnt) A0) 200 3000 A0 := by
  refine Met.ofW (cc := cL_stage) (maxL := 13) (ret := (some .int)) (by decide) rfl ?_
  intro p e s m args below meth c s₁ B hml hv
  obtain ⟨rfl, hsz, hG, hK, hZL, hX⟩ := hv
  have hx := B.exec
  have hb := B.bytes
  have hr := B.returns
  have hts : ∀ w ∈ wsL_law, w.before _ s = true := fun w h => atoms_spec (ws := (ws_ yL_stage cL_stage 13 (some .int))) B.pre w (List.mem_cons_of_mem _ h)
  have hown : s.vm.findClass RL = some m.cls := findClass_of_methodNamed B.named
  have hlk := B.notSynchronized
  have hC : CallFix p m c cL_stage 13 s _ wsL_law RL := ⟨hx, hb, hml, hown, hts⟩
  subst hsz
  have hS : va_S A0 s.heap s.heap [] := va_S.rf
  obtain ⟨H, hHe⟩ : ∃ H, H = s.heap := ⟨_, rfl⟩
  have hK : KB D A0 z xo [aI D ln 2 (fun _ => 0), aI D st9 130 (fun _ => 0), aI D ky 120 (fun _ => 0), aI D mn 2 (fun _ => 0)] H 0 len sz ff nc ct cn bf 0 ck pt kN nf cnt := by rw [hHe]; exact hK
  have hS : va_S A0 s.heap H [] := by rw [hHe]; exact hS
  have hl := lv_entry ([.ref xo, .ref sb, .ref ln, .ref ky, .ref mn, .ref st9]) (n := 13) (Nat.le_of_ble_eq_true rfl)
  rw [lg_entry_eq]
  generalize (lg_sl ([.ref xo, .ref sb, .ref ln, .ref ky, .ref mn, .ref st9]) ++ List.replicate (13 - (lg_sl ([.ref xo, .ref sb, .ref ln, .ref ky, .ref mn, .ref st9])).length) Slot.unset).toArray = ls at hl ⊢
  have hl : lv_has ls 13 [(0, .ref xo), (1, .ref sb), (2, .ref ln), (3, .ref ky), (4, .ref mn), (5, .ref st9)] := hl
  refine W.genQ (fun Q hQe => ?_)
  show W p l e ({ frames := 9, cells := 200, slots := 3000, locals := 250 } : Room) s m ([.ref xo, .ref sb, .ref ln, .ref ky, .ref mn, .ref st9] : List Value).toArray below meth c s.heap [] 0 0 Q _
  rw [← hHe]
  refine lv_iconst (v := 0) hx hb dL_stage_0 (by decide) ?_
  refine lv_istore (lv' := [(6, .int 0), (0, .ref xo), (1, .ref sb), (2, .ref ln), (3, .ref ky), (4, .ref mn), (5, .ref st9)]) hx hb dL_stage_1 hl (by decide) rfl (fun ls hl => ?_)
  have loop3 : ∀ (d9 : Nat) (c1 : Nat) (len1 : Nat → Int32) (sz1 : Nat → Nat → Nat) (ff1 : Nat → Nat → Nat → Int32) (nc1 : Nat → Nat) (ct1 : Nat → Nat → Int32) (cn1 : Nat → Nat → Int32) (fl1 : Nat → Int32) (fk1 : Nat → Int32) (fm1 : Nat → Int32), (2 - c1) < d9 → (c1 ≤ 2) → (SG c1 len1 sz1 nc1 fl1) → (∀ y, c1 ≤ y → y < 2 → fm1 y = 0) → ∀ (H : Heap) (locs : List Loc) (ls : Array Slot), KB D A0 z xo [aI D ln 2 fl1, aI D st9 130 (fun _ => 0), aI D ky 120 fk1, aI D mn 2 fm1] H c1 len1 sz1 ff1 nc1 ct1 cn1 bf 0 ck pt kN nf cnt → va_S A0 s.heap H locs → lv_has ls 13 [(0, .ref xo), (1, .ref sb), (2, .ref ln), (3, .ref ky), (4, .ref mn), (5, .ref st9), (6, .int (nI c1))] → W p l e ({ frames := 9, cells := 200, slots := 3000, locals := 250 } : Room) s m ([.ref xo, .ref sb, .ref ln, .ref ky, .ref mn, .ref st9] : List Value).toArray below meth c H locs (70 * c1) (700 * c1) Q (F0 m 3 ls []) := by
    intro d9
    induction d9 with
    | zero => intro c1 len1 sz1 ff1 nc1 ct1 cn1 fl1 fk1 fm1 hd; exact absurd hd (Nat.not_lt_zero _)
    | succ d9 ih3 =>
      intro c1 len1 sz1 ff1 nc1 ct1 cn1 fl1 fk1 fm1 hd3 hc2 hSG hM0 H locs ls hK hS hl
      refine lv_iload hx hb dL_stage_3 (lv_at hl 6 rfl) ?_
      refine lv_iconst (v := 2) hx hb dL_stage_5 (by decide) ?_
      refine lv_icmp_ge (tgt := 206) hx hb dL_stage_6 (by decide) (fun c6 => ?_) (fun c6 => ?_)
      · skip
        have n6 := (nI_leI (a := 2) (b := c1) (by omega) (by omega)).mp c6
        obtain rfl : c1 = 2 := by omega
        refine lv_iconst (v := 1) hx hb dL_stage_206 (by decide) ?_
        refine lv_aload_n hx hb dL_stage_207 rfl (lv_at hl 1 rfl) ?_
        refine lv_iconst (v := 5) hx hb dL_stage_208 (by decide) ?_
        have hP9 : va_P D cls [] H := fun k q h => by simp at h
        refine vp_callSi (pSX (rest := [.int 1]) SCR.blind (hX.pre hS (fun _ h => h.elim)) [.ref sb, .int 5] 2 hC (c_cell l D (b := sb) (L := L) (k := 5) (xs := xs) (by omega) (by omega)) (gS mM_L_9 mT_L_cell mN_L mC_L_cell) (by decide +kernel) rfl rfl ⟨Nat.le_of_ble_eq_true rfl, Nat.le_of_ble_eq_true rfl⟩ hG hP9 rfl hl.1 rfl (Nat.le_of_ble_eq_true rfl) dL_stage_209 ⟨by show _ ≤ 200; omega, by show _ ≤ 3000; omega⟩) (fun r209 h209 => ?_)
        refine lv_bipush (v := 6) hx hb dL_stage_212 (by decide) ?_
        have hP9 : va_P D cls [] H := fun k q h => by simp at h
        refine vp_callSi (pS (rest := [.int 1]) [.int r209, .int 6] 2 hC (c_below l D (x := r209) (n := 6) (by omega) (by omega)) (gS mM_L_15 mT_L_below mN_L mC_L_below) (by decide +kernel) rfl rfl ⟨Nat.le_of_ble_eq_true rfl, Nat.le_of_ble_eq_true rfl⟩ hG hP9 rfl hl.1 rfl (Nat.le_of_ble_eq_true rfl) dL_stage_214 ⟨by show _ ≤ 200; omega, by show _ ≤ 3000; omega⟩) (fun r214 h214 => ?_)
        obtain ⟨k214, hk214, rfl⟩ := h214
        refine lv_iadd hx hb dL_stage_217 ?_
        refine tpi (y := nI (1 + k214)) (nI_add 1 k214) ?_
        refine lv_istore (lv' := [(6, .int (nI (1 + k214))), (0, .ref xo), (1, .ref sb), (2, .ref ln), (3, .ref ky), (4, .ref mn), (5, .ref st9)]) hx hb dL_stage_218 hl (by decide) rfl (fun ls hl => ?_)
        refine lv_iconst (v := 0) hx hb dL_stage_220 (by decide) ?_
        refine lv_istore (lv' := [(7, .int 0), (6, .int (nI (1 + k214))), (0, .ref xo), (1, .ref sb), (2, .ref ln), (3, .ref ky), (4, .ref mn), (5, .ref st9)]) hx hb dL_stage_221 hl (by decide) rfl (fun ls hl => ?_)
        have loop223 : ∀ (d9 : Nat) (j1 : Nat) (ck3 : Nat → Nat) (pt3 : Nat → Nat → Int32) (fs3 : Nat → Int32), (1 + k214 - j1) < d9 → (j1 ≤ 1 + k214) → (∀ q, q < j1 → fs3 (13 * q + 1) = pt3 q 1) → ∀ (H : Heap) (locs : List Loc) (ls : Array Slot), KB D A0 z xo [aI D ln 2 fl1, aI D st9 130 fs3, aI D ky 120 fk1, aI D mn 2 fm1] H 2 len1 sz1 ff1 nc1 ct1 cn1 bf j1 ck3 pt3 kN nf cnt → va_S A0 s.heap H locs → lv_has ls 13 [(0, .ref xo), (1, .ref sb), (2, .ref ln), (3, .ref ky), (4, .ref mn), (5, .ref st9), (6, .int (nI (1 + k214))), (7, .int (nI j1))] → W p l e ({ frames := 9, cells := 200, slots := 3000, locals := 250 } : Room) s m ([.ref xo, .ref sb, .ref ln, .ref ky, .ref mn, .ref st9] : List Value).toArray below meth c H locs (140 + 3 * j1) (1500 + 40 * j1) Q (F0 m 223 ls []) := by
          intro d9
          induction d9 with
          | zero => intro j1 ck3 pt3 fs3 hd; exact absurd hd (Nat.not_lt_zero _)
          | succ d9 ih223 =>
            intro j1 ck3 pt3 fs3 hd223 hj1 hst H locs ls hK hS hl
            refine lv_iload hx hb dL_stage_223 (lv_at hl 7 rfl) ?_
            refine lv_iload hx hb dL_stage_225 (lv_at hl 6 rfl) ?_
            refine lv_icmp_ge (tgt := 627) hx hb dL_stage_227 (by decide) (fun c227 => ?_) (fun c227 => ?_)
            · skip
              have n227 := (nI_leI (a := 1 + k214) (b := j1) (by omega) (by omega)).mp c227
              refine lv_iload hx hb dL_stage_627 (lv_at hl 6 rfl) ?_
              obtain rfl : j1 = 1 + k214 := by omega
              refine W.widen (k := 200) (n := 3000) (by omega) (by omega) ?_
              rw [← hQe]
              exact W.iret (v := nI (1 + k214)) hx hb hr (fun t ht _ => ⟨⟨_, (len1, sz1, ff1, nc1, ct1, cn1, 1 + k214, ck3, pt3, fl1, fk1, fm1, fs3), rfl, ⟨rfl, ⟨by omega, by omega⟩, hSG, hst⟩, by subst ht; exact hK⟩, hS.F ht⟩) hS.2.2 dL_stage_629 hlk
            · skip
              have n227 := mt (nI_leI (a := 1 + k214) (b := j1) (by omega) (by omega)).mpr c227
              refine lv_aload_n hx hb dL_stage_230 rfl (lv_at hl 1 rfl) ?_
              refine lv_bipush (v := 6) hx hb dL_stage_231 (by decide) ?_
              refine lv_iload hx hb dL_stage_233 (lv_at hl 7 rfl) ?_
              refine lv_iconst (v := 4) hx hb dL_stage_235 (by decide) ?_
              refine lv_irem hx hb dL_stage_236 (by decide) ?_
              refine tpi (y := nI (j1 % 4)) (pk_rem (a := j1) (d := 4) (by omega) (by decide) (by decide)) ?_
              refine lv_iadd hx hb dL_stage_237 ?_
              refine tpi (y := nI (6 + (j1 % 4))) (nI_add 6 (j1 % 4)) ?_
              have hP9 : va_P D cls [] H := fun k q h => by simp at h
              refine vp_callSi (pSX (rest := []) SCR.blind (hX.pre hS (fun _ h => h.elim)) [.ref sb, .int (nI (6 + (j1 % 4)))] 2 hC (c_cell l D (b := sb) (L := L) (k := (6 + (j1 % 4))) (xs := xs) (by omega) (by omega)) (gS mM_L_9 mT_L_cell mN_L mC_L_cell) (by decide +kernel) rfl rfl ⟨Nat.le_of_ble_eq_true rfl, Nat.le_of_ble_eq_true rfl⟩ hG hP9 rfl hl.1 rfl (Nat.le_of_ble_eq_true rfl) dL_stage_238 ⟨by show _ ≤ 200; omega, by show _ ≤ 3000; omega⟩) (fun r238 h238 => ?_)
              refine lv_iload hx hb dL_stage_241 (lv_at hl 7 rfl) ?_
              refine lv_sipush (v := 911) hx hb dL_stage_243 (by decide) ?_
              refine lv_imul hx hb dL_stage_246 ?_
              refine tpi (y := nI (j1 * 911)) (pk_mul j1 911) ?_
              refine lv_ixor hx hb dL_stage_247 ?_
              obtain ⟨x247, hx247⟩ : ∃ x9, x9 = r238 ^^^ (nI (j1 * 911)) := ⟨_, rfl⟩
              refine tpi (y := x247) hx247.symm ?_
              refine lv_istore (lv' := [(8, .int x247), (0, .ref xo), (1, .ref sb), (2, .ref ln), (3, .ref ky), (4, .ref mn), (5, .ref st9), (6, .int (nI (1 + k214))), (7, .int (nI j1))]) hx hb dL_stage_248 hl (by decide) rfl (fun ls hl => ?_)
              refine lv_aload_n hx hb dL_stage_250 rfl (lv_at hl 2 rfl) ?_
              refine lv_bipush (v := 10) hx hb dL_stage_251 (by decide) ?_
              refine lv_iload hx hb dL_stage_253 (lv_at hl 8 rfl) ?_
              refine lv_iconst (v := 3) hx hb dL_stage_255 (by decide) ?_
              refine lv_irem hx hb dL_stage_256 (by decide) ?_
              refine tpi (y := nI (j1 % 3)) (pk_rem (a := j1) (d := 3) (by omega) (by decide) (by decide)) ?_
              refine lv_iadd hx hb dL_stage_257 ?_
              refine tpi (y := nI (10 + (j1 % 3))) (nI_add 10 (j1 % 3)) ?_
              have hP9 : va_P D cls [] H := fun k q h => by simp at h
              refine vp_callSi (pSX (rest := []) SCR.blind (hX.pre hS (fun _ h => h.elim)) [.ref sb, .int (nI (10 + (j1 % 3)))] 2 hC (c_cell l D (b := sb) (L := L) (k := (10 + (j1 % 3))) (xs := xs) (by omega) (by omega)) (gS mM_L_9 mT_L_cell mN_L mC_L_cell) (by decide +kernel) rfl rfl ⟨Nat.le_of_ble_eq_true rfl, Nat.le_of_ble_eq_true rfl⟩ hG hP9 rfl hl.1 rfl (Nat.le_of_ble_eq_true rfl) dL_stage_258 ⟨by show _ ≤ 200; omega, by show _ ≤ 3000; omega⟩) (fun r258 h258 => ?_)
              refine lv_iload hx hb dL_stage_261 (lv_at hl 8 rfl) ?_
              refine lv_sipush (v := 3571) hx hb dL_stage_263 (by decide) ?_
              refine lv_imul hx hb dL_stage_266 ?_
              refine tpi (y := nI (j1 * 3571)) (pk_mul j1 3571) ?_
              refine lv_ixor hx hb dL_stage_267 ?_
              obtain ⟨x267, hx267⟩ : ∃ x9, x9 = r258 ^^^ (nI (j1 * 3571)) := ⟨_, rfl⟩
              refine tpi (y := x267) hx267.symm ?_
              refine lv_istore (lv' := [(9, .int x267), (8, .int x247), (0, .ref xo), (1, .ref sb), (2, .ref ln), (3, .ref ky), (4, .ref mn), (5, .ref st9), (6, .int (nI (1 + k214))), (7, .int (nI j1))]) hx hb dL_stage_268 hl (by decide) rfl (fun ls hl => ?_)
              refine lv_bipush (v := 13) hx hb dL_stage_270 (by decide) ?_
              refine knew (N := 13) hx hb hts hG hK hS hA (by decide) (by decide) (by omega) (by show _ ≤ 200; omega) (by show _ ≤ 3000; omega) dL_stage_272 (fun q272 H hK hS => ?_)
              have hK : KB D A0 z xo [aI D ln 2 fl1, aI D st9 130 fs3, aI D ky 120 fk1, aI D mn 2 fm1, aI D q272 13 (fun _ => 0)] H 2 len1 sz1 ff1 nc1 ct1 cn1 bf j1 ck3 pt3 kN nf cnt := hK
              refine lv_dup hx hb dL_stage_274 rfl ?_
              refine lv_iconst (v := 0) hx hb dL_stage_275 (by decide) ?_
              refine lv_iload hx hb dL_stage_276 (lv_at hl 1 rfl) ?_
              refine lv_iconst (v := 2) hx hb dL_stage_278 (by decide) ?_
              have hP9 : va_P D cls [] H := fun k q h => by simp at h
              refine vp_callSi (pS (rest := [.int 0, .ref q272, .ref q272]) [.int x247, .int 2] 2 hC (c_below l D (x := x247) (n := 2) (by omega) (by omega)) (gS mM_L_15 mT_L_below mN_L mC_L_below) (by decide +kernel) rfl rfl ⟨Nat.le_of_ble_eq_true rfl, Nat.le_of_ble_eq_true rfl⟩ hG hP9 rfl hl.1 rfl (Nat.le_of_ble_eq_true rfl) dL_stage_279 ⟨by show _ ≤ 200; omega, by show _ ≤ 3000; omega⟩) (fun r279 h279 => ?_)
              obtain ⟨k279, hk279, rfl⟩ := h279
              refine kist (n := 13) (j := 0) hx hb hG hK hS 4 rfl (by omega) (by omega) dL_stage_282 (fun H locs hK hS => ?_)
              have hK : KB D A0 z xo [aI D ln 2 fl1, aI D st9 130 fs3, aI D ky 120 fk1, aI D mn 2 fm1, aI D q272 13 (upd (fun _ => 0) 0 (nI k279))] H 2 len1 sz1 ff1 nc1 ct1 cn1 bf j1 ck3 pt3 kN nf cnt := hK
              refine lv_dup hx hb dL_stage_283 rfl ?_
              refine lv_iconst (v := 1) hx hb dL_stage_284 (by decide) ?_
              refine lv_iload hx hb dL_stage_285 (lv_at hl 1 rfl) ?_
              refine lv_iconst (v := 1) hx hb dL_stage_287 (by decide) ?_
              refine lv_ishr hx hb dL_stage_288 ?_
              obtain ⟨x288, hx288⟩ : ∃ x9, x9 = x247 >>> (1 &&& 31) := ⟨_, rfl⟩
              refine tpi (y := x288) hx288.symm ?_
              refine lv_bipush (v := 60) hx hb dL_stage_289 (by decide) ?_
              have hP9 : va_P D cls [] H := fun k q h => by simp at h
              refine vp_callSi (pS (rest := [.int 1, .ref q272, .ref q272]) [.int x288, .int 60] 2 hC (c_below l D (x := x288) (n := 60) (by omega) (by omega)) (gS mM_L_15 mT_L_below mN_L mC_L_below) (by decide +kernel) rfl rfl ⟨Nat.le_of_ble_eq_true rfl, Nat.le_of_ble_eq_true rfl⟩ hG hP9 rfl hl.1 rfl (Nat.le_of_ble_eq_true rfl) dL_stage_291 ⟨by show _ ≤ 200; omega, by show _ ≤ 3000; omega⟩) (fun r291 h291 => ?_)
              obtain ⟨k291, hk291, rfl⟩ := h291
              refine kist (n := 13) (j := 1) hx hb hG hK hS 4 rfl (by omega) (by omega) dL_stage_294 (fun H locs hK hS => ?_)
              have hK : KB D A0 z xo [aI D ln 2 fl1, aI D st9 130 fs3, aI D ky 120 fk1, aI D mn 2 fm1, aI D q272 13 (upd (upd (fun _ => 0) 0 (nI k279)) 1 (nI k291))] H 2 len1 sz1 ff1 nc1 ct1 cn1 bf j1 ck3 pt3 kN nf cnt := hK
              refine lv_dup hx hb dL_stage_295 rfl ?_
              refine lv_iconst (v := 2) hx hb dL_stage_296 (by decide) ?_
              refine lv_iconst (v := 0) hx hb dL_stage_297 (by decide) ?_
              refine kist (n := 13) (j := 2) hx hb hG hK hS 4 rfl (by omega) (by omega) dL_stage_298 (fun H locs hK hS => ?_)
              have hK : KB D A0 z xo [aI D ln 2 fl1, aI D st9 130 fs3, aI D ky 120 fk1, aI D mn 2 fm1, aI D q272 13 (upd (upd (upd (fun _ => 0) 0 (nI k279)) 1 (nI k291)) 2 0)] H 2 len1 sz1 ff1 nc1 ct1 cn1 bf j1 ck3 pt3 kN nf cnt := hK
              refine lv_dup hx hb dL_stage_299 rfl ?_
              refine lv_iconst (v := 3) hx hb dL_stage_300 (by decide) ?_
              refine lv_iconst (v := 1) hx hb dL_stage_301 (by decide) ?_
              refine lv_iload hx hb dL_stage_302 (lv_at hl 1 rfl) ?_
              refine lv_bipush (v := 7) hx hb dL_stage_304 (by decide) ?_
              refine lv_ishr hx hb dL_stage_306 ?_
              obtain ⟨x306, hx306⟩ : ∃ x9, x9 = x247 >>> (7 &&& 31) := ⟨_, rfl⟩
              refine tpi (y := x306) hx306.symm ?_
              refine lv_iconst (v := 4) hx hb dL_stage_307 (by decide) ?_
              have hP9 : va_P D cls [] H := fun k q h => by simp at h
              refine vp_callSi (pS (rest := [.int 1, .int 3, .ref q272, .ref q272]) [.int x306, .int 4] 2 hC (c_below l D (x := x306) (n := 4) (by omega) (by omega)) (gS mM_L_15 mT_L_below mN_L mC_L_below) (by decide +kernel) rfl rfl ⟨Nat.le_of_ble_eq_true rfl, Nat.le_of_ble_eq_true rfl⟩ hG hP9 rfl hl.1 rfl (Nat.le_of_ble_eq_true rfl) dL_stage_308 ⟨by show _ ≤ 200; omega, by show _ ≤ 3000; omega⟩) (fun r308 h308 => ?_)
              obtain ⟨k308, hk308, rfl⟩ := h308
              refine lv_iadd hx hb dL_stage_311 ?_
              refine tpi (y := nI (1 + k308)) (nI_add 1 k308) ?_
              refine kist (n := 13) (j := 3) hx hb hG hK hS 4 rfl (by omega) (by omega) dL_stage_312 (fun H locs hK hS => ?_)
              have hK : KB D A0 z xo [aI D ln 2 fl1, aI D st9 130 fs3, aI D ky 120 fk1, aI D mn 2 fm1, aI D q272 13 (upd (upd (upd (upd (fun _ => 0) 0 (nI k279)) 1 (nI k291)) 2 0) 3 (nI (1 + k308)))] H 2 len1 sz1 ff1 nc1 ct1 cn1 bf j1 ck3 pt3 kN nf cnt := hK
              refine lv_dup hx hb dL_stage_313 rfl ?_
              refine lv_iconst (v := 4) hx hb dL_stage_314 (by decide) ?_
              refine lv_iload hx hb dL_stage_315 (lv_at hl 1 rfl) ?_
              refine lv_bipush (v := 10) hx hb dL_stage_317 (by decide) ?_
              refine lv_ishr hx hb dL_stage_319 ?_
              obtain ⟨x319, hx319⟩ : ∃ x9, x9 = x247 >>> (10 &&& 31) := ⟨_, rfl⟩
              refine tpi (y := x319) hx319.symm ?_
              refine lv_iconst (v := 3) hx hb dL_stage_320 (by decide) ?_
              have hP9 : va_P D cls [] H := fun k q h => by simp at h
              refine vp_callSi (pS (rest := [.int 4, .ref q272, .ref q272]) [.int x319, .int 3] 2 hC (c_below l D (x := x319) (n := 3) (by omega) (by omega)) (gS mM_L_15 mT_L_below mN_L mC_L_below) (by decide +kernel) rfl rfl ⟨Nat.le_of_ble_eq_true rfl, Nat.le_of_ble_eq_true rfl⟩ hG hP9 rfl hl.1 rfl (Nat.le_of_ble_eq_true rfl) dL_stage_321 ⟨by show _ ≤ 200; omega, by show _ ≤ 3000; omega⟩) (fun r321 h321 => ?_)
              obtain ⟨k321, hk321, rfl⟩ := h321
              refine kist (n := 13) (j := 4) hx hb hG hK hS 4 rfl (by omega) (by omega) dL_stage_324 (fun H locs hK hS => ?_)
              have hK : KB D A0 z xo [aI D ln 2 fl1, aI D st9 130 fs3, aI D ky 120 fk1, aI D mn 2 fm1, aI D q272 13 (upd (upd (upd (upd (upd (fun _ => 0) 0 (nI k279)) 1 (nI k291)) 2 0) 3 (nI (1 + k308))) 4 (nI k321))] H 2 len1 sz1 ff1 nc1 ct1 cn1 bf j1 ck3 pt3 kN nf cnt := hK
              refine lv_dup hx hb dL_stage_325 rfl ?_
              refine lv_iconst (v := 5) hx hb dL_stage_326 (by decide) ?_
              refine lv_iconst (v := 1) hx hb dL_stage_327 (by decide) ?_
              refine lv_iload hx hb dL_stage_328 (lv_at hl 1 rfl) ?_
              refine lv_bipush (v := 12) hx hb dL_stage_330 (by decide) ?_
              refine lv_ishr hx hb dL_stage_332 ?_
              obtain ⟨x332, hx332⟩ : ∃ x9, x9 = x247 >>> (12 &&& 31) := ⟨_, rfl⟩
              refine tpi (y := x332) hx332.symm ?_
              refine lv_bipush (v := 9) hx hb dL_stage_333 (by decide) ?_
              have hP9 : va_P D cls [] H := fun k q h => by simp at h
              refine vp_callSi (pS (rest := [.int 1, .int 5, .ref q272, .ref q272]) [.int x332, .int 9] 2 hC (c_below l D (x := x332) (n := 9) (by omega) (by omega)) (gS mM_L_15 mT_L_below mN_L mC_L_below) (by decide +kernel) rfl rfl ⟨Nat.le_of_ble_eq_true rfl, Nat.le_of_ble_eq_true rfl⟩ hG hP9 rfl hl.1 rfl (Nat.le_of_ble_eq_true rfl) dL_stage_335 ⟨by show _ ≤ 200; omega, by show _ ≤ 3000; omega⟩) (fun r335 h335 => ?_)
              obtain ⟨k335, hk335, rfl⟩ := h335
              refine lv_iadd hx hb dL_stage_338 ?_
              refine tpi (y := nI (1 + k335)) (nI_add 1 k335) ?_
              refine kist (n := 13) (j := 5) hx hb hG hK hS 4 rfl (by omega) (by omega) dL_stage_339 (fun H locs hK hS => ?_)
              have hK : KB D A0 z xo [aI D ln 2 fl1, aI D st9 130 fs3, aI D ky 120 fk1, aI D mn 2 fm1, aI D q272 13 (upd (upd (upd (upd (upd (upd (fun _ => 0) 0 (nI k279)) 1 (nI k291)) 2 0) 3 (nI (1 + k308))) 4 (nI k321)) 5 (nI (1 + k335)))] H 2 len1 sz1 ff1 nc1 ct1 cn1 bf j1 ck3 pt3 kN nf cnt := hK
              refine lv_dup hx hb dL_stage_340 rfl ?_
              refine lv_bipush (v := 6) hx hb dL_stage_341 (by decide) ?_
              refine lv_iconst (v := 1) hx hb dL_stage_343 (by decide) ?_
              refine lv_iload hx hb dL_stage_344 (lv_at hl 1 rfl) ?_
              refine lv_bipush (v := 15) hx hb dL_stage_346 (by decide) ?_
              refine lv_ishr hx hb dL_stage_348 ?_
              obtain ⟨x348, hx348⟩ : ∃ x9, x9 = x247 >>> (15 &&& 31) := ⟨_, rfl⟩
              refine tpi (y := x348) hx348.symm ?_
              refine lv_bipush (v := 9) hx hb dL_stage_349 (by decide) ?_
              have hP9 : va_P D cls [] H := fun k q h => by simp at h
              refine vp_callSi (pS (rest := [.int 1, .int 6, .ref q272, .ref q272]) [.int x348, .int 9] 2 hC (c_below l D (x := x348) (n := 9) (by omega) (by omega)) (gS mM_L_15 mT_L_below mN_L mC_L_below) (by decide +kernel) rfl rfl ⟨Nat.le_of_ble_eq_true rfl, Nat.le_of_ble_eq_true rfl⟩ hG hP9 rfl hl.1 rfl (Nat.le_of_ble_eq_true rfl) dL_stage_351 ⟨by show _ ≤ 200; omega, by show _ ≤ 3000; omega⟩) (fun r351 h351 => ?_)
              obtain ⟨k351, hk351, rfl⟩ := h351
              refine lv_iadd hx hb dL_stage_354 ?_
              refine tpi (y := nI (1 + k351)) (nI_add 1 k351) ?_
              refine kist (n := 13) (j := 6) hx hb hG hK hS 4 rfl (by omega) (by omega) dL_stage_355 (fun H locs hK hS => ?_)
              have hK : KB D A0 z xo [aI D ln 2 fl1, aI D st9 130 fs3, aI D ky 120 fk1, aI D mn 2 fm1, aI D q272 13 (upd (upd (upd (upd (upd (upd (upd (fun _ => 0) 0 (nI k279)) 1 (nI k291)) 2 0) 3 (nI (1 + k308))) 4 (nI k321)) 5 (nI (1 + k335))) 6 (nI (1 + k351)))] H 2 len1 sz1 ff1 nc1 ct1 cn1 bf j1 ck3 pt3 kN nf cnt := hK
              refine lv_dup hx hb dL_stage_356 rfl ?_
              refine lv_bipush (v := 7) hx hb dL_stage_357 (by decide) ?_
              refine lv_iload hx hb dL_stage_359 (lv_at hl 0 rfl) ?_
              refine lv_iconst (v := 3) hx hb dL_stage_361 (by decide) ?_
              have hP9 : va_P D cls [] H := fun k q h => by simp at h
              refine vp_callSi (pS (rest := [.int 7, .ref q272, .ref q272]) [.int x267, .int 3] 2 hC (c_below l D (x := x267) (n := 3) (by omega) (by omega)) (gS mM_L_15 mT_L_below mN_L mC_L_below) (by decide +kernel) rfl rfl ⟨Nat.le_of_ble_eq_true rfl, Nat.le_of_ble_eq_true rfl⟩ hG hP9 rfl hl.1 rfl (Nat.le_of_ble_eq_true rfl) dL_stage_362 ⟨by show _ ≤ 200; omega, by show _ ≤ 3000; omega⟩) (fun r362 h362 => ?_)
              obtain ⟨k362, hk362, rfl⟩ := h362
              refine kist (n := 13) (j := 7) hx hb hG hK hS 4 rfl (by omega) (by omega) dL_stage_365 (fun H locs hK hS => ?_)
              have hK : KB D A0 z xo [aI D ln 2 fl1, aI D st9 130 fs3, aI D ky 120 fk1, aI D mn 2 fm1, aI D q272 13 (upd (upd (upd (upd (upd (upd (upd (upd (fun _ => 0) 0 (nI k279)) 1 (nI k291)) 2 0) 3 (nI (1 + k308))) 4 (nI k321)) 5 (nI (1 + k335))) 6 (nI (1 + k351))) 7 (nI k362))] H 2 len1 sz1 ff1 nc1 ct1 cn1 bf j1 ck3 pt3 kN nf cnt := hK
              refine lv_dup hx hb dL_stage_366 rfl ?_
              refine lv_bipush (v := 8) hx hb dL_stage_367 (by decide) ?_
              refine lv_iload hx hb dL_stage_369 (lv_at hl 0 rfl) ?_
              refine lv_iconst (v := 2) hx hb dL_stage_371 (by decide) ?_
              refine lv_ishr hx hb dL_stage_372 ?_
              obtain ⟨x372, hx372⟩ : ∃ x9, x9 = x267 >>> (2 &&& 31) := ⟨_, rfl⟩
              refine tpi (y := x372) hx372.symm ?_
              refine lv_bipush (v := 101) hx hb dL_stage_373 (by decide) ?_
              have hP9 : va_P D cls [] H := fun k q h => by simp at h
              refine vp_callSi (pS (rest := [.int 8, .ref q272, .ref q272]) [.int x372, .int 101] 2 hC (c_below l D (x := x372) (n := 101) (by omega) (by omega)) (gS mM_L_15 mT_L_below mN_L mC_L_below) (by decide +kernel) rfl rfl ⟨Nat.le_of_ble_eq_true rfl, Nat.le_of_ble_eq_true rfl⟩ hG hP9 rfl hl.1 rfl (Nat.le_of_ble_eq_true rfl) dL_stage_375 ⟨by show _ ≤ 200; omega, by show _ ≤ 3000; omega⟩) (fun r375 h375 => ?_)
              obtain ⟨k375, hk375, rfl⟩ := h375
              refine kist (n := 13) (j := 8) hx hb hG hK hS 4 rfl (by omega) (by omega) dL_stage_378 (fun H locs hK hS => ?_)
              have hK : KB D A0 z xo [aI D ln 2 fl1, aI D st9 130 fs3, aI D ky 120 fk1, aI D mn 2 fm1, aI D q272 13 (upd (upd (upd (upd (upd (upd (upd (upd (upd (fun _ => 0) 0 (nI k279)) 1 (nI k291)) 2 0) 3 (nI (1 + k308))) 4 (nI k321)) 5 (nI (1 + k335))) 6 (nI (1 + k351))) 7 (nI k362)) 8 (nI k375))] H 2 len1 sz1 ff1 nc1 ct1 cn1 bf j1 ck3 pt3 kN nf cnt := hK
              refine lv_dup hx hb dL_stage_379 rfl ?_
              refine lv_bipush (v := 9) hx hb dL_stage_380 (by decide) ?_
              refine lv_iload hx hb dL_stage_382 (lv_at hl 0 rfl) ?_
              refine lv_bipush (v := 9) hx hb dL_stage_384 (by decide) ?_
              refine lv_ishr hx hb dL_stage_386 ?_
              obtain ⟨x386, hx386⟩ : ∃ x9, x9 = x267 >>> (9 &&& 31) := ⟨_, rfl⟩
              refine tpi (y := x386) hx386.symm ?_
              refine lv_iconst (v := 2) hx hb dL_stage_387 (by decide) ?_
              have hP9 : va_P D cls [] H := fun k q h => by simp at h
              refine vp_callSi (pS (rest := [.int 9, .ref q272, .ref q272]) [.int x386, .int 2] 2 hC (c_below l D (x := x386) (n := 2) (by omega) (by omega)) (gS mM_L_15 mT_L_below mN_L mC_L_below) (by decide +kernel) rfl rfl ⟨Nat.le_of_ble_eq_true rfl, Nat.le_of_ble_eq_true rfl⟩ hG hP9 rfl hl.1 rfl (Nat.le_of_ble_eq_true rfl) dL_stage_388 ⟨by show _ ≤ 200; omega, by show _ ≤ 3000; omega⟩) (fun r388 h388 => ?_)
              obtain ⟨k388, hk388, rfl⟩ := h388
              refine kist (n := 13) (j := 9) hx hb hG hK hS 4 rfl (by omega) (by omega) dL_stage_391 (fun H locs hK hS => ?_)
              have hK : KB D A0 z xo [aI D ln 2 fl1, aI D st9 130 fs3, aI D ky 120 fk1, aI D mn 2 fm1, aI D q272 13 (upd (upd (upd (upd (upd (upd (upd (upd (upd (upd (fun _ => 0) 0 (nI k279)) 1 (nI k291)) 2 0) 3 (nI (1 + k308))) 4 (nI k321)) 5 (nI (1 + k335))) 6 (nI (1 + k351))) 7 (nI k362)) 8 (nI k375)) 9 (nI k388))] H 2 len1 sz1 ff1 nc1 ct1 cn1 bf j1 ck3 pt3 kN nf cnt := hK
              refine lv_dup hx hb dL_stage_392 rfl ?_
              refine lv_bipush (v := 10) hx hb dL_stage_393 (by decide) ?_
              refine lv_iload hx hb dL_stage_395 (lv_at hl 0 rfl) ?_
              refine lv_bipush (v := 10) hx hb dL_stage_397 (by decide) ?_
              refine lv_ishr hx hb dL_stage_399 ?_
              obtain ⟨x399, hx399⟩ : ∃ x9, x9 = x267 >>> (10 &&& 31) := ⟨_, rfl⟩
              refine tpi (y := x399) hx399.symm ?_
              refine lv_iconst (v := 4) hx hb dL_stage_400 (by decide) ?_
              have hP9 : va_P D cls [] H := fun k q h => by simp at h
              refine vp_callSi (pS (rest := [.int 10, .ref q272, .ref q272]) [.int x399, .int 4] 2 hC (c_below l D (x := x399) (n := 4) (by omega) (by omega)) (gS mM_L_15 mT_L_below mN_L mC_L_below) (by decide +kernel) rfl rfl ⟨Nat.le_of_ble_eq_true rfl, Nat.le_of_ble_eq_true rfl⟩ hG hP9 rfl hl.1 rfl (Nat.le_of_ble_eq_true rfl) dL_stage_401 ⟨by show _ ≤ 200; omega, by show _ ≤ 3000; omega⟩) (fun r401 h401 => ?_)
              obtain ⟨k401, hk401, rfl⟩ := h401
              refine lv_iconst (v := 3) hx hb dL_stage_404 (by decide) ?_
              refine lv_idiv hx hb dL_stage_405 (by decide) ?_
              refine tpi (y := nI (k401 / 3)) (pk_div (a := k401) (d := 3) (by omega) (by decide) (by decide)) ?_
              refine kist (n := 13) (j := 10) hx hb hG hK hS 4 rfl (by omega) (by omega) dL_stage_406 (fun H locs hK hS => ?_)
              have hK : KB D A0 z xo [aI D ln 2 fl1, aI D st9 130 fs3, aI D ky 120 fk1, aI D mn 2 fm1, aI D q272 13 (upd (upd (upd (upd (upd (upd (upd (upd (upd (upd (upd (fun _ => 0) 0 (nI k279)) 1 (nI k291)) 2 0) 3 (nI (1 + k308))) 4 (nI k321)) 5 (nI (1 + k335))) 6 (nI (1 + k351))) 7 (nI k362)) 8 (nI k375)) 9 (nI k388)) 10 (nI (k401 / 3)))] H 2 len1 sz1 ff1 nc1 ct1 cn1 bf j1 ck3 pt3 kN nf cnt := hK
              refine lv_dup hx hb dL_stage_407 rfl ?_
              refine lv_bipush (v := 11) hx hb dL_stage_408 (by decide) ?_
              refine lv_iload hx hb dL_stage_410 (lv_at hl 0 rfl) ?_
              refine lv_bipush (v := 12) hx hb dL_stage_412 (by decide) ?_
              refine lv_ishr hx hb dL_stage_414 ?_
              obtain ⟨x414, hx414⟩ : ∃ x9, x9 = x267 >>> (12 &&& 31) := ⟨_, rfl⟩
              refine tpi (y := x414) hx414.symm ?_
              refine lv_iconst (v := 3) hx hb dL_stage_415 (by decide) ?_
              have hP9 : va_P D cls [] H := fun k q h => by simp at h
              refine vp_callSi (pS (rest := [.int 11, .ref q272, .ref q272]) [.int x414, .int 3] 2 hC (c_below l D (x := x414) (n := 3) (by omega) (by omega)) (gS mM_L_15 mT_L_below mN_L mC_L_below) (by decide +kernel) rfl rfl ⟨Nat.le_of_ble_eq_true rfl, Nat.le_of_ble_eq_true rfl⟩ hG hP9 rfl hl.1 rfl (Nat.le_of_ble_eq_true rfl) dL_stage_416 ⟨by show _ ≤ 200; omega, by show _ ≤ 3000; omega⟩) (fun r416 h416 => ?_)
              obtain ⟨k416, hk416, rfl⟩ := h416
              refine lv_bipush (v := 20) hx hb dL_stage_419 (by decide) ?_
              refine lv_imul hx hb dL_stage_421 ?_
              refine tpi (y := nI (k416 * 20)) (pk_mul k416 20) ?_
              refine kist (n := 13) (j := 11) hx hb hG hK hS 4 rfl (by omega) (by omega) dL_stage_422 (fun H locs hK hS => ?_)
              have hK : KB D A0 z xo [aI D ln 2 fl1, aI D st9 130 fs3, aI D ky 120 fk1, aI D mn 2 fm1, aI D q272 13 (upd (upd (upd (upd (upd (upd (upd (upd (upd (upd (upd (upd (fun _ => 0) 0 (nI k279)) 1 (nI k291)) 2 0) 3 (nI (1 + k308))) 4 (nI k321)) 5 (nI (1 + k335))) 6 (nI (1 + k351))) 7 (nI k362)) 8 (nI k375)) 9 (nI k388)) 10 (nI (k401 / 3))) 11 (nI (k416 * 20)))] H 2 len1 sz1 ff1 nc1 ct1 cn1 bf j1 ck3 pt3 kN nf cnt := hK
              refine lv_dup hx hb dL_stage_423 rfl ?_
              refine lv_bipush (v := 12) hx hb dL_stage_424 (by decide) ?_
              refine lv_iload hx hb dL_stage_426 (lv_at hl 0 rfl) ?_
              refine lv_bipush (v := 14) hx hb dL_stage_428 (by decide) ?_
              refine lv_ishr hx hb dL_stage_430 ?_
              obtain ⟨x430, hx430⟩ : ∃ x9, x9 = x267 >>> (14 &&& 31) := ⟨_, rfl⟩
              refine tpi (y := x430) hx430.symm ?_
              refine lv_iconst (v := 3) hx hb dL_stage_431 (by decide) ?_
              have hP9 : va_P D cls [] H := fun k q h => by simp at h
              refine vp_callSi (pS (rest := [.int 12, .ref q272, .ref q272]) [.int x430, .int 3] 2 hC (c_below l D (x := x430) (n := 3) (by omega) (by omega)) (gS mM_L_15 mT_L_below mN_L mC_L_below) (by decide +kernel) rfl rfl ⟨Nat.le_of_ble_eq_true rfl, Nat.le_of_ble_eq_true rfl⟩ hG hP9 rfl hl.1 rfl (Nat.le_of_ble_eq_true rfl) dL_stage_432 ⟨by show _ ≤ 200; omega, by show _ ≤ 3000; omega⟩) (fun r432 h432 => ?_)
              obtain ⟨k432, hk432, rfl⟩ := h432
              refine lv_bipush (v := 30) hx hb dL_stage_435 (by decide) ?_
              refine lv_imul hx hb dL_stage_437 ?_
              refine tpi (y := nI (k432 * 30)) (pk_mul k432 30) ?_
              refine kist (n := 13) (j := 12) hx hb hG hK hS 4 rfl (by omega) (by omega) dL_stage_438 (fun H locs hK hS => ?_)
              have hK : KB D A0 z xo [aI D ln 2 fl1, aI D st9 130 fs3, aI D ky 120 fk1, aI D mn 2 fm1, aI D q272 13 (upd (upd (upd (upd (upd (upd (upd (upd (upd (upd (upd (upd (upd (fun _ => 0) 0 (nI k279)) 1 (nI k291)) 2 0) 3 (nI (1 + k308))) 4 (nI k321)) 5 (nI (1 + k335))) 6 (nI (1 + k351))) 7 (nI k362)) 8 (nI k375)) 9 (nI k388)) 10 (nI (k401 / 3))) 11 (nI (k416 * 20))) 12 (nI (k432 * 30)))] H 2 len1 sz1 ff1 nc1 ct1 cn1 bf j1 ck3 pt3 kN nf cnt := hK
              obtain ⟨wf, hwf⟩ : ∃ z9, z9 = upd (upd (upd (upd (upd (upd (upd (upd (upd (upd (upd (upd (upd (fun _ => 0) 0 (nI k279)) 1 (nI k291)) 2 0) 3 (nI (1 + k308))) 4 (nI k321)) 5 (nI (1 + k335))) 6 (nI (1 + k351))) 7 (nI k362)) 8 (nI k375)) 9 (nI k388)) 10 (nI (k401 / 3))) 11 (nI (k416 * 20))) 12 (nI (k432 * 30)) := ⟨_, rfl⟩
              have hw0 : wf 0 = nI k279 := by rw [hwf]; rfl
              have hw1 : wf 1 = nI k291 := by rw [hwf]; rfl
              have hw3 : wf 3 = nI (1 + k308) := by rw [hwf]; rfl
              have hw4 : wf 4 = nI k321 := by rw [hwf]; rfl
              have hw5 : wf 5 = nI (1 + k335) := by rw [hwf]; rfl
              have hw6 : wf 6 = nI (1 + k351) := by rw [hwf]; rfl
              have hw7 : wf 7 = nI k362 := by rw [hwf]; rfl
              have hw8 : wf 8 = nI k375 := by rw [hwf]; rfl
              have hw9 : wf 9 = nI k388 := by rw [hwf]; rfl
              have hw10 : wf 10 = nI (k401 / 3) := by rw [hwf]; rfl
              have hw11 : wf 11 = nI (k416 * 20) := by rw [hwf]; rfl
              have hw12 : wf 12 = nI (k432 * 30) := by rw [hwf]; rfl
              have hK : KB D A0 z xo [aI D ln 2 fl1, aI D st9 130 fs3, aI D ky 120 fk1, aI D mn 2 fm1, aI D q272 13 wf] H 2 len1 sz1 ff1 nc1 ct1 cn1 bf j1 ck3 pt3 kN nf cnt := by rw [hwf]; exact hK
              refine lv_astore (lv' := [(10, .ref q272), (9, .int x267), (8, .int x247), (0, .ref xo), (1, .ref sb), (2, .ref ln), (3, .ref ky), (4, .ref mn), (5, .ref st9), (6, .int (nI (1 + k214))), (7, .int (nI j1))]) hx hb dL_stage_439 hl (by decide) rfl (fun ls hl => ?_)
              refine lv_aload_n hx hb dL_stage_441 rfl (lv_at hl 3 rfl) ?_
              refine lv_aload hx hb dL_stage_442 (lv_at hl 0 rfl) ?_
              refine lv_iconst (v := 0) hx hb dL_stage_444 (by decide) ?_
              refine ild (n := 13) (j := 0) hx hb hG hK.own.1 4 rfl (by omega) (by omega) dL_stage_445 ?_
              refine tpi (y := nI k279) (hw0) ?_
              refine lv_aload hx hb dL_stage_446 (lv_at hl 0 rfl) ?_
              refine lv_iconst (v := 1) hx hb dL_stage_448 (by decide) ?_
              refine ild (n := 13) (j := 1) hx hb hG hK.own.1 4 rfl (by omega) (by omega) dL_stage_449 ?_
              refine tpi (y := nI k291) (hw1) ?_
              refine lv_aload hx hb dL_stage_450 (lv_at hl 0 rfl) ?_
              refine lv_iconst (v := 3) hx hb dL_stage_452 (by decide) ?_
              refine ild (n := 13) (j := 3) hx hb hG hK.own.1 4 rfl (by omega) (by omega) dL_stage_453 ?_
              refine tpi (y := nI (1 + k308)) (hw3) ?_
              refine lv_aload hx hb dL_stage_454 (lv_at hl 0 rfl) ?_
              refine lv_iconst (v := 4) hx hb dL_stage_456 (by decide) ?_
              refine ild (n := 13) (j := 4) hx hb hG hK.own.1 4 rfl (by omega) (by omega) dL_stage_457 ?_
              refine tpi (y := nI k321) (hw4) ?_
              refine k_addStrip (c0 := k279) (x1 := nI k291) (x2 := nI (1 + k308)) (x3 := nI k321) hC hl.1 (Nat.le_of_ble_eq_true rfl) (Nat.le_of_ble_eq_true rfl) (by show _ ≤ 200; omega) (by show _ ≤ 3000; omega) (Nat.le_of_ble_eq_true rfl) hG hZL hA hS hK dL_stage_458 (by omega) (⟨⟨(nI_leI (a := 0) (b := k291) (by omega) (by omega)).mpr (by omega), (nI_leI (a := k291) (b := 5000) (by omega) (by omega)).mpr (by omega)⟩, ⟨(nI_leI (a := 1) (b := (1 + k308)) (by omega) (by omega)).mpr (by omega), (nI_leI (a := (1 + k308)) (b := 9) (by omega) (by omega)).mpr (by omega)⟩, ⟨(nI_leI (a := 0) (b := k321) (by omega) (by omega)).mpr (by omega), (nI_leI (a := k321) (b := 2) (by omega) (by omega)).mpr (by omega)⟩⟩) (by omega) (fun H locs hK hS => ?_)
              have hK : KB D A0 z xo [aI D ln 2 fl1, aI D st9 130 fs3, aI D ky 120 fk1, aI D mn 2 fm1, aI D q272 13 wf] H 2 len1 sz1 ff1 nc1 ct1 cn1 bf (j1 + 1) (upC ck3 j1 k279) (upC pt3 j1 (stP (nI k279) (nI k291) (nI (1 + k308)) (nI k321))) kN nf cnt := hK
              obtain ⟨pt4, hpt4⟩ : ∃ z9, z9 = upC pt3 j1 (stP (nI k279) (nI k291) (nI (1 + k308)) (nI k321)) := ⟨_, rfl⟩
              have hK : KB D A0 z xo [aI D ln 2 fl1, aI D st9 130 fs3, aI D ky 120 fk1, aI D mn 2 fm1, aI D q272 13 wf] H 2 len1 sz1 ff1 nc1 ct1 cn1 bf (j1 + 1) (upC ck3 j1 k279) pt4 kN nf cnt := by rw [hpt4]; exact hK
              have hp41 : pt4 j1 1 = nI k291 := by rw [hpt4, upC_at]; rfl
              have hp47 : pt4 j1 7 = 0 := by rw [hpt4, upC_at]; rfl
              have hp411 : pt4 j1 11 = 0 := by rw [hpt4, upC_at]; rfl
              have ho4 : ∀ q, q < j1 → pt4 q = pt3 q := fun q hq => by rw [hpt4, upC_ne (by omega)]
              refine lv_iload hx hb dL_stage_461 (lv_at hl 10 rfl) ?_
              refine lv_icmp_eq (tgt := 468) hx hb dL_stage_463 (by decide) (fun _ => ?_) (fun h9 => absurd ((nI_eq (a := j1) (b := j1) (by omega) (by omega)).mpr (by omega)) h9)
              refine lv_aload_n hx hb dL_stage_468 rfl (lv_at hl 3 rfl) ?_
              refine lv_iload hx hb dL_stage_469 (lv_at hl 10 rfl) ?_
              refine lv_aload hx hb dL_stage_471 (lv_at hl 0 rfl) ?_
              refine lv_iconst (v := 5) hx hb dL_stage_473 (by decide) ?_
              refine ild (n := 13) (j := 5) hx hb hG hK.own.1 4 rfl (by omega) (by omega) dL_stage_474 ?_
              refine tpi (y := nI (1 + k335)) (hw5) ?_
              refine lv_aload hx hb dL_stage_475 (lv_at hl 0 rfl) ?_
              refine lv_bipush (v := 6) hx hb dL_stage_477 (by decide) ?_
              refine ild (n := 13) (j := 6) hx hb hG hK.own.1 4 rfl (by omega) (by omega) dL_stage_479 ?_
              refine tpi (y := nI (1 + k351)) (hw6) ?_
              refine k_setSpeed (s0 := j1) (x := nI (1 + k335)) (y := nI (1 + k351)) hC hl.1 (Nat.le_of_ble_eq_true rfl) (Nat.le_of_ble_eq_true rfl) (by show _ ≤ 200; omega) (by show _ ≤ 3000; omega) (Nat.le_of_ble_eq_true rfl) hG hZL hA hS hK dL_stage_480 (by omega) (⟨⟨(nI_leI (a := 1) (b := (1 + k335)) (by omega) (by omega)).mpr (by omega), (nI_leI (a := (1 + k335)) (b := 9) (by omega) (by omega)).mpr (by omega)⟩, ⟨(nI_leI (a := 1) (b := (1 + k351)) (by omega) (by omega)).mpr (by omega), (nI_leI (a := (1 + k351)) (b := 9) (by omega) (by omega)).mpr (by omega)⟩⟩) (fun H locs hK hS => ?_)
              have hK : KB D A0 z xo [aI D ln 2 fl1, aI D st9 130 fs3, aI D ky 120 fk1, aI D mn 2 fm1, aI D q272 13 wf] H 2 len1 sz1 ff1 nc1 ct1 cn1 bf (j1 + 1) (upC ck3 j1 k279) (upC pt4 j1 (upd (upd (pt4 j1) 5 (nI (1 + k335))) 6 (nI (1 + k351)))) kN nf cnt := hK
              obtain ⟨pt5, hpt5⟩ : ∃ z9, z9 = upC pt4 j1 (upd (upd (pt4 j1) 5 (nI (1 + k335))) 6 (nI (1 + k351))) := ⟨_, rfl⟩
              have hK : KB D A0 z xo [aI D ln 2 fl1, aI D st9 130 fs3, aI D ky 120 fk1, aI D mn 2 fm1, aI D q272 13 wf] H 2 len1 sz1 ff1 nc1 ct1 cn1 bf (j1 + 1) (upC ck3 j1 k279) pt5 kN nf cnt := by rw [hpt5]; exact hK
              have hp51 : pt5 j1 1 = nI k291 := by rw [hpt5, upC_at]; exact hp41
              have hp57 : pt5 j1 7 = 0 := by rw [hpt5, upC_at]; exact hp47
              have hp511 : pt5 j1 11 = 0 := by rw [hpt5, upC_at]; exact hp411
              have ho5 : ∀ q, q < j1 → pt5 q = pt3 q := fun q hq => by rw [hpt5, upC_ne (by omega)]; exact ho4 q hq
              refine lv_pop hx hb dL_stage_483 rfl ?_
              refine lv_aload_n hx hb dL_stage_484 rfl (lv_at hl 3 rfl) ?_
              refine lv_iload hx hb dL_stage_485 (lv_at hl 10 rfl) ?_
              refine lv_aload hx hb dL_stage_487 (lv_at hl 0 rfl) ?_
              refine lv_bipush (v := 7) hx hb dL_stage_489 (by decide) ?_
              refine ild (n := 13) (j := 7) hx hb hG hK.own.1 4 rfl (by omega) (by omega) dL_stage_491 ?_
              refine tpi (y := nI k362) (hw7) ?_
              refine lv_aload hx hb dL_stage_492 (lv_at hl 0 rfl) ?_
              refine lv_bipush (v := 8) hx hb dL_stage_494 (by decide) ?_
              refine ild (n := 13) (j := 8) hx hb hG hK.own.1 4 rfl (by omega) (by omega) dL_stage_496 ?_
              refine tpi (y := nI k375) (hw8) ?_
              refine lv_aload hx hb dL_stage_497 (lv_at hl 0 rfl) ?_
              refine lv_bipush (v := 9) hx hb dL_stage_499 (by decide) ?_
              refine ild (n := 13) (j := 9) hx hb hG hK.own.1 4 rfl (by omega) (by omega) dL_stage_501 ?_
              refine tpi (y := nI k388) (hw9) ?_
              refine lv_iconst (v := 1) hx hb dL_stage_502 (by decide) ?_
              have join503 : ∀ b503 : Int32, (b503 = 0 ∨ b503 = 1) → W p l e ({ frames := 9, cells := 200, slots := 3000, locals := 250 } : Room) s m ([.ref xo, .ref sb, .ref ln, .ref ky, .ref mn, .ref st9] : List Value).toArray below meth c H locs (140 + 3 * j1 + 1 + 2) (1500 + 40 * j1 + 13 + 23) Q (F0 m 511 ls [.int b503, .int (nI k375), .int (nI k362), .int (nI j1), .ref xo]) := by
                intro b503 hb503
                refine lv_aload hx hb dL_stage_511 (lv_at hl 0 rfl) ?_
                refine lv_bipush (v := 10) hx hb dL_stage_513 (by decide) ?_
                refine ild (n := 13) (j := 10) hx hb hG hK.own.1 4 rfl (by omega) (by omega) dL_stage_515 ?_
                refine tpi (y := nI (k401 / 3)) (hw10) ?_
                refine lv_iconst (v := 1) hx hb dL_stage_516 (by decide) ?_
                have join517 : ∀ b517 : Int32, (b517 = 0 ∨ b517 = 1) → W p l e ({ frames := 9, cells := 200, slots := 3000, locals := 250 } : Room) s m ([.ref xo, .ref sb, .ref ln, .ref ky, .ref mn, .ref st9] : List Value).toArray below meth c H locs (140 + 3 * j1 + 1 + 2) (1500 + 40 * j1 + 13 + 23) Q (F0 m 525 ls [.int b517, .int b503, .int (nI k375), .int (nI k362), .int (nI j1), .ref xo]) := by
                  intro b517 hb517
                  refine k_setBlend (s0 := j1) (x := nI k362) (y := nI k375) (ad := b503) (hd := b517) hC hl.1 (Nat.le_of_ble_eq_true rfl) (Nat.le_of_ble_eq_true rfl) (by show _ ≤ 200; omega) (by show _ ≤ 3000; omega) (Nat.le_of_ble_eq_true rfl) hG hZL hA hS hK dL_stage_525 (by omega) (⟨⟨(nI_leI (a := 0) (b := k362) (by omega) (by omega)).mpr (by omega), (nI_leI (a := k362) (b := 9) (by omega) (by omega)).mpr (by omega)⟩, ⟨(nI_leI (a := 0) (b := k375) (by omega) (by omega)).mpr (by omega), (nI_leI (a := k375) (b := 100) (by omega) (by omega)).mpr (by omega)⟩⟩) (hb503) (hb517) (fun H locs hK hS => ?_)
                  have hK : KB D A0 z xo [aI D ln 2 fl1, aI D st9 130 fs3, aI D ky 120 fk1, aI D mn 2 fm1, aI D q272 13 wf] H 2 len1 sz1 ff1 nc1 ct1 cn1 bf (j1 + 1) (upC ck3 j1 k279) (upC pt5 j1 (upd (upd (upd (upd (pt5 j1) 7 (nI k362)) 8 (nI k375)) 9 b503) 10 b517)) kN nf cnt := hK
                  obtain ⟨pt6, hpt6⟩ : ∃ z9, z9 = upC pt5 j1 (upd (upd (upd (upd (pt5 j1) 7 (nI k362)) 8 (nI k375)) 9 b503) 10 b517) := ⟨_, rfl⟩
                  have hK : KB D A0 z xo [aI D ln 2 fl1, aI D st9 130 fs3, aI D ky 120 fk1, aI D mn 2 fm1, aI D q272 13 wf] H 2 len1 sz1 ff1 nc1 ct1 cn1 bf (j1 + 1) (upC ck3 j1 k279) pt6 kN nf cnt := by rw [hpt6]; exact hK
                  have hp61 : pt6 j1 1 = nI k291 := by rw [hpt6, upC_at]; exact hp51
                  have hp611 : pt6 j1 11 = 0 := by rw [hpt6, upC_at]; exact hp511
                  have ho6 : ∀ q, q < j1 → pt6 q = pt3 q := fun q hq => by rw [hpt6, upC_ne (by omega)]; exact ho5 q hq
                  refine tpi (y := 0) (hp57) ?_
                  refine lv_if_ne (tgt := 550) hx hb dL_stage_528 (by decide) (fun h9 => (h9 (by decide)).elim) (fun _ => ?_)
                  refine lv_aload_n hx hb dL_stage_531 rfl (lv_at hl 3 rfl) ?_
                  refine lv_iload hx hb dL_stage_532 (lv_at hl 10 rfl) ?_
                  refine lv_aload hx hb dL_stage_534 (lv_at hl 0 rfl) ?_
                  refine lv_bipush (v := 11) hx hb dL_stage_536 (by decide) ?_
                  refine ild (n := 13) (j := 11) hx hb hG hK.own.1 4 rfl (by omega) (by omega) dL_stage_538 ?_
                  refine tpi (y := nI (k416 * 20)) (hw11) ?_
                  refine lv_aload hx hb dL_stage_539 (lv_at hl 0 rfl) ?_
                  refine lv_bipush (v := 12) hx hb dL_stage_541 (by decide) ?_
                  refine ild (n := 13) (j := 12) hx hb hG hK.own.1 4 rfl (by omega) (by omega) dL_stage_543 ?_
                  refine tpi (y := nI (k432 * 30)) (hw12) ?_
                  refine k_setFade (s0 := j1) (x := nI (k416 * 20)) (y := nI (k432 * 30)) hC hl.1 (Nat.le_of_ble_eq_true rfl) (Nat.le_of_ble_eq_true rfl) (by show _ ≤ 200; omega) (by show _ ≤ 3000; omega) (Nat.le_of_ble_eq_true rfl) hG hZL hA hS hK dL_stage_544 (by omega) (⟨⟨(nI_leI (a := 0) (b := (k416 * 20)) (by omega) (by omega)).mpr (by omega), (nI_leI (a := (k416 * 20)) (b := 2000) (by omega) (by omega)).mpr (by omega)⟩, ⟨(nI_leI (a := 0) (b := (k432 * 30)) (by omega) (by omega)).mpr (by omega), (nI_leI (a := (k432 * 30)) (b := 2000) (by omega) (by omega)).mpr (by omega)⟩⟩) (fun H locs hK hS => ?_)
                  have hK : KB D A0 z xo [aI D ln 2 fl1, aI D st9 130 fs3, aI D ky 120 fk1, aI D mn 2 fm1, aI D q272 13 wf] H 2 len1 sz1 ff1 nc1 ct1 cn1 bf (j1 + 1) (upC ck3 j1 k279) (upC pt6 j1 (upd (upd (pt6 j1) 11 (nI (k416 * 20))) 12 (nI (k432 * 30)))) kN nf cnt := hK
                  obtain ⟨pt7, hpt7⟩ : ∃ z9, z9 = upC pt6 j1 (upd (upd (pt6 j1) 11 (nI (k416 * 20))) 12 (nI (k432 * 30))) := ⟨_, rfl⟩
                  have hK : KB D A0 z xo [aI D ln 2 fl1, aI D st9 130 fs3, aI D ky 120 fk1, aI D mn 2 fm1, aI D q272 13 wf] H 2 len1 sz1 ff1 nc1 ct1 cn1 bf (j1 + 1) (upC ck3 j1 k279) pt7 kN nf cnt := by rw [hpt7]; exact hK
                  have hp71 : pt7 j1 1 = nI k291 := by rw [hpt7, upC_at]; exact hp61
                  have ho7 : ∀ q, q < j1 → pt7 q = pt3 q := fun q hq => by rw [hpt7, upC_ne (by omega)]; exact ho6 q hq
                  refine tpi (y := 0) (hp611) ?_
                  refine lv_if_eq (tgt := 552) hx hb dL_stage_547 (by decide) (fun _ => ?_) (fun h9 => (h9 (by decide)).elim)
                  refine lv_aload_n hx hb dL_stage_552 rfl (lv_at hl 5 rfl) ?_
                  refine lv_aload hx hb dL_stage_553 (lv_at hl 0 rfl) ?_
                  refine lv_iconst (v := 0) hx hb dL_stage_555 (by decide) ?_
                  refine ild (n := 13) (j := 0) hx hb hG hK.own.1 4 rfl (by omega) (by omega) dL_stage_556 ?_
                  refine tpi (y := nI k279) (hw0) ?_
                  obtain ⟨hf9, -, v9, hv9, hl9⟩ := hSG k279 (by omega)
                  refine ild (n := 2) (j := k279) hx hb hG hK.own.1 0 rfl (by omega) (by omega) dL_stage_557 ?_
                  refine tpi (y := nI (1 + v9)) (hf9.trans hl9) ?_
                  refine lv_aload hx hb dL_stage_558 (lv_at hl 0 rfl) ?_
                  refine lv_iconst (v := 3) hx hb dL_stage_560 (by decide) ?_
                  refine ild (n := 13) (j := 3) hx hb hG hK.own.1 4 rfl (by omega) (by omega) dL_stage_561 ?_
                  refine tpi (y := nI (1 + k308)) (hw3) ?_
                  refine lv_imul hx hb dL_stage_562 ?_
                  obtain ⟨TT, hTT⟩ : ∃ z9, z9 = (1 + v9) * (1 + k308) := ⟨_, rfl⟩
                  have hTb : TT ≤ 50 * 4 := by rw [hTT]; exact Nat.mul_le_mul (by omega) (by omega)
                  refine tpi (y := nI TT) ((pk_mul _ _).trans (by rw [hTT])) ?_
                  refine lv_istore (lv' := [(11, .int (nI TT)), (10, .ref q272), (9, .int x267), (8, .int x247), (0, .ref xo), (1, .ref sb), (2, .ref ln), (3, .ref ky), (4, .ref mn), (5, .ref st9), (6, .int (nI (1 + k214))), (7, .int (nI j1))]) hx hb dL_stage_563 hl (by decide) rfl (fun ls hl => ?_)
                  refine lv_aload hx hb dL_stage_565 (lv_at hl 1 rfl) ?_
                  refine lv_iconst (v := 1) hx hb dL_stage_567 (by decide) ?_
                  refine ild (n := 13) (j := 1) hx hb hG hK.own.1 4 rfl (by omega) (by omega) dL_stage_568 ?_
                  refine tpi (y := nI k291) (hw1) ?_
                  refine lv_istore (lv' := [(12, .int (nI k291)), (11, .int (nI TT)), (10, .ref q272), (9, .int x267), (8, .int x247), (0, .ref xo), (1, .ref sb), (2, .ref ln), (3, .ref ky), (4, .ref mn), (5, .ref st9), (6, .int (nI (1 + k214))), (7, .int (nI j1))]) hx hb dL_stage_569 hl (by decide) rfl (fun ls hl => ?_)
                  have loop571 : ∀ (d9 : Nat) (t1 : Nat), (1801 - t1) < d9 → (t1 ≤ 1800) → ∀ (H : Heap) (locs : List Loc) (ls : Array Slot), KB D A0 z xo [aI D ln 2 fl1, aI D st9 130 fs3, aI D ky 120 fk1, aI D mn 2 fm1, aI D q272 13 wf] H 2 len1 sz1 ff1 nc1 ct1 cn1 bf (j1 + 1) (upC ck3 j1 k279) pt7 kN nf cnt → va_S A0 s.heap H locs → lv_has ls 13 [(0, .ref xo), (1, .ref sb), (2, .ref ln), (3, .ref ky), (4, .ref mn), (5, .ref st9), (6, .int (nI (1 + k214))), (7, .int (nI j1)), (10, .ref q272), (11, .int (nI TT)), (12, .int (nI (k291 + t1)))] → W p l e ({ frames := 9, cells := 200, slots := 3000, locals := 250 } : Room) s m ([.ref xo, .ref sb, .ref ln, .ref ky, .ref mn, .ref st9] : List Value).toArray below meth c H locs (140 + 3 * j1 + 3) (1500 + 40 * j1 + 36) Q (F0 m 571 ls []) := by
                    intro d9
                    induction d9 with
                    | zero => intro t1 hd; exact absurd hd (Nat.not_lt_zero _)
                    | succ d9 ih571 =>
                      intro t1 hd571 ht1 H locs ls hK hS hl
                      refine lv_iload hx hb dL_stage_571 (lv_at hl 10 rfl) ?_
                      refine lv_aload hx hb dL_stage_573 (lv_at hl 8 rfl) ?_
                      refine lv_iconst (v := 1) hx hb dL_stage_575 (by decide) ?_
                      refine ild (n := 13) (j := 1) hx hb hG hK.own.1 4 rfl (by omega) (by omega) dL_stage_576 ?_
                      refine tpi (y := nI k291) (hw1) ?_
                      refine lv_isub hx hb dL_stage_577 ?_
                      refine tpi (y := nI t1) ((pk_sub (a := k291 + t1) (b := k291) (by omega)).trans (by rw [Nat.add_sub_cancel_left])) ?_
                      refine lv_aload hx hb dL_stage_578 (lv_at hl 8 rfl) ?_
                      refine lv_iconst (v := 5) hx hb dL_stage_580 (by decide) ?_
                      refine ild (n := 13) (j := 5) hx hb hG hK.own.1 4 rfl (by omega) (by omega) dL_stage_581 ?_
                      refine tpi (y := nI (1 + k335)) (hw5) ?_
                      refine lv_imul hx hb dL_stage_582 ?_
                      refine tpi (y := nI (t1 * (1 + k335))) (pk_mul t1 (1 + k335)) ?_
                      refine lv_iload hx hb dL_stage_583 (lv_at hl 9 rfl) ?_
                      refine lv_aload hx hb dL_stage_585 (lv_at hl 8 rfl) ?_
                      refine lv_bipush (v := 6) hx hb dL_stage_587 (by decide) ?_
                      refine ild (n := 13) (j := 6) hx hb hG hK.own.1 4 rfl (by omega) (by omega) dL_stage_589 ?_
                      refine tpi (y := nI (1 + k351)) (hw6) ?_
                      refine lv_imul hx hb dL_stage_590 ?_
                      refine tpi (y := nI (TT * (1 + k351))) (pk_mul TT (1 + k351)) ?_
                      have hm1 : t1 * (1 + k335) ≤ 1800 * 9 := Nat.mul_le_mul (by omega) (by omega)
                      have hm2 : TT * (1 + k351) ≤ 200 * 9 := Nat.mul_le_mul (by omega) (by omega)
                      have hm3 : t1 ≤ t1 * (1 + k335) := Nat.le_mul_of_pos_right _ (by omega)
                      refine lv_icmp_ge (tgt := 600) hx hb dL_stage_591 (by decide) (fun c591 => ?_) (fun c591 => ?_)
                      · skip
                        have n591 := (nI_leI (a := TT * (1 + k351)) (b := t1 * (1 + k335)) (by omega) (by omega)).mp c591
                        refine lv_aload hx hb dL_stage_600 (lv_at hl 8 rfl) ?_
                        refine lv_iconst (v := 2) hx hb dL_stage_602 (by decide) ?_
                        refine lv_iload hx hb dL_stage_603 (lv_at hl 10 rfl) ?_
                        refine kist (n := 13) (j := 2) hx hb hG hK hS 4 rfl (by omega) (by omega) dL_stage_605 (fun H locs hK hS => ?_)
                        have hK : KB D A0 z xo [aI D ln 2 fl1, aI D st9 130 fs3, aI D ky 120 fk1, aI D mn 2 fm1, aI D q272 13 (upd wf 2 (nI (k291 + t1)))] H 2 len1 sz1 ff1 nc1 ct1 cn1 bf (j1 + 1) (upC ck3 j1 k279) pt7 kN nf cnt := hK
                        refine lv_aload hx hb dL_stage_606 (lv_at hl 8 rfl) ?_
                        refine lv_iconst (v := 0) hx hb dL_stage_608 (by decide) ?_
                        refine lv_aload hx hb dL_stage_609 (lv_at hl 5 rfl) ?_
                        refine lv_bipush (v := 13) hx hb dL_stage_611 (by decide) ?_
                        refine lv_iload hx hb dL_stage_613 (lv_at hl 7 rfl) ?_
                        refine lv_imul hx hb dL_stage_615 ?_
                        refine tpi (y := nI (13 * j1)) (pk_mul 13 j1) ?_
                        refine lv_bipush (v := 13) hx hb dL_stage_616 (by decide) ?_
                        refine kcpy (n0 := 13) (n1 := 130) (sp := 0) (dp := 13 * j1) (n := 13) hx hb (by rw [hml]; exact hl.1.symm) hown (hts _ mM_L_25) hts hG hK hS 4 1 rfl rfl (by omega) (by omega) (by omega) (by omega) (by omega) (Nat.le_of_ble_eq_true rfl) (Nat.le_of_ble_eq_true rfl) dL_stage_618 (fun H locs hK hS => ?_)
                        have hK : KB D A0 z xo [aI D ln 2 fl1, aI D st9 130 (va_cpy (upd wf 2 (nI (k291 + t1))) fs3 0 (13 * j1) 13), aI D ky 120 fk1, aI D mn 2 fm1, aI D q272 13 (upd wf 2 (nI (k291 + t1)))] H 2 len1 sz1 ff1 nc1 ct1 cn1 bf (j1 + 1) (upC ck3 j1 k279) pt7 kN nf cnt := hK
                        refine lv_iinc (v := nI (j1 + 1)) (lv' := [(7, .int (nI (j1 + 1))), (0, .ref xo), (1, .ref sb), (2, .ref ln), (3, .ref ky), (4, .ref mn), (5, .ref st9), (6, .int (nI (1 + k214))), (10, .ref q272), (11, .int (nI TT)), (12, .int (nI (k291 + t1)))]) hx hb dL_stage_621 hl (k := 7) rfl (nI_1 _) (by decide) rfl (fun ls hl => ?_)
                        refine lv_goto (tgt := 223) hx hb dL_stage_624 (by decide) ?_
                        have hK := hK.less (n := 4)
                        have hK : KB D A0 z xo [aI D ln 2 fl1, aI D st9 130 (va_cpy (upd wf 2 (nI (k291 + t1))) fs3 0 (13 * j1) 13), aI D ky 120 fk1, aI D mn 2 fm1] H 2 len1 sz1 ff1 nc1 ct1 cn1 bf (j1 + 1) (upC ck3 j1 k279) pt7 kN nf cnt := hK
                        refine W.widen (k := 140 + 3 * (j1 + 1)) (n := 1500 + 40 * (j1 + 1)) (by omega) (by omega) ?_
                        exact ih223 (j1 + 1) (upC ck3 j1 k279) pt7 (va_cpy (upd wf 2 (nI (k291 + t1))) fs3 0 (13 * j1) 13) (by omega) (by omega) (st_next hst (by show wf 1 = _; rw [hw1, hp71]) ho7) _ _ _ hK hS (lv_sub hl [1, 2, 3, 4, 5, 6, 7, 0] rfl)
                      · skip
                        have n591 := mt (nI_leI (a := TT * (1 + k351)) (b := t1 * (1 + k335)) (by omega) (by omega)).mpr c591
                        refine lv_iinc (v := nI (k291 + t1 + 1)) (lv' := [(12, .int (nI (k291 + t1 + 1))), (0, .ref xo), (1, .ref sb), (2, .ref ln), (3, .ref ky), (4, .ref mn), (5, .ref st9), (6, .int (nI (1 + k214))), (7, .int (nI j1)), (10, .ref q272), (11, .int (nI TT))]) hx hb dL_stage_594 hl (k := 10) rfl (nI_1 _) (by decide) rfl (fun ls hl => ?_)
                        refine lv_goto (tgt := 571) hx hb dL_stage_597 (by decide) ?_
                        exact ih571 (t1 + 1) (by omega) (by omega) _ _ _ hK hS (lv_sub hl [1, 2, 3, 4, 5, 6, 7, 8, 9, 10, 0] rfl)
                  refine W.widen (k := 140 + 3 * j1 + 3) (n := 1500 + 40 * j1 + 36) (by omega) (by omega) ?_
                  exact loop571 _ 0 (Nat.lt_succ_self _) (by omega) _ _ _ hK hS (lv_sub hl [5, 6, 7, 8, 9, 10, 11, 12, 2, 1, 0] rfl)
                refine lv_icmp_ne (tgt := 524) hx hb dL_stage_517 (by decide) (fun c517 => ?_) (fun c517 => ?_)
                · skip
                  have n517 := mt (nI_eq (a := k401 / 3) (b := 1) (by omega) (by omega)).mpr c517
                  refine lv_iconst (v := 0) hx hb dL_stage_524 (by decide) ?_
                  exact join517 0 (Or.inl rfl)
                · skip
                  have n517 := (nI_eq (a := k401 / 3) (b := 1) (by omega) (by omega)).mp c517
                  refine lv_iconst (v := 1) hx hb dL_stage_520 (by decide) ?_
                  refine lv_goto (tgt := 525) hx hb dL_stage_521 (by decide) ?_
                  exact join517 1 (Or.inr rfl)
              refine lv_icmp_ne (tgt := 510) hx hb dL_stage_503 (by decide) (fun c503 => ?_) (fun c503 => ?_)
              · skip
                have n503 := mt (nI_eq (a := k388) (b := 1) (by omega) (by omega)).mpr c503
                refine lv_iconst (v := 0) hx hb dL_stage_510 (by decide) ?_
                exact join503 0 (Or.inl rfl)
              · skip
                have n503 := (nI_eq (a := k388) (b := 1) (by omega) (by omega)).mp c503
                refine lv_iconst (v := 1) hx hb dL_stage_506 (by decide) ?_
                refine lv_goto (tgt := 511) hx hb dL_stage_507 (by decide) ?_
                exact join503 1 (Or.inr rfl)
        refine W.widen (k := 140 + 3 * 0) (n := 1500 + 40 * 0) (by omega) (by omega) ?_
        exact loop223 _ 0 ck pt (fun _ => 0) (Nat.lt_succ_self _) (by omega) (fun q hq => absurd hq (Nat.not_lt_zero _)) _ _ _ hK hS (lv_sub hl [2, 3, 4, 5, 6, 7, 1, 0] rfl)
      · skip
        have n6 := mt (nI_leI (a := 2) (b := c1) (by omega) (by omega)).mpr c6
        refine lv_aload_n hx hb dL_stage_9 rfl (lv_at hl 2 rfl) ?_
        refine lv_iload hx hb dL_stage_10 (lv_at hl 6 rfl) ?_
        refine lv_iconst (v := 1) hx hb dL_stage_12 (by decide) ?_
        refine lv_aload_n hx hb dL_stage_13 rfl (lv_at hl 1 rfl) ?_
        refine lv_iload hx hb dL_stage_14 (lv_at hl 6 rfl) ?_
        have hP9 : va_P D cls [] H := fun k q h => by simp at h
        refine vp_callSi (pSX (rest := [.int 1, .int (nI c1), .ref ln]) SCR.blind (hX.pre hS (fun _ h => h.elim)) [.ref sb, .int (nI c1)] 2 hC (c_cell l D (b := sb) (L := L) (k := c1) (xs := xs) (by omega) (by omega)) (gS mM_L_9 mT_L_cell mN_L mC_L_cell) (by decide +kernel) rfl rfl ⟨Nat.le_of_ble_eq_true rfl, Nat.le_of_ble_eq_true rfl⟩ hG hP9 rfl hl.1 rfl (Nat.le_of_ble_eq_true rfl) dL_stage_16 ⟨by show _ ≤ 200; omega, by show _ ≤ 3000; omega⟩) (fun r16 h16 => ?_)
        refine lv_bipush (v := 50) hx hb dL_stage_19 (by decide) ?_
        have hP9 : va_P D cls [] H := fun k q h => by simp at h
        refine vp_callSi (pS (rest := [.int 1, .int (nI c1), .ref ln]) [.int r16, .int 50] 2 hC (c_below l D (x := r16) (n := 50) (by omega) (by omega)) (gS mM_L_15 mT_L_below mN_L mC_L_below) (by decide +kernel) rfl rfl ⟨Nat.le_of_ble_eq_true rfl, Nat.le_of_ble_eq_true rfl⟩ hG hP9 rfl hl.1 rfl (Nat.le_of_ble_eq_true rfl) dL_stage_21 ⟨by show _ ≤ 200; omega, by show _ ≤ 3000; omega⟩) (fun r21 h21 => ?_)
        obtain ⟨k21, hk21, rfl⟩ := h21
        refine lv_iadd hx hb dL_stage_24 ?_
        refine tpi (y := nI (1 + k21)) (nI_add 1 k21) ?_
        refine kist (n := 2) (j := c1) hx hb hG hK hS 0 rfl (by omega) (by omega) dL_stage_25 (fun H locs hK hS => ?_)
        have hK : KB D A0 z xo [aI D ln 2 (upd fl1 c1 (nI (1 + k21))), aI D st9 130 (fun _ => 0), aI D ky 120 fk1, aI D mn 2 fm1] H c1 len1 sz1 ff1 nc1 ct1 cn1 bf 0 ck pt kN nf cnt := hK
        refine lv_aload_n hx hb dL_stage_26 rfl (lv_at hl 0 rfl) ?_
        refine lv_aload_n hx hb dL_stage_27 rfl (lv_at hl 2 rfl) ?_
        refine lv_iload hx hb dL_stage_28 (lv_at hl 6 rfl) ?_
        refine ild (n := 2) (j := c1) hx hb hG hK.own.1 0 rfl (by omega) (by omega) dL_stage_30 ?_
        refine tpi (y := nI (1 + k21)) (upd_at) ?_
        refine k_addClip (x := nI (1 + k21)) hC hl.1 (Nat.le_of_ble_eq_true rfl) (Nat.le_of_ble_eq_true rfl) (by show _ ≤ 200; omega) (by show _ ≤ 3000; omega) (Nat.le_of_ble_eq_true rfl) hG hZL hA hS hK dL_stage_31 (⟨(nI_leI (a := 1) (b := (1 + k21)) (by omega) (by omega)).mpr (by omega), (nI_leI (a := (1 + k21)) (b := 2000) (by omega) (by omega)).mpr (by omega)⟩) (by omega) (fun H locs hK hS => ?_)
        have hK : KB D A0 z xo [aI D ln 2 (upd fl1 c1 (nI (1 + k21))), aI D st9 130 (fun _ => 0), aI D ky 120 fk1, aI D mn 2 fm1] H (c1 + 1) (upC len1 c1 (nI (1 + k21))) (upC sz1 c1 (fun _ => 0)) (upC ff1 c1 (fun _ _ => 0)) (upC nc1 c1 0) (upC ct1 c1 (fun _ => 0)) (upC cn1 c1 (fun _ => 0)) bf 0 ck pt kN nf cnt := hK
        refine lv_iload hx hb dL_stage_34 (lv_at hl 6 rfl) ?_
        refine lv_icmp_eq (tgt := 41) hx hb dL_stage_36 (by decide) (fun _ => ?_) (fun h9 => absurd ((nI_eq (a := c1) (b := c1) (by omega) (by omega)).mpr (by omega)) h9)
        refine lv_iconst (v := 0) hx hb dL_stage_41 (by decide) ?_
        refine lv_istore (lv' := [(7, .int 0), (0, .ref xo), (1, .ref sb), (2, .ref ln), (3, .ref ky), (4, .ref mn), (5, .ref st9), (6, .int (nI c1))]) hx hb dL_stage_42 hl (by decide) rfl (fun ls hl => ?_)
        have loop44 : ∀ (d9 : Nat) (i1 : Nat) (sz2 : Nat → Nat → Nat) (ff2 : Nat → Nat → Nat → Int32) (fk2 : Nat → Int32) (fm2 : Nat → Int32), (3 - i1) < d9 → (i1 ≤ 3) → (SI c1 i1 sz2 sz1 ff2 fk2 fm2) → ∀ (H : Heap) (locs : List Loc) (ls : Array Slot), KB D A0 z xo [aI D ln 2 (upd fl1 c1 (nI (1 + k21))), aI D st9 130 (fun _ => 0), aI D ky 120 fk2, aI D mn 2 fm2] H (c1 + 1) (upC len1 c1 (nI (1 + k21))) sz2 ff2 (upC nc1 c1 0) (upC ct1 c1 (fun _ => 0)) (upC cn1 c1 (fun _ => 0)) bf 0 ck pt kN nf cnt → va_S A0 s.heap H locs → lv_has ls 13 [(0, .ref xo), (1, .ref sb), (2, .ref ln), (3, .ref ky), (4, .ref mn), (5, .ref st9), (6, .int (nI c1)), (7, .int (nI i1))] → W p l e ({ frames := 9, cells := 200, slots := 3000, locals := 250 } : Room) s m ([.ref xo, .ref sb, .ref ln, .ref ky, .ref mn, .ref st9] : List Value).toArray below meth c H locs (70 * c1 + 35 + i1) (700 * c1 + 266 + 60 * i1) Q (F0 m 44 ls []) := by
          intro d9
          induction d9 with
          | zero => intro i1 sz2 ff2 fk2 fm2 hd; exact absurd hd (Nat.not_lt_zero _)
          | succ d9 ih44 =>
            intro i1 sz2 ff2 fk2 fm2 hd44 hi3 hSI H locs ls hK hS hl
            have hT := ((hK.inv.1).2.2.1 c1 (by omega) 1 (by omega)).2.1
            have hsz3 := hSI.1.1
            refine lv_iload hx hb dL_stage_44 (lv_at hl 7 rfl) ?_
            refine lv_iconst (v := 3) hx hb dL_stage_46 (by decide) ?_
            refine lv_icmp_ge (tgt := 200) hx hb dL_stage_47 (by decide) (fun c47 => ?_) (fun c47 => ?_)
            · skip
              have n47 := (nI_leI (a := 3) (b := i1) (by omega) (by omega)).mp c47
              refine lv_iinc (v := nI (c1 + 1)) (lv' := [(6, .int (nI (c1 + 1))), (0, .ref xo), (1, .ref sb), (2, .ref ln), (3, .ref ky), (4, .ref mn), (5, .ref st9), (7, .int (nI i1))]) hx hb dL_stage_200 hl (k := 6) rfl (nI_1 _) (by decide) rfl (fun ls hl => ?_)
              refine lv_goto (tgt := 3) hx hb dL_stage_203 (by decide) ?_
              refine W.widen (k := 70 * (c1 + 1)) (n := 700 * (c1 + 1)) (by omega) (by omega) ?_
              exact ih3 (c1 + 1) (upC len1 c1 (nI (1 + k21))) sz2 ff2 (upC nc1 c1 0) (upC ct1 c1 (fun _ => 0)) (upC cn1 c1 (fun _ => 0)) (upd fl1 c1 (nI (1 + k21))) fk2 fm2 (by omega) (by omega) (hSG.next (hSI.1.2 (by omega)) hSI.2.2.2.2 hk21) (fun y hy1 hy2 => hSI.2.2.2.1 y (by omega) hy2) _ _ _ hK hS (lv_sub hl [1, 2, 3, 4, 5, 6, 0] rfl)
            · skip
              have n47 := mt (nI_leI (a := 3) (b := i1) (by omega) (by omega)).mpr c47
              refine lv_aload_n hx hb dL_stage_50 rfl (lv_at hl 1 rfl) ?_
              refine lv_iconst (v := 2) hx hb dL_stage_51 (by decide) ?_
              refine lv_iload hx hb dL_stage_52 (lv_at hl 7 rfl) ?_
              refine lv_iadd hx hb dL_stage_54 ?_
              refine tpi (y := nI (2 + i1)) (nI_add 2 i1) ?_
              have hP9 : va_P D cls [] H := fun k q h => by simp at h
              refine vp_callSi (pSX (rest := []) SCR.blind (hX.pre hS (fun _ h => h.elim)) [.ref sb, .int (nI (2 + i1))] 2 hC (c_cell l D (b := sb) (L := L) (k := (2 + i1)) (xs := xs) (by omega) (by omega)) (gS mM_L_9 mT_L_cell mN_L mC_L_cell) (by decide +kernel) rfl rfl ⟨Nat.le_of_ble_eq_true rfl, Nat.le_of_ble_eq_true rfl⟩ hG hP9 rfl hl.1 rfl (Nat.le_of_ble_eq_true rfl) dL_stage_55 ⟨by show _ ≤ 200; omega, by show _ ≤ 3000; omega⟩) (fun r55 h55 => ?_)
              refine lv_iconst (v := 5) hx hb dL_stage_58 (by decide) ?_
              refine lv_iload hx hb dL_stage_59 (lv_at hl 6 rfl) ?_
              refine lv_imul hx hb dL_stage_61 ?_
              refine tpi (y := nI (5 * c1)) (pk_mul 5 c1) ?_
              refine lv_ishr hx hb dL_stage_62 ?_
              obtain ⟨x62, hx62⟩ : ∃ x9, x9 = r55 >>> ((nI (5 * c1)) &&& 31) := ⟨_, rfl⟩
              refine tpi (y := x62) hx62.symm ?_
              refine lv_istore (lv' := [(8, .int x62), (0, .ref xo), (1, .ref sb), (2, .ref ln), (3, .ref ky), (4, .ref mn), (5, .ref st9), (6, .int (nI c1)), (7, .int (nI i1))]) hx hb dL_stage_63 hl (by decide) rfl (fun ls hl => ?_)
              refine lv_iload hx hb dL_stage_65 (lv_at hl 0 rfl) ?_
              refine lv_aload_n hx hb dL_stage_67 rfl (lv_at hl 3 rfl) ?_
              refine lv_iload hx hb dL_stage_68 (lv_at hl 7 rfl) ?_
              refine ild (n := 2) (j := c1) hx hb hG hK.own.1 0 rfl (by omega) (by omega) dL_stage_70 ?_
              refine tpi (y := nI (1 + k21)) (upd_at) ?_
              refine lv_iconst (v := 1) hx hb dL_stage_71 (by decide) ?_
              refine lv_iadd hx hb dL_stage_72 ?_
              refine tpi (y := nI ((1 + k21) + 1)) (nI_add (1 + k21) 1) ?_
              have hP9 : va_P D cls [] H := fun k q h => by simp at h
              refine vp_callSi (pS (rest := []) [.int x62, .int (nI ((1 + k21) + 1))] 2 hC (c_below l D (x := x62) (n := ((1 + k21) + 1)) (by omega) (by omega)) (gS mM_L_15 mT_L_below mN_L mC_L_below) (by decide +kernel) rfl rfl ⟨Nat.le_of_ble_eq_true rfl, Nat.le_of_ble_eq_true rfl⟩ hG hP9 rfl hl.1 rfl (Nat.le_of_ble_eq_true rfl) dL_stage_73 ⟨by show _ ≤ 200; omega, by show _ ≤ 3000; omega⟩) (fun r73 h73 => ?_)
              obtain ⟨k73, hk73, rfl⟩ := h73
              refine lv_istore (lv' := [(9, .int (nI k73)), (8, .int x62), (0, .ref xo), (1, .ref sb), (2, .ref ln), (3, .ref ky), (4, .ref mn), (5, .ref st9), (6, .int (nI c1)), (7, .int (nI i1))]) hx hb dL_stage_76 hl (by decide) rfl (fun ls hl => ?_)
              refine lv_bipush (v := 60) hx hb dL_stage_78 (by decide) ?_
              refine knew (N := 60) hx hb hts hG hK hS hA (by decide) (by decide) (by omega) (by show _ ≤ 200; omega) (by show _ ≤ 3000; omega) dL_stage_80 (fun q80 H hK hS => ?_)
              have hK : KB D A0 z xo [aI D ln 2 (upd fl1 c1 (nI (1 + k21))), aI D st9 130 (fun _ => 0), aI D ky 120 fk2, aI D mn 2 fm2, aI D q80 60 (fun _ => 0)] H (c1 + 1) (upC len1 c1 (nI (1 + k21))) sz2 ff2 (upC nc1 c1 0) (upC ct1 c1 (fun _ => 0)) (upC cn1 c1 (fun _ => 0)) bf 0 ck pt kN nf cnt := hK
              refine lv_astore (lv' := [(10, .ref q80), (9, .int (nI k73)), (8, .int x62), (0, .ref xo), (1, .ref sb), (2, .ref ln), (3, .ref ky), (4, .ref mn), (5, .ref st9), (6, .int (nI c1)), (7, .int (nI i1))]) hx hb dL_stage_82 hl (by decide) rfl (fun ls hl => ?_)
              refine lv_aload_n hx hb dL_stage_84 rfl (lv_at hl 6 rfl) ?_
              refine lv_bipush (v := 60) hx hb dL_stage_85 (by decide) ?_
              refine lv_iload hx hb dL_stage_87 (lv_at hl 9 rfl) ?_
              refine lv_imul hx hb dL_stage_89 ?_
              refine tpi (y := nI (60 * c1)) (pk_mul 60 c1) ?_
              refine lv_aload hx hb dL_stage_90 (lv_at hl 0 rfl) ?_
              refine lv_iconst (v := 0) hx hb dL_stage_92 (by decide) ?_
              refine lv_bipush (v := 60) hx hb dL_stage_93 (by decide) ?_
              refine kcpy (n0 := 120) (n1 := 60) (sp := 60 * c1) (dp := 0) (n := 60) hx hb (by rw [hml]; exact hl.1.symm) hown (hts _ mM_L_25) hts hG hK hS 2 4 rfl rfl (by omega) (by omega) (by omega) (by omega) (by omega) (Nat.le_of_ble_eq_true rfl) (Nat.le_of_ble_eq_true rfl) dL_stage_95 (fun H locs hK hS => ?_)
              have hK : KB D A0 z xo [aI D ln 2 (upd fl1 c1 (nI (1 + k21))), aI D st9 130 (fun _ => 0), aI D ky 120 fk2, aI D mn 2 fm2, aI D q80 60 (va_cpy fk2 (fun _ => 0) (60 * c1) 0 60)] H (c1 + 1) (upC len1 c1 (nI (1 + k21))) sz2 ff2 (upC nc1 c1 0) (upC ct1 c1 (fun _ => 0)) (upC cn1 c1 (fun _ => 0)) bf 0 ck pt kN nf cnt := hK
              refine lv_aload hx hb dL_stage_98 (lv_at hl 7 rfl) ?_
              refine lv_iload hx hb dL_stage_100 (lv_at hl 9 rfl) ?_
              refine lv_aload hx hb dL_stage_102 (lv_at hl 0 rfl) ?_
              refine lv_aload hx hb dL_stage_104 (lv_at hl 7 rfl) ?_
              refine lv_iload hx hb dL_stage_106 (lv_at hl 9 rfl) ?_
              refine ild (n := 2) (j := c1) hx hb hG hK.own.1 3 rfl (by omega) (by omega) dL_stage_108 ?_
              refine tpi (y := nI (sz2 c1 1)) (hSI.2.2.1) ?_
              refine lv_iload hx hb dL_stage_109 (lv_at hl 1 rfl) ?_
              refine lv_iload hx hb dL_stage_111 (lv_at hl 2 rfl) ?_
              refine lv_iconst (v := 3) hx hb dL_stage_113 (by decide) ?_
              refine lv_ishr hx hb dL_stage_114 ?_
              obtain ⟨x114, hx114⟩ : ∃ x9, x9 = x62 >>> (3 &&& 31) := ⟨_, rfl⟩
              refine tpi (y := x114) hx114.symm ?_
              refine lv_sipush (v := 401) hx hb dL_stage_115 (by decide) ?_
              have hP9 : va_P D cls [] H := fun k q h => by simp at h
              refine vp_callSi (pS (rest := [.int (nI k73), .int (nI (sz2 c1 1)), .ref q80, .int (nI c1), .ref mn]) [.int x114, .int 401] 2 hC (c_below l D (x := x114) (n := 401) (by omega) (by omega)) (gS mM_L_15 mT_L_below mN_L mC_L_below) (by decide +kernel) rfl rfl ⟨Nat.le_of_ble_eq_true rfl, Nat.le_of_ble_eq_true rfl⟩ hG hP9 rfl hl.1 rfl (Nat.le_of_ble_eq_true rfl) dL_stage_118 ⟨by show _ ≤ 200; omega, by show _ ≤ 3000; omega⟩) (fun r118 h118 => ?_)
              obtain ⟨k118, hk118, rfl⟩ := h118
              refine lv_sipush (v := 200) hx hb dL_stage_121 (by decide) ?_
              refine lv_isub hx hb dL_stage_124 ?_
              refine lv_iload hx hb dL_stage_125 (lv_at hl 2 rfl) ?_
              refine lv_bipush (v := 7) hx hb dL_stage_127 (by decide) ?_
              refine lv_ishr hx hb dL_stage_129 ?_
              obtain ⟨x129, hx129⟩ : ∃ x9, x9 = x62 >>> (7 &&& 31) := ⟨_, rfl⟩
              refine tpi (y := x129) hx129.symm ?_
              refine lv_iconst (v := 5) hx hb dL_stage_130 (by decide) ?_
              have hP9 : va_P D cls [] H := fun k q h => by simp at h
              refine vp_callSi (pS (rest := [.int ((nI k118) - 200), .int (nI k73), .int (nI (sz2 c1 1)), .ref q80, .int (nI c1), .ref mn]) [.int x129, .int 5] 2 hC (c_below l D (x := x129) (n := 5) (by omega) (by omega)) (gS mM_L_15 mT_L_below mN_L mC_L_below) (by decide +kernel) rfl rfl ⟨Nat.le_of_ble_eq_true rfl, Nat.le_of_ble_eq_true rfl⟩ hG hP9 rfl hl.1 rfl (Nat.le_of_ble_eq_true rfl) dL_stage_131 ⟨by show _ ≤ 200; omega, by show _ ≤ 3000; omega⟩) (fun r131 h131 => ?_)
              obtain ⟨k131, hk131, rfl⟩ := h131
              refine k_put hC hl.1 (Nat.le_of_ble_eq_true rfl) (Nat.le_of_ble_eq_true rfl) (by show _ ≤ 200; omega) (by show _ ≤ 3000; omega) (Nat.le_of_ble_eq_true rfl) hG hA hS (by omega) hK dL_stage_134 (fun r134 p134 g134 H locs hPut hK hS => ?_)
              have hK : KB D A0 z xo [aI D ln 2 (upd fl1 c1 (nI (1 + k21))), aI D st9 130 (fun _ => 0), aI D ky 120 fk2, aI D mn 2 fm2, aI D q80 60 g134] H (c1 + 1) (upC len1 c1 (nI (1 + k21))) sz2 ff2 (upC nc1 c1 0) (upC ct1 c1 (fun _ => 0)) (upC cn1 c1 (fun _ => 0)) bf 0 ck pt kN nf cnt := hK
              refine kist (n := 2) (j := c1) hx hb hG hK hS 3 rfl (by omega) (by omega) dL_stage_137 (fun H locs hK hS => ?_)
              have hK : KB D A0 z xo [aI D ln 2 (upd fl1 c1 (nI (1 + k21))), aI D st9 130 (fun _ => 0), aI D ky 120 fk2, aI D mn 2 (upd fm2 c1 r134), aI D q80 60 g134] H (c1 + 1) (upC len1 c1 (nI (1 + k21))) sz2 ff2 (upC nc1 c1 0) (upC ct1 c1 (fun _ => 0)) (upC cn1 c1 (fun _ => 0)) bf 0 ck pt kN nf cnt := hK
              refine lv_aload hx hb dL_stage_138 (lv_at hl 0 rfl) ?_
              refine lv_iconst (v := 0) hx hb dL_stage_140 (by decide) ?_
              refine lv_aload_n hx hb dL_stage_141 rfl (lv_at hl 6 rfl) ?_
              refine lv_bipush (v := 60) hx hb dL_stage_142 (by decide) ?_
              refine lv_iload hx hb dL_stage_144 (lv_at hl 9 rfl) ?_
              refine lv_imul hx hb dL_stage_146 ?_
              refine tpi (y := nI (60 * c1)) (pk_mul 60 c1) ?_
              refine lv_bipush (v := 60) hx hb dL_stage_147 (by decide) ?_
              refine kcpy (n0 := 60) (n1 := 120) (sp := 0) (dp := 60 * c1) (n := 60) hx hb (by rw [hml]; exact hl.1.symm) hown (hts _ mM_L_25) hts hG hK hS 4 2 rfl rfl (by omega) (by omega) (by omega) (by omega) (by omega) (Nat.le_of_ble_eq_true rfl) (Nat.le_of_ble_eq_true rfl) dL_stage_149 (fun H locs hK hS => ?_)
              have hK : KB D A0 z xo [aI D ln 2 (upd fl1 c1 (nI (1 + k21))), aI D st9 130 (fun _ => 0), aI D ky 120 (va_cpy g134 fk2 0 (60 * c1) 60), aI D mn 2 (upd fm2 c1 r134), aI D q80 60 g134] H (c1 + 1) (upC len1 c1 (nI (1 + k21))) sz2 ff2 (upC nc1 c1 0) (upC ct1 c1 (fun _ => 0)) (upC cn1 c1 (fun _ => 0)) bf 0 ck pt kN nf cnt := hK
              by_cases hpk : 0 < cntLe (ff2 c1 (3 * 1)) (nI k73) (sz2 c1 1) ∧ ff2 c1 (3 * 1) (cntLe (ff2 c1 (3 * 1)) (nI k73) (sz2 c1 1) - 1) = nI k73
              · skip
                obtain ⟨hr134, hnx⟩ := hSI.set (by omega) hT hPut hpk
                refine lv_aload_n hx hb dL_stage_152 rfl (lv_at hl 3 rfl) ?_
                refine lv_iload hx hb dL_stage_153 (lv_at hl 9 rfl) ?_
                refine lv_iconst (v := 1) hx hb dL_stage_155 (by decide) ?_
                refine lv_iload hx hb dL_stage_156 (lv_at hl 1 rfl) ?_
                refine lv_iload hx hb dL_stage_158 (lv_at hl 2 rfl) ?_
                refine lv_iconst (v := 3) hx hb dL_stage_160 (by decide) ?_
                refine lv_ishr hx hb dL_stage_161 ?_
                obtain ⟨x161, hx161⟩ : ∃ x9, x9 = x62 >>> (3 &&& 31) := ⟨_, rfl⟩
                refine tpi (y := x161) hx161.symm ?_
                refine lv_sipush (v := 401) hx hb dL_stage_162 (by decide) ?_
                have hP9 : va_P D cls [] H := fun k q h => by simp at h
                refine vp_callSi (pS (rest := [.int (nI k73), .int 1, .int (nI c1), .ref xo]) [.int x161, .int 401] 2 hC (c_below l D (x := x161) (n := 401) (by omega) (by omega)) (gS mM_L_15 mT_L_below mN_L mC_L_below) (by decide +kernel) rfl rfl ⟨Nat.le_of_ble_eq_true rfl, Nat.le_of_ble_eq_true rfl⟩ hG hP9 rfl hl.1 rfl (Nat.le_of_ble_eq_true rfl) dL_stage_165 ⟨by show _ ≤ 200; omega, by show _ ≤ 3000; omega⟩) (fun r165 h165 => ?_)
                obtain ⟨k165, hk165, rfl⟩ := h165
                refine lv_sipush (v := 200) hx hb dL_stage_168 (by decide) ?_
                refine lv_isub hx hb dL_stage_171 ?_
                refine lv_iload hx hb dL_stage_172 (lv_at hl 2 rfl) ?_
                refine lv_bipush (v := 7) hx hb dL_stage_174 (by decide) ?_
                refine lv_ishr hx hb dL_stage_176 ?_
                obtain ⟨x176, hx176⟩ : ∃ x9, x9 = x62 >>> (7 &&& 31) := ⟨_, rfl⟩
                refine tpi (y := x176) hx176.symm ?_
                refine lv_iconst (v := 5) hx hb dL_stage_177 (by decide) ?_
                have hP9 : va_P D cls [] H := fun k q h => by simp at h
                refine vp_callSi (pS (rest := [.int ((nI k165) - 200), .int (nI k73), .int 1, .int (nI c1), .ref xo]) [.int x176, .int 5] 2 hC (c_below l D (x := x176) (n := 5) (by omega) (by omega)) (gS mM_L_15 mT_L_below mN_L mC_L_below) (by decide +kernel) rfl rfl ⟨Nat.le_of_ble_eq_true rfl, Nat.le_of_ble_eq_true rfl⟩ hG hP9 rfl hl.1 rfl (Nat.le_of_ble_eq_true rfl) dL_stage_178 ⟨by show _ ≤ 200; omega, by show _ ≤ 3000; omega⟩) (fun r178 h178 => ?_)
                obtain ⟨k178, hk178, rfl⟩ := h178
                refine k_key_set (c0 := c1) (j := 1) (tm := nI k73) (vl := (nI k165) - 200) (es := nI k178) hC hl.1 (Nat.le_of_ble_eq_true rfl) (Nat.le_of_ble_eq_true rfl) (by show _ ≤ 200; omega) (by show _ ≤ 3000; omega) (Nat.le_of_ble_eq_true rfl) hG hZL hA hS hK dL_stage_181 (by omega) (by omega) (⟨⟨nI_pos' (by omega), by rw [upC_at]; exact nI_le (by omega) (by omega)⟩, vl_ok (by omega), nI_pos' (by omega), (nI_leI (a := k178) (b := 4) (by omega) (by omega)).mpr (by omega)⟩) (hpk) (fun H locs hK hS => ?_)
                have hK : KB D A0 z xo [aI D ln 2 (upd fl1 c1 (nI (1 + k21))), aI D st9 130 (fun _ => 0), aI D ky 120 (va_cpy g134 fk2 0 (60 * c1) 60), aI D mn 2 (upd fm2 c1 r134), aI D q80 60 g134] H (c1 + 1) (upC len1 c1 (nI (1 + k21))) (upC sz2 c1 (upC (sz2 c1) 1 (sz2 c1 1))) (upC ff2 c1 (up3 (ff2 c1) 1 (ff2 c1 (3 * 1)) (upd (ff2 c1 (3 * 1 + 1)) (cntLe (ff2 c1 (3 * 1)) (nI k73) (sz2 c1 1) - 1) ((nI k165) - 200)) (upd (ff2 c1 (3 * 1 + 2)) (cntLe (ff2 c1 (3 * 1)) (nI k73) (sz2 c1 1) - 1) (nI k178)))) (upC nc1 c1 0) (upC ct1 c1 (fun _ => 0)) (upC cn1 c1 (fun _ => 0)) bf 0 ck pt kN nf cnt := hK
                refine lv_aload hx hb dL_stage_184 (lv_at hl 7 rfl) ?_
                refine lv_iload hx hb dL_stage_186 (lv_at hl 9 rfl) ?_
                refine ild (n := 2) (j := c1) hx hb hG hK.own.1 3 rfl (by omega) (by omega) dL_stage_188 ?_
                refine tpi (y := nI (sz2 c1 1)) (upd_at.trans hr134) ?_
                refine lv_icmp_eq (tgt := 194) hx hb dL_stage_189 (by decide) (fun _ => ?_) (fun h9 => absurd ((nI_eq (a := sz2 c1 1) (b := sz2 c1 1) (by omega) (by omega)).mpr (by omega)) h9)
                refine lv_iinc (v := nI (i1 + 1)) (lv' := [(7, .int (nI (i1 + 1))), (10, .ref q80), (9, .int (nI k73)), (8, .int x62), (0, .ref xo), (1, .ref sb), (2, .ref ln), (3, .ref ky), (4, .ref mn), (5, .ref st9), (6, .int (nI c1))]) hx hb dL_stage_194 hl (k := 10) rfl (nI_1 _) (by decide) rfl (fun ls hl => ?_)
                refine lv_goto (tgt := 44) hx hb dL_stage_197 (by decide) ?_
                have hK := hK.less (n := 4)
                have hK : KB D A0 z xo [aI D ln 2 (upd fl1 c1 (nI (1 + k21))), aI D st9 130 (fun _ => 0), aI D ky 120 (va_cpy g134 fk2 0 (60 * c1) 60), aI D mn 2 (upd fm2 c1 r134)] H (c1 + 1) (upC len1 c1 (nI (1 + k21))) (upC sz2 c1 (upC (sz2 c1) 1 (sz2 c1 1))) (upC ff2 c1 (up3 (ff2 c1) 1 (ff2 c1 (3 * 1)) (upd (ff2 c1 (3 * 1 + 1)) (cntLe (ff2 c1 (3 * 1)) (nI k73) (sz2 c1 1) - 1) ((nI k165) - 200)) (upd (ff2 c1 (3 * 1 + 2)) (cntLe (ff2 c1 (3 * 1)) (nI k73) (sz2 c1 1) - 1) (nI k178)))) (upC nc1 c1 0) (upC ct1 c1 (fun _ => 0)) (upC cn1 c1 (fun _ => 0)) bf 0 ck pt kN nf cnt := hK
                refine W.widen (k := 70 * c1 + 35 + (i1 + 1)) (n := 700 * c1 + 266 + 60 * (i1 + 1)) (by omega) (by omega) ?_
                exact ih44 (i1 + 1) (upC sz2 c1 (upC (sz2 c1) 1 (sz2 c1 1))) (upC ff2 c1 (up3 (ff2 c1) 1 (ff2 c1 (3 * 1)) (upd (ff2 c1 (3 * 1 + 1)) (cntLe (ff2 c1 (3 * 1)) (nI k73) (sz2 c1 1) - 1) ((nI k165) - 200)) (upd (ff2 c1 (3 * 1 + 2)) (cntLe (ff2 c1 (3 * 1)) (nI k73) (sz2 c1 1) - 1) (nI k178)))) (va_cpy g134 fk2 0 (60 * c1) 60) (upd fm2 c1 r134) (by omega) (by omega) (hnx _ _) _ _ _ hK hS (lv_sub hl [4, 5, 6, 7, 8, 9, 10, 0] rfl)
              · skip
                obtain ⟨hr134, hnx⟩ := hSI.ins (by omega) hT hPut hpk
                refine lv_aload_n hx hb dL_stage_152 rfl (lv_at hl 3 rfl) ?_
                refine lv_iload hx hb dL_stage_153 (lv_at hl 9 rfl) ?_
                refine lv_iconst (v := 1) hx hb dL_stage_155 (by decide) ?_
                refine lv_iload hx hb dL_stage_156 (lv_at hl 1 rfl) ?_
                refine lv_iload hx hb dL_stage_158 (lv_at hl 2 rfl) ?_
                refine lv_iconst (v := 3) hx hb dL_stage_160 (by decide) ?_
                refine lv_ishr hx hb dL_stage_161 ?_
                obtain ⟨x161, hx161⟩ : ∃ x9, x9 = x62 >>> (3 &&& 31) := ⟨_, rfl⟩
                refine tpi (y := x161) hx161.symm ?_
                refine lv_sipush (v := 401) hx hb dL_stage_162 (by decide) ?_
                have hP9 : va_P D cls [] H := fun k q h => by simp at h
                refine vp_callSi (pS (rest := [.int (nI k73), .int 1, .int (nI c1), .ref xo]) [.int x161, .int 401] 2 hC (c_below l D (x := x161) (n := 401) (by omega) (by omega)) (gS mM_L_15 mT_L_below mN_L mC_L_below) (by decide +kernel) rfl rfl ⟨Nat.le_of_ble_eq_true rfl, Nat.le_of_ble_eq_true rfl⟩ hG hP9 rfl hl.1 rfl (Nat.le_of_ble_eq_true rfl) dL_stage_165 ⟨by show _ ≤ 200; omega, by show _ ≤ 3000; omega⟩) (fun r165 h165 => ?_)
                obtain ⟨k165, hk165, rfl⟩ := h165
                refine lv_sipush (v := 200) hx hb dL_stage_168 (by decide) ?_
                refine lv_isub hx hb dL_stage_171 ?_
                refine lv_iload hx hb dL_stage_172 (lv_at hl 2 rfl) ?_
                refine lv_bipush (v := 7) hx hb dL_stage_174 (by decide) ?_
                refine lv_ishr hx hb dL_stage_176 ?_
                obtain ⟨x176, hx176⟩ : ∃ x9, x9 = x62 >>> (7 &&& 31) := ⟨_, rfl⟩
                refine tpi (y := x176) hx176.symm ?_
                refine lv_iconst (v := 5) hx hb dL_stage_177 (by decide) ?_
                have hP9 : va_P D cls [] H := fun k q h => by simp at h
                refine vp_callSi (pS (rest := [.int ((nI k165) - 200), .int (nI k73), .int 1, .int (nI c1), .ref xo]) [.int x176, .int 5] 2 hC (c_below l D (x := x176) (n := 5) (by omega) (by omega)) (gS mM_L_15 mT_L_below mN_L mC_L_below) (by decide +kernel) rfl rfl ⟨Nat.le_of_ble_eq_true rfl, Nat.le_of_ble_eq_true rfl⟩ hG hP9 rfl hl.1 rfl (Nat.le_of_ble_eq_true rfl) dL_stage_178 ⟨by show _ ≤ 200; omega, by show _ ≤ 3000; omega⟩) (fun r178 h178 => ?_)
                obtain ⟨k178, hk178, rfl⟩ := h178
                refine k_key_ins (c0 := c1) (j := 1) (tm := nI k73) (vl := (nI k165) - 200) (es := nI k178) hC hl.1 (Nat.le_of_ble_eq_true rfl) (Nat.le_of_ble_eq_true rfl) (by show _ ≤ 200; omega) (by show _ ≤ 3000; omega) (Nat.le_of_ble_eq_true rfl) hG hZL hA hS hK dL_stage_181 (by omega) (by omega) (⟨⟨nI_pos' (by omega), by rw [upC_at]; exact nI_le (by omega) (by omega)⟩, vl_ok (by omega), nI_pos' (by omega), (nI_leI (a := k178) (b := 4) (by omega) (by omega)).mpr (by omega)⟩) (hpk) (by omega) (fun H locs hK hS => ?_)
                have hK : KB D A0 z xo [aI D ln 2 (upd fl1 c1 (nI (1 + k21))), aI D st9 130 (fun _ => 0), aI D ky 120 (va_cpy g134 fk2 0 (60 * c1) 60), aI D mn 2 (upd fm2 c1 r134), aI D q80 60 g134] H (c1 + 1) (upC len1 c1 (nI (1 + k21))) (upC sz2 c1 (upC (sz2 c1) 1 (sz2 c1 1 + 1))) (upC ff2 c1 (up3 (ff2 c1) 1 (insF (ff2 c1 (3 * 1)) (cntLe (ff2 c1 (3 * 1)) (nI k73) (sz2 c1 1)) (sz2 c1 1) (nI k73)) (insF (ff2 c1 (3 * 1 + 1)) (cntLe (ff2 c1 (3 * 1)) (nI k73) (sz2 c1 1)) (sz2 c1 1) ((nI k165) - 200)) (insF (ff2 c1 (3 * 1 + 2)) (cntLe (ff2 c1 (3 * 1)) (nI k73) (sz2 c1 1)) (sz2 c1 1) (nI k178)))) (upC nc1 c1 0) (upC ct1 c1 (fun _ => 0)) (upC cn1 c1 (fun _ => 0)) bf 0 ck pt kN nf cnt := hK
                refine lv_aload hx hb dL_stage_184 (lv_at hl 7 rfl) ?_
                refine lv_iload hx hb dL_stage_186 (lv_at hl 9 rfl) ?_
                refine ild (n := 2) (j := c1) hx hb hG hK.own.1 3 rfl (by omega) (by omega) dL_stage_188 ?_
                refine tpi (y := nI (sz2 c1 1 + 1)) (upd_at.trans hr134) ?_
                refine lv_icmp_eq (tgt := 194) hx hb dL_stage_189 (by decide) (fun _ => ?_) (fun h9 => absurd ((nI_eq (a := sz2 c1 1 + 1) (b := sz2 c1 1 + 1) (by omega) (by omega)).mpr (by omega)) h9)
                refine lv_iinc (v := nI (i1 + 1)) (lv' := [(7, .int (nI (i1 + 1))), (10, .ref q80), (9, .int (nI k73)), (8, .int x62), (0, .ref xo), (1, .ref sb), (2, .ref ln), (3, .ref ky), (4, .ref mn), (5, .ref st9), (6, .int (nI c1))]) hx hb dL_stage_194 hl (k := 10) rfl (nI_1 _) (by decide) rfl (fun ls hl => ?_)
                refine lv_goto (tgt := 44) hx hb dL_stage_197 (by decide) ?_
                have hK := hK.less (n := 4)
                have hK : KB D A0 z xo [aI D ln 2 (upd fl1 c1 (nI (1 + k21))), aI D st9 130 (fun _ => 0), aI D ky 120 (va_cpy g134 fk2 0 (60 * c1) 60), aI D mn 2 (upd fm2 c1 r134)] H (c1 + 1) (upC len1 c1 (nI (1 + k21))) (upC sz2 c1 (upC (sz2 c1) 1 (sz2 c1 1 + 1))) (upC ff2 c1 (up3 (ff2 c1) 1 (insF (ff2 c1 (3 * 1)) (cntLe (ff2 c1 (3 * 1)) (nI k73) (sz2 c1 1)) (sz2 c1 1) (nI k73)) (insF (ff2 c1 (3 * 1 + 1)) (cntLe (ff2 c1 (3 * 1)) (nI k73) (sz2 c1 1)) (sz2 c1 1) ((nI k165) - 200)) (insF (ff2 c1 (3 * 1 + 2)) (cntLe (ff2 c1 (3 * 1)) (nI k73) (sz2 c1 1)) (sz2 c1 1) (nI k178)))) (upC nc1 c1 0) (upC ct1 c1 (fun _ => 0)) (upC cn1 c1 (fun _ => 0)) bf 0 ck pt kN nf cnt := hK
                refine W.widen (k := 70 * c1 + 35 + (i1 + 1)) (n := 700 * c1 + 266 + 60 * (i1 + 1)) (by omega) (by omega) ?_
                exact ih44 (i1 + 1) (upC sz2 c1 (upC (sz2 c1) 1 (sz2 c1 1 + 1))) (upC ff2 c1 (up3 (ff2 c1) 1 (insF (ff2 c1 (3 * 1)) (cntLe (ff2 c1 (3 * 1)) (nI k73) (sz2 c1 1)) (sz2 c1 1) (nI k73)) (insF (ff2 c1 (3 * 1 + 1)) (cntLe (ff2 c1 (3 * 1)) (nI k73) (sz2 c1 1)) (sz2 c1 1) ((nI k165) - 200)) (insF (ff2 c1 (3 * 1 + 2)) (cntLe (ff2 c1 (3 * 1)) (nI k73) (sz2 c1 1)) (sz2 c1 1) (nI k178)))) (va_cpy g134 fk2 0 (60 * c1) 60) (upd fm2 c1 r134) (by omega) (by omega) (hnx _ _) _ _ _ hK hS (lv_sub hl [4, 5, 6, 7, 8, 9, 10, 0] rfl)
        refine W.widen (k := 70 * c1 + 35 + 0) (n := 700 * c1 + 266 + 60 * 0) (by omega) (by omega) ?_
        exact loop44 _ 0 (upC sz1 c1 (fun _ => 0)) (upC ff1 c1 (fun _ _ => 0)) fk1 fm1 (Nat.lt_succ_self _) (by omega) (SI.zero (by omega) hM0) _ _ _ hK hS (lv_sub hl [1, 2, 3, 4, 5, 6, 7, 0] rfl)
  refine W.widen (k := 70 * 0) (n := 700 * 0) (by omega) (by omega) ?_
  exact loop3 _ 0 len sz ff nc ct cn (fun _ => 0) (fun _ => 0) (fun _ => 0) (Nat.lt_succ_self _) (by omega) (fun i hi => absurd hi (Nat.not_lt_zero _)) (fun _ _ _ => rfl) _ _ _ hK hS (lv_sub hl [1, 2, 3, 4, 5, 6, 0] rfl)
