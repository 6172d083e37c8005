/-- the law's words, and one that the printed list lacks -/
def wsL2 : List Cond := Cond.classLink RL 15 "java/lang/IllegalStateException" :: wsL_law
theorem wsL2_in : ∀ w ∈ wsL_law, w ∈ wsL2 := fun _ h => List.mem_cons_of_mem _ h
theorem gd2_ {w : Cond} (h : w ∈ wsL2) : w ∈ wsL2 ∧ ((w.onTables && w.keeps) = true ∨ ∃ ty, w = .arrayClass ty) := ⟨h, by
  rcases List.mem_cons.mp h with rfl | h
  · exact good_of_word (by decide +kernel)
  · exact (gd_ h).2⟩
/-- a method's words where it has a table of handlers -/
def wsW_ (y : MethodName) (c : ByteArray) (n : Nat) (ret : Option FieldType) (hh : List (Nat × Nat × Nat × Nat)) : List Cond := Cond.codeWith y c n ret hh :: wsL2
theorem gSW {own : String} {idx : Nat} {y : MethodName} {c : ByteArray} {n : Nat} {ret : Option FieldType} {hh : List (Nat × Nat × Nat × Nat)} (h1 : Cond.methodLink own idx y ∈ wsL_law) (h2 : Cond.static y ∈ wsL_law) (h4 : Cond.initialized y.cls ∈ wsL_law) (h5 : Cond.codeWith y c n ret hh ∈ wsL_law) : GoodIn wsL2 (va_wsS own idx y (wsW_ y c n ret hh)) := fun w hw => by
  rcases List.mem_append.mp hw with hw | hw
  · simp only [List.mem_cons, List.not_mem_nil, or_false] at hw
    rcases hw with rfl | rfl | rfl
    · exact gd2_ (wsL2_in _ h1)
    · exact gd2_ (wsL2_in _ h2)
    · exact gd2_ (wsL2_in _ h4)
  · rcases List.mem_cons.mp hw with rfl | hw
    · exact gd2_ (wsL2_in _ h5)
    · exact gd2_ hw
theorem TW.blind {D : va_G} {wc : va_W} {sz : Nat} {av : List Value} : FrameBlind (va_Pc av (TW D wc sz)) := fun a U g mk h => ⟨h.1, h.2.1, GK.vm (U := U.calling g mk a) rfl h.2.2.1, h.2.2.2.1, ⟨h.2.2.2.2.1.moved (Vm.Alike.refl U.vm), h.2.2.2.2.2.moved (Vm.Alike.refl U.vm)⟩⟩
theorem TW.pre {D : va_G} {wc : va_W} {H : Heap} {s : State} {As : List Value} (hG : GK D s) (hP : va_P D cls wc H) (hZ : ZU (va_A [] H.size) s H) : ∀ U : State, U.heap = H → s.WarmedH U.vm → va_Pc As (TW D wc H.size) As.toArray U := fun U hU hW => ⟨rfl, by rw [hU], GK.warm hW hG, by rw [hU]; exact hP, by rw [hU]; exact ⟨hZ.1.moved hW.alike, hZ.2.moved hW.alike⟩⟩
section ROWSL
variable {p : Program} {l : Launch} {e : Env} {R : Room} {s : State} {m : MethodId} {args : Array Value} {below : List Frame} {meth : Method} {c : Code} {H : Heap} {locs : List Loc} {cells slots : Nat} {Q : State → Prop}
variable {cc : ByteArray} {pc : Nat} {ls : Array Slot} {rest : List Value} {D : va_G} {A : Nat → Prop} {a : Nat} {ws : va_W} {H0 : Heap}
theorem lst (hx : p.tables.exec = Jvm.exec) (hb : c.code = cc) (hG : GK D s) (hP : va_P D cls ws H) (hD : va_D A ws) (hS : va_S A H0 H locs) (q0 : Nat) {n j : Nat} {f : Nat → Int64} {x : Int64} (ha : ws[q0]? = some (aL D a n f)) (hj : j < n) (hn : n < 2 ^ 31) (hdg : decode cc pc = .ok (.lastore, 1))
    (kk : ∀ (H1 : Heap) (locs1 : List Loc), va_P D cls (ws.set q0 (aL D a n (vp_updL f j x))) H1 → va_D A (ws.set q0 (aL D a n (vp_updL f j x))) → va_S A H0 H1 locs1 → W p l e R s m args below meth c H1 locs1 cells slots Q (F0 m (pc + 1) ls rest)) : W p l e R s m args below meth c H locs cells slots Q (F0 m pc ls (.long x :: .int (nI j) :: .ref a :: rest)) :=
  va_last hx hb hG.K hP hD hS q0 1 ha rfl (vp_in_nI hj hn) hdg (by rw [nI_clamp (Nat.lt_trans hj hn)]; exact kk)
theorem dst (hx : p.tables.exec = Jvm.exec) (hb : c.code = cc) (hG : GK D s) (hP : va_P D cls ws H) (hD : va_D A ws) (hS : va_S A H0 H locs) (q0 : Nat) {n j : Nat} {f : Nat → UInt64} {x : UInt64} (ha : ws[q0]? = some (aD D a n f)) (hj : j < n) (hn : n < 2 ^ 31) (hdg : decode cc pc = .ok (.dastore, 1))
    (kk : ∀ (H1 : Heap) (locs1 : List Loc), va_P D cls (ws.set q0 (aD D a n (vf_upd f j x))) H1 → va_D A (ws.set q0 (aD D a n (vf_upd f j x))) → va_S A H0 H1 locs1 → W p l e R s m args below meth c H1 locs1 cells slots Q (F0 m (pc + 1) ls rest)) : W p l e R s m args below meth c H locs cells slots Q (F0 m pc ls (.double x :: .int (nI j) :: .ref a :: rest)) :=
  va_dast hx hb hG.K hP hD hS q0 2 ha rfl (vp_in_nI hj hn) hdg (by rw [nI_clamp (Nat.lt_trans hj hn)]; exact kk)
theorem lld (hx : p.tables.exec = Jvm.exec) (hb : c.code = cc) (hG : GK D s) (hP : va_P D cls ws H) (q0 : Nat) {n j : Nat} {f : Nat → Int64} (ha : ws[q0]? = some (aL D a n f)) (hj : j < n) (hn : n < 2 ^ 31) (hdg : decode cc pc = .ok (.laload, 1))
    (kk : W p l e R s m args below meth c H locs cells slots Q (F0 m (pc + 1) ls (.long (f j) :: rest))) : W p l e R s m args below meth c H locs cells slots Q (F0 m pc ls (.int (nI j) :: .ref a :: rest)) :=
  va_lald hx hb hG.K hP q0 1 ha rfl (vp_in_nI hj hn) hdg (by rw [nI_clamp (Nat.lt_trans hj hn)]; exact kk)
theorem dld (hx : p.tables.exec = Jvm.exec) (hb : c.code = cc) (hG : GK D s) (hP : va_P D cls ws H) (q0 : Nat) {n j : Nat} {f : Nat → UInt64} (ha : ws[q0]? = some (aD D a n f)) (hj : j < n) (hn : n < 2 ^ 31) (hdg : decode cc pc = .ok (.daload, 1))
    (kk : W p l e R s m args below meth c H locs cells slots Q (F0 m (pc + 1) ls (.double (f j) :: rest))) : W p l e R s m args below meth c H locs cells slots Q (F0 m pc ls (.int (nI j) :: .ref a :: rest)) :=
  va_dald hx hb hG.K hP q0 2 ha rfl (vp_in_nI hj hn) hdg (by rw [nI_clamp (Nat.lt_trans hj hn)]; exact kk)
end ROWSL
section CALLH
variable {p : Program} {l : Launch} {e : Env} {R : Room} {s : State} {m : MethodId} {args : Array Value} {below : List Frame} {meth : Method} {c : Code} {H : Heap} {locs : List Loc} {cells slots : Nat} {Q : State → Prop}
variable {y : MethodName} {bytes cc : ByteArray} {maxL nL index pc : Nat} {ret : Option FieldType} {rm : Room} {own : String} {b ci : Nat} {st0 rest : List Value} {ls : Array Slot} {D : va_G} {wc : va_W} {fs : List Value} {qc : vw_C}
/-- a call of a method that throws -/
theorem rX {XC : String → State → State → Prop} {free : Addr → Prop} (As : List Value) (n : Nat) {Qc : Array Value → State → Outcome → State → Prop} (S : CallFix p m c cc nL s args wsL_law own) (hM : vx_Met l y (ws_ y bytes maxL ret) rm (va_Pc (.ref b :: As) (TW D wc H.size)) Qc XC 1 6 free) (hc : cls[ci]? = some qc) (hA : va_at D cls (b, .inr (ci, fs)) H) (g : GoodIn wsL_law (wsV own index qc.1 y (ws_ y bytes maxL ret))) (hd : y.cls = qc.1 ∧ y.cls ≠ "java/lang/invoke/MethodHandle" ∧ y.cls ≠ "java/lang/invoke/VarHandle" ∧ (parseMethodDescriptor y.desc).map (fun d => d.parameters.length) = some n) (hrc : rm.cells = 1) (hrs : rm.slots = 6) (hR : rm.frames + 1 ≤ R.frames ∧ 8 + (maxL + 11) + rm.locals ≤ R.locals) (hG : GK D s) (hP : va_P D cls wc H) (hZ : ZU (va_A [] H.size) s H) (hn : As.length = n) (hsize : ls.size = nL) (hst : st0 = As.reverse ++ .ref b :: rest) (hW : (rest.map fun v => v.category).sum ≤ 8) (hdg : decode cc pc = .ok (.invokevirtual index, 3)) (hcs : cells + 1 ≤ R.cells ∧ slots + 6 ≤ R.slots) :
    vx_Run p l e R s m args below meth c H locs cells slots 1 6 (F0 m pc ls st0) rest (Qc (.ref b :: As).toArray) XC free :=
  vx_runV S hM (cwV n S.2.2.2.2 g rfl hrc hrs hd hR) ⟨TW.blind, rcv hG hA hc, TW.pre hG hP hZ⟩ rfl hn hsize hst (lv_room hW) hdg hcs
/-- calls of the law's own methods, whose tables catch -/
theorem rSW (As : List Value) (n mc ms : Nat) {hh : List (Nat × Nat × Nat × Nat)} {Pc : Array Value → State → Prop} {free : Addr → Prop} {Qc : Array Value → State → Outcome → State → Prop} (S : CallFix p m c cc nL s args wsL2 own) (hM : Met l y (wsW_ y bytes maxL ret hh) rm Pc Qc mc ms free) (hbl : FrameBlind Pc) (hpre : ∀ U : State, U.heap = H → s.WarmedH U.vm → Pc As.toArray U) (g : GoodIn wsL2 (va_wsS own index y (wsW_ y bytes maxL ret hh))) (hd : y.cls ≠ "java/lang/invoke/MethodHandle" ∧ y.cls ≠ "java/lang/invoke/VarHandle" ∧ (parseMethodDescriptor y.desc).map (fun d => d.parameters.length) = some n) (hrc : rm.cells = mc) (hrs : rm.slots = ms) (hR : rm.frames + 1 ≤ R.frames ∧ 8 + (maxL + 11) + rm.locals ≤ R.locals) (hn : As.length = n) (hsize : ls.size = nL) (hst : st0 = As.reverse ++ rest) (hW : (rest.map fun v => v.category).sum ≤ 8) (hdg : decode cc pc = .ok (.invokestatic index, 3)) (hcs : cells + mc ≤ R.cells ∧ slots + ms ≤ R.slots) :
    va_Run p l e R s m args below meth c H locs cells slots mc ms (F0 m pc ls st0) rest (Qc As.toArray) free :=
  vx_runSW S hM (vx_cwSW n S.2.2.2.2 g rfl hrc hrs hd hR) ⟨hbl, hpre⟩ rfl hn hsize hst (lv_room hW) hdg hcs
variable {ws wr : va_W} {A0 : Nat → Prop} {H0 : Heap} {mc ms : Nat} {a : Array Value}
theorem kd {S : Type} {post : UInt64 → S → Prop} {w1 : S → va_W} (hr : va_Run p l e R s m args below meth c H locs cells slots mc ms (F0 m pc ls st0) rest (va_Qd post (AT D (va_A wc H.size) w1) (va_A wc H.size) a) (va_A wc H.size)) (hP : va_P D cls ws H) (hD : va_D A0 ws) (hS : va_S A0 H0 H locs) (hA : ∀ q, H0.size ≤ q → A0 q) (isC isR : List Nat) (hC : isC.map (fun i => ws[i]?) = wc.map some) (hR : isR.map (fun i => ws[i]?) = wr.map some) (hn : va_nd isR = true) (hdis : ∀ i ∈ isR, i ∉ isC)
    (kk : ∀ (r : UInt64) (u : S) (H1 : Heap) (locs1 : List Loc), post r u → va_P D cls (wr ++ w1 u) H1 → va_D A0 (wr ++ w1 u) → va_S A0 H0 H1 locs1 → H.size ≤ H1.size → (∀ q : Nat, q < H.size → ¬ va_A wc H.size q → H1[q]? = H[q]?) → W p l e R s m args below meth c H1 locs1 (cells + mc) (slots + ms) Q (F0 m (pc + 3) ls (.double r :: rest))) : W p l e R s m args below meth c H locs cells slots Q (F0 m pc ls st0) :=
  va_calld hr hS (va_free' hD hS hA isC hC).1 (va_free' hD hS hA isC hC).2 fun r u t H1 locs1 ht _ hp hB hz hk hS1 => by
    obtain ⟨hP1, hD1⟩ := hB
    rw [ht] at hP1
    obtain ⟨hP2, hD2⟩ := va_join hP hD isC isR hC hR hn hdis hk (va_free' hD hS hA isC hC).2 hP1 hD1
    exact kk r u H1 locs1 hp hP2 hD2 hS1 hz hk
end CALLH
set_option maxHeartbeats 400000 in
set_option maxRecDepth 100000 in
theorem h_addClip_1 (l : Launch) (D : va_G) (hns : l.stackTraces = false) {xo lc lt bo yo no : Nat} {x : Int32} {ou : Nat} (hz0 : Nat) (h : ¬ (1 ≤ x ∧ x ≤ 2000)) : Met l yL_addClip (wsW_ yL_addClip cL_addClip 4 (some .int) [(0, 9, 12, 13), (0, 9, 15, 15)]) ({ frames := 7, cells := 1, slots := 6, locals := 187 } : Room) (va_Pc [.ref xo, .int x, .ref ou] (TW D [oO xo 5 [.ref lc, .ref lt, .ref bo, .ref yo, .ref no]] hz0)) (va_Qi (fun r (_ : Unit) => r = 1) (fun _ _ => True) (va_A [] hz0)) 1 6 (va_A [] hz0) := by
  refine va_MetW (hh := [(0, 9, 12, 13), (0, 9, 15, 15)]) (cc := cL_addClip) (maxL := 4) (ret := (some .int)) (by decide +kernel) rfl ?_
  intro p e s m args below meth c s₁ B hml hv
  obtain ⟨rfl, hsz, hG, hP, hZ⟩ := hv
  subst hsz
  have hx := B.exec
  have hb := B.bytes
  have hr := B.returns
  have hts : ∀ w ∈ wsL_law, w.before _ s = true := fun w h => atoms_spec (ws := (wsW_ yL_addClip cL_addClip 4 (some .int) [(0, 9, 12, 13), (0, 9, 15, 15)])) B.pre w (List.mem_cons_of_mem _ (wsL2_in w h))
  have hk15 : (Cond.classLink RL 15 "java/lang/IllegalStateException").before _ s = true := atoms_spec (ws := (wsW_ yL_addClip cL_addClip 4 (some .int) [(0, 9, 12, 13), (0, 9, 15, 15)])) B.pre _ (List.mem_cons_of_mem _ List.mem_cons_self)
  have hown : s.vm.findClass RL = some m.cls := findClass_of_methodNamed B.named
  have hlk := B.notSynchronized
  have hC : CallFix p m c cL_addClip 4 s _ wsL_law RL := ⟨hx, hb, hml, hown, hts⟩
  have hS : va_S (va_A [] s.heap.size) s.heap s.heap [] := va_S.rf
  have hl := lv_entry ([.ref xo, .int x, .ref ou]) (n := 4) (Nat.le_of_ble_eq_true rfl)
  rw [lg_entry_eq]
  generalize (lg_sl ([.ref xo, .int x, .ref ou]) ++ List.replicate (4 - (lg_sl ([.ref xo, .int x, .ref ou])).length) Slot.unset).toArray = ls at hl ⊢
  have hl : lv_has ls 4 [(0, .ref xo), (1, .int x), (2, .ref ou)] := hl
  refine lv_aload_n hx hb dL_addClip_0 rfl (lv_at hl 2 rfl) ?_
  refine lv_iconst (v := 0) hx hb dL_addClip_1 (by decide) ?_
  refine lv_aload_n hx hb dL_addClip_2 rfl (lv_at hl 0 rfl) ?_
  refine lv_iload_n hx hb dL_addClip_3 rfl (lv_at hl 1 rfl) ?_
  have hP9 : va_P D cls [] s.heap := fun k q h => by simp at h
  refine vx_calli (A0 := va_A [] s.heap.size) (rX (rest := [.int 0, .ref ou]) (qc := (RX5, TX5, 5)) [.int x] 1 hC (t_addClip_1 l D hns (xo := xo) (lc := lc) (lt := lt) (bo := bo) (yo := yo) (no := no) (x := x) (hz0 := s.heap.size) (h)) rfl (hP 0 _ rfl) (gV mM_L_7 mI_X5_addClip mS_X5_addClip mN_X5 mC_X5_addClip) (by decide +kernel) rfl rfl ⟨Nat.le_of_ble_eq_true rfl, Nat.le_of_ble_eq_true rfl⟩ hG hP9 hZ rfl hl.1 rfl (Nat.le_of_ble_eq_true rfl) dL_addClip_4 ⟨Nat.le_of_ble_eq_true rfl, Nat.le_of_ble_eq_true rfl⟩) hS (fun q _ h => h) (fun q h => h) (fun q _ h => h) (fun E ce q9 u9 t H1 locs1 ht hvm hp9 hB hz hk hS1 hce hcv hcl => ?_) (fun r u t H1 locs1 ht hvm hp9 _ _ _ _ => hp9.elim)
  obtain rfl : E = "java/lang/IllegalArgumentException" := hB
  have htb := vx_table (x := yL_addClip) B (hts _ mW_L_addClip)
  refine vx_catch (own := RL) (name := "java/lang/IllegalArgumentException") (pc := 4) (rest := [.int 0, .ref ou]) hown [] ⟨0, 9, 12, 13⟩ [⟨0, 9, 15, 15⟩] (by rw [htb]; rfl) (fun z hz9 => absurd hz9 List.not_mem_nil) rfl (by decide) (hts _ mK_L_13) (va_Nw.use rfl (gkC hG 2 rfl)) hce hcv hcl ?_
  refine lv_astore_n (lv' := [(3, .ref q9), (0, .ref xo), (1, .int x), (2, .ref ou)]) hx hb dL_addClip_12 rfl hl (by decide) rfl (fun ls hl => ?_)
  refine lv_iconst (v := 1) hx hb dL_addClip_13 (by decide) ?_
  exact W.iret (v := 1) hx hb hr (fun t ht _ => ⟨⟨_, (), rfl, rfl, trivial⟩, hS1.F ht⟩) hS1.2.2 dL_addClip_14 hlk
set_option maxHeartbeats 400000 in
set_option maxRecDepth 100000 in
theorem h_addClip_2 (l : Launch) (D : va_G) (hns : l.stackTraces = false) {xo lc lt bo yo no : Nat} {ec nC : Nat} {m1 : Int32} {x : Int32} {ou : Nat} (hz0 : Nat) (h : 1 ≤ x ∧ x ≤ 2000) (hnC : nC = 6) : Met l yL_addClip (wsW_ yL_addClip cL_addClip 4 (some .int) [(0, 9, 12, 13), (0, 9, 15, 15)]) ({ frames := 7, cells := 1, slots := 6, locals := 187 } : Room) (va_Pc [.ref xo, .int x, .ref ou] (TW D [oO xo 5 [.ref lc, .ref lt, .ref bo, .ref yo, .ref no], oO lc 7 [.int m1, .ref ec, .int (nI nC)]] hz0)) (va_Qi (fun r (_ : Unit) => r = 2) (fun _ _ => True) (va_A [] hz0)) 1 6 (va_A [] hz0) := by
  refine va_MetW (hh := [(0, 9, 12, 13), (0, 9, 15, 15)]) (cc := cL_addClip) (maxL := 4) (ret := (some .int)) (by decide +kernel) rfl ?_
  intro p e s m args below meth c s₁ B hml hv
  obtain ⟨rfl, hsz, hG, hP, hZ⟩ := hv
  subst hsz
  have hx := B.exec
  have hb := B.bytes
  have hr := B.returns
  have hts : ∀ w ∈ wsL_law, w.before _ s = true := fun w h => atoms_spec (ws := (wsW_ yL_addClip cL_addClip 4 (some .int) [(0, 9, 12, 13), (0, 9, 15, 15)])) B.pre w (List.mem_cons_of_mem _ (wsL2_in w h))
  have hk15 : (Cond.classLink RL 15 "java/lang/IllegalStateException").before _ s = true := atoms_spec (ws := (wsW_ yL_addClip cL_addClip 4 (some .int) [(0, 9, 12, 13), (0, 9, 15, 15)])) B.pre _ (List.mem_cons_of_mem _ List.mem_cons_self)
  have hown : s.vm.findClass RL = some m.cls := findClass_of_methodNamed B.named
  have hlk := B.notSynchronized
  have hC : CallFix p m c cL_addClip 4 s _ wsL_law RL := ⟨hx, hb, hml, hown, hts⟩
  have hS : va_S (va_A [] s.heap.size) s.heap s.heap [] := va_S.rf
  have hl := lv_entry ([.ref xo, .int x, .ref ou]) (n := 4) (Nat.le_of_ble_eq_true rfl)
  rw [lg_entry_eq]
  generalize (lg_sl ([.ref xo, .int x, .ref ou]) ++ List.replicate (4 - (lg_sl ([.ref xo, .int x, .ref ou])).length) Slot.unset).toArray = ls at hl ⊢
  have hl : lv_has ls 4 [(0, .ref xo), (1, .int x), (2, .ref ou)] := hl
  refine lv_aload_n hx hb dL_addClip_0 rfl (lv_at hl 2 rfl) ?_
  refine lv_iconst (v := 0) hx hb dL_addClip_1 (by decide) ?_
  refine lv_aload_n hx hb dL_addClip_2 rfl (lv_at hl 0 rfl) ?_
  refine lv_iload_n hx hb dL_addClip_3 rfl (lv_at hl 1 rfl) ?_
  have hP9 := hP.sub (ws' := [oO xo 5 [.ref lc, .ref lt, .ref bo, .ref yo, .ref no], oO lc 7 [.int m1, .ref ec, .int (nI nC)]]) [0, 1] rfl
  refine vx_calli (A0 := va_A [] s.heap.size) (rX (rest := [.int 0, .ref ou]) (qc := (RX5, TX5, 5)) [.int x] 1 hC (t_addClip_2 l D hns (xo := xo) (lc := lc) (lt := lt) (bo := bo) (yo := yo) (no := no) (ec := ec) (nC := nC) (m1 := m1) (x := x) (hz0 := s.heap.size) (h) (hnC)) rfl (hP 0 _ rfl) (gV mM_L_7 mI_X5_addClip mS_X5_addClip mN_X5 mC_X5_addClip) (by decide +kernel) rfl rfl ⟨Nat.le_of_ble_eq_true rfl, Nat.le_of_ble_eq_true rfl⟩ hG hP9 hZ rfl hl.1 rfl (Nat.le_of_ble_eq_true rfl) dL_addClip_4 ⟨Nat.le_of_ble_eq_true rfl, Nat.le_of_ble_eq_true rfl⟩) hS (fun q _ h => h) (fun q h => h) (fun q _ h => h) (fun E ce q9 u9 t H1 locs1 ht hvm hp9 hB hz hk hS1 hce hcv hcl => ?_) (fun r u t H1 locs1 ht hvm hp9 _ _ _ _ => hp9.elim)
  obtain rfl : E = "java/lang/IllegalStateException" := hB
  have htb := vx_table (x := yL_addClip) B (hts _ mW_L_addClip)
  refine vx_catch (own := RL) (name := "java/lang/IllegalStateException") (pc := 4) (rest := [.int 0, .ref ou]) hown [⟨0, 9, 12, 13⟩] ⟨0, 9, 15, 15⟩ [] (by rw [htb]; rfl) (fun z hz9 => by
    simp only [List.mem_cons, List.not_mem_nil, or_false] at hz9
    rcases hz9 with rfl
    · exact Or.inr ⟨by decide, _, hts _ mK_L_13, gkN hG 2 rfl⟩) rfl (by decide) (hk15) (va_Nw.use rfl (gkC hG 3 rfl)) hce hcv hcl ?_
  refine lv_astore_n (lv' := [(3, .ref q9), (0, .ref xo), (1, .int x), (2, .ref ou)]) hx hb dL_addClip_15 rfl hl (by decide) rfl (fun ls hl => ?_)
  refine lv_iconst (v := 2) hx hb dL_addClip_16 (by decide) ?_
  exact W.iret (v := 2) hx hb hr (fun t ht _ => ⟨⟨_, (), rfl, rfl, trivial⟩, hS1.F ht⟩) hS1.2.2 dL_addClip_17 hlk
set_option maxHeartbeats 400000 in
set_option maxRecDepth 100000 in
theorem l_addClip (l : Launch) (D : va_G) {xo lc lt bo yo no : Nat} {ec nC : Nat} {m1 : Int32} {cl : Nat → Nat} {x : Int32} {ou : Nat} {wf : Nat → Int64} (hz0 : Nat) (h : 1 ≤ x ∧ x ≤ 2000) (hnC : nC < 6) : Met l yL_addClip (wsW_ yL_addClip cL_addClip 4 (some .int) [(0, 9, 12, 13), (0, 9, 15, 15)]) ({ frames := 7, cells := 34, slots := 256, locals := 187 } : Room) (va_Pc [.ref xo, .int x, .ref ou] (SW D [oO xo 5 [.ref lc, .ref lt, .ref bo, .ref yo, .ref no], oO lc 7 [.int m1, .ref ec, .int (nI nC)], aO D ec 10 (lsF cl nC), aL D ou 1 wf] hz0)) (va_Qi (fun r _ => r = 0) (AT D (va_A [oO xo 5 [.ref lc, .ref lt, .ref bo, .ref yo, .ref no], oO lc 7 [.int m1, .ref ec, .int (nI nC)], aO D ec 10 (lsF cl nC), aL D ou 1 wf] hz0) (fun ((co, ta, q, b, t, r, a) : Nat × Nat × (Nat → Nat) × (Nat → Nat) × (Nat → Nat) × (Nat → Nat) × (Nat → Nat)) => [oO xo 5 [.ref lc, .ref lt, .ref bo, .ref yo, .ref no], oO lc 7 [.int (m1 + 1), .ref ec, .int (nI (nC + 1))], aO D ec 10 (lsF (fun k => if k = nC then co else cl k) (nC + 1)), oO co 0 [.int x, .ref ta, .ref (q 0), .ref (q 1)], aT D ta 4 (tkF t), oO (q 0) 2 [.ref (b 0), .int (nI 0)], oO (q 1) 2 [.ref (b 1), .int (nI 0)], aI D (b 0) 8 (fun _ => 0), aI D (b 1) 8 (fun _ => 0), oO (t 0) 4 [.ref (r 0), .ref (r 1), .ref (r 2)], oO (r 0) 2 [.ref (a 0), .int (nI 0)], oO (r 1) 2 [.ref (a 1), .int (nI 0)], oO (r 2) 2 [.ref (a 2), .int (nI 0)], aI D (a 0) 16 (fun _ => 0), aI D (a 1) 16 (fun _ => 0), aI D (a 2) 16 (fun _ => 0), oO (t 1) 4 [.ref (r 3), .ref (r 4), .ref (r 5)], oO (r 3) 2 [.ref (a 3), .int (nI 0)], oO (r 4) 2 [.ref (a 4), .int (nI 0)], oO (r 5) 2 [.ref (a 5), .int (nI 0)], aI D (a 3) 16 (fun _ => 0), aI D (a 4) 16 (fun _ => 0), aI D (a 5) 16 (fun _ => 0), oO (t 2) 4 [.ref (r 6), .ref (r 7), .ref (r 8)], oO (r 6) 2 [.ref (a 6), .int (nI 0)], oO (r 7) 2 [.ref (a 7), .int (nI 0)], oO (r 8) 2 [.ref (a 8), .int (nI 0)], aI D (a 6) 16 (fun _ => 0), aI D (a 7) 16 (fun _ => 0), aI D (a 8) 16 (fun _ => 0), oO (t 3) 4 [.ref (r 9), .ref (r 10), .ref (r 11)], oO (r 9) 2 [.ref (a 9), .int (nI 0)], oO (r 10) 2 [.ref (a 10), .int (nI 0)], oO (r 11) 2 [.ref (a 11), .int (nI 0)], aI D (a 9) 16 (fun _ => 0), aI D (a 10) 16 (fun _ => 0), aI D (a 11) 16 (fun _ => 0), aL D ou 1 (vp_updL wf 0 (nI nC).toInt64)])) (va_A [oO xo 5 [.ref lc, .ref lt, .ref bo, .ref yo, .ref no], oO lc 7 [.int m1, .ref ec, .int (nI nC)], aO D ec 10 (lsF cl nC), aL D ou 1 wf] hz0)) 34 256 (va_A [oO xo 5 [.ref lc, .ref lt, .ref bo, .ref yo, .ref no], oO lc 7 [.int m1, .ref ec, .int (nI nC)], aO D ec 10 (lsF cl nC), aL D ou 1 wf] hz0) := by
  refine va_MetW (hh := [(0, 9, 12, 13), (0, 9, 15, 15)]) (cc := cL_addClip) (maxL := 4) (ret := (some .int)) (by decide +kernel) rfl ?_
  intro p e s m args below meth c s₁ B hml hv
  obtain ⟨rfl, hsz, hG, hP, hD0⟩ := hv
  have hx := B.exec
  have hb := B.bytes
  have hr := B.returns
  have hts : ∀ w ∈ wsL_law, w.before _ s = true := fun w h => atoms_spec (ws := (wsW_ yL_addClip cL_addClip 4 (some .int) [(0, 9, 12, 13), (0, 9, 15, 15)])) B.pre w (List.mem_cons_of_mem _ (wsL2_in w h))
  have hown : s.vm.findClass RL = some m.cls := findClass_of_methodNamed B.named
  have hlk := B.notSynchronized
  have hC : CallFix p m c cL_addClip 4 s _ wsL_law RL := ⟨hx, hb, hml, hown, hts⟩
  subst hsz
  have hD := hD0.self (sz := s.heap.size)
  generalize hAe : va_A [oO xo 5 [.ref lc, .ref lt, .ref bo, .ref yo, .ref no], oO lc 7 [.int m1, .ref ec, .int (nI nC)], aO D ec 10 (lsF cl nC), aL D ou 1 wf] s.heap.size = A at hD ⊢
  have hA : ∀ q : Nat, s.heap.size ≤ q → A q := fun q h => by rw [← hAe]; exact Or.inr h
  have hS : va_S A s.heap s.heap [] := va_S.rf
  obtain ⟨H, hHe⟩ : ∃ H, H = s.heap := ⟨_, rfl⟩
  rw [← hHe] at hP
  have hS : va_S A s.heap H [] := by rw [hHe]; exact hS
  have hl := lv_entry ([.ref xo, .int x, .ref ou]) (n := 4) (Nat.le_of_ble_eq_true rfl)
  rw [lg_entry_eq]
  generalize (lg_sl ([.ref xo, .int x, .ref ou]) ++ List.replicate (4 - (lg_sl ([.ref xo, .int x, .ref ou])).length) Slot.unset).toArray = ls at hl ⊢
  have hl : lv_has ls 4 [(0, .ref xo), (1, .int x), (2, .ref ou)] := hl
  rw [← hHe]
  refine lv_aload_n hx hb dL_addClip_0 rfl (lv_at hl 2 rfl) ?_
  refine lv_iconst (v := 0) hx hb dL_addClip_1 (by decide) ?_
  refine lv_aload_n hx hb dL_addClip_2 rfl (lv_at hl 0 rfl) ?_
  refine lv_iload_n hx hb dL_addClip_3 rfl (lv_at hl 1 rfl) ?_
  have hP9 := hP.sub (ws' := [oO xo 5 [.ref lc, .ref lt, .ref bo, .ref yo, .ref no], oO lc 7 [.int m1, .ref ec, .int (nI nC)], aO D ec 10 (lsF cl nC)]) [0, 1, 2] rfl
  have hD9 := (hD.sub (ws' := [oO xo 5 [.ref lc, .ref lt, .ref bo, .ref yo, .ref no], oO lc 7 [.int m1, .ref ec, .int (nI nC)], aO D ec 10 (lsF cl nC)]) [0, 1, 2] (by decide) rfl).weaken (B := fun _ => True) (fun _ _ _ _ => trivial)
  refine ki (wr := [aL D ou 1 wf]) (rV (rest := [.int 0, .ref ou]) (qc := (RX5, TX5, 5)) [.int x] 1 34 256 hC (c_addClip l D (xo := xo) (lc := lc) (lt := lt) (bo := bo) (yo := yo) (no := no) (ec := ec) (nC := nC) (m1 := m1) (cl := cl) (x := x) (hz0 := H.size) (h) (hnC)) rfl (hP 0 _ rfl) (gV mM_L_7 mI_X5_addClip mS_X5_addClip mN_X5 mC_X5_addClip) (by decide +kernel) rfl rfl ⟨Nat.le_of_ble_eq_true rfl, Nat.le_of_ble_eq_true rfl⟩ hG hP9 hD9 rfl hl.1 rfl (Nat.le_of_ble_eq_true rfl) dL_addClip_4 ⟨Nat.le_of_ble_eq_true rfl, Nat.le_of_ble_eq_true rfl⟩) hP hD hS hA [0, 1, 2] [3] rfl rfl (by decide) (by decide) (fun r4 u4 H locs h4 hP hD hS hz hfr => ?_)
  obtain ⟨co, ta, q, b, t, r, a⟩ := u4
  have hP : va_P D cls [aL D ou 1 wf, oO xo 5 [.ref lc, .ref lt, .ref bo, .ref yo, .ref no], oO lc 7 [.int (m1 + 1), .ref ec, .int (nI (nC + 1))], aO D ec 10 (lsF (fun k => if k = nC then co else cl k) (nC + 1)), oO co 0 [.int x, .ref ta, .ref (q 0), .ref (q 1)], aT D ta 4 (tkF t), oO (q 0) 2 [.ref (b 0), .int (nI 0)], oO (q 1) 2 [.ref (b 1), .int (nI 0)], aI D (b 0) 8 (fun _ => 0), aI D (b 1) 8 (fun _ => 0), oO (t 0) 4 [.ref (r 0), .ref (r 1), .ref (r 2)], oO (r 0) 2 [.ref (a 0), .int (nI 0)], oO (r 1) 2 [.ref (a 1), .int (nI 0)], oO (r 2) 2 [.ref (a 2), .int (nI 0)], aI D (a 0) 16 (fun _ => 0), aI D (a 1) 16 (fun _ => 0), aI D (a 2) 16 (fun _ => 0), oO (t 1) 4 [.ref (r 3), .ref (r 4), .ref (r 5)], oO (r 3) 2 [.ref (a 3), .int (nI 0)], oO (r 4) 2 [.ref (a 4), .int (nI 0)], oO (r 5) 2 [.ref (a 5), .int (nI 0)], aI D (a 3) 16 (fun _ => 0), aI D (a 4) 16 (fun _ => 0), aI D (a 5) 16 (fun _ => 0), oO (t 2) 4 [.ref (r 6), .ref (r 7), .ref (r 8)], oO (r 6) 2 [.ref (a 6), .int (nI 0)], oO (r 7) 2 [.ref (a 7), .int (nI 0)], oO (r 8) 2 [.ref (a 8), .int (nI 0)], aI D (a 6) 16 (fun _ => 0), aI D (a 7) 16 (fun _ => 0), aI D (a 8) 16 (fun _ => 0), oO (t 3) 4 [.ref (r 9), .ref (r 10), .ref (r 11)], oO (r 9) 2 [.ref (a 9), .int (nI 0)], oO (r 10) 2 [.ref (a 10), .int (nI 0)], oO (r 11) 2 [.ref (a 11), .int (nI 0)], aI D (a 9) 16 (fun _ => 0), aI D (a 10) 16 (fun _ => 0), aI D (a 11) 16 (fun _ => 0)] H := hP
  have hD : va_D A [aL D ou 1 wf, oO xo 5 [.ref lc, .ref lt, .ref bo, .ref yo, .ref no], oO lc 7 [.int (m1 + 1), .ref ec, .int (nI (nC + 1))], aO D ec 10 (lsF (fun k => if k = nC then co else cl k) (nC + 1)), oO co 0 [.int x, .ref ta, .ref (q 0), .ref (q 1)], aT D ta 4 (tkF t), oO (q 0) 2 [.ref (b 0), .int (nI 0)], oO (q 1) 2 [.ref (b 1), .int (nI 0)], aI D (b 0) 8 (fun _ => 0), aI D (b 1) 8 (fun _ => 0), oO (t 0) 4 [.ref (r 0), .ref (r 1), .ref (r 2)], oO (r 0) 2 [.ref (a 0), .int (nI 0)], oO (r 1) 2 [.ref (a 1), .int (nI 0)], oO (r 2) 2 [.ref (a 2), .int (nI 0)], aI D (a 0) 16 (fun _ => 0), aI D (a 1) 16 (fun _ => 0), aI D (a 2) 16 (fun _ => 0), oO (t 1) 4 [.ref (r 3), .ref (r 4), .ref (r 5)], oO (r 3) 2 [.ref (a 3), .int (nI 0)], oO (r 4) 2 [.ref (a 4), .int (nI 0)], oO (r 5) 2 [.ref (a 5), .int (nI 0)], aI D (a 3) 16 (fun _ => 0), aI D (a 4) 16 (fun _ => 0), aI D (a 5) 16 (fun _ => 0), oO (t 2) 4 [.ref (r 6), .ref (r 7), .ref (r 8)], oO (r 6) 2 [.ref (a 6), .int (nI 0)], oO (r 7) 2 [.ref (a 7), .int (nI 0)], oO (r 8) 2 [.ref (a 8), .int (nI 0)], aI D (a 6) 16 (fun _ => 0), aI D (a 7) 16 (fun _ => 0), aI D (a 8) 16 (fun _ => 0), oO (t 3) 4 [.ref (r 9), .ref (r 10), .ref (r 11)], oO (r 9) 2 [.ref (a 9), .int (nI 0)], oO (r 10) 2 [.ref (a 10), .int (nI 0)], oO (r 11) 2 [.ref (a 11), .int (nI 0)], aI D (a 9) 16 (fun _ => 0), aI D (a 10) 16 (fun _ => 0), aI D (a 11) 16 (fun _ => 0)] := hD
  obtain rfl : r4 = (nI nC) := h4
  refine lv_i2l hx hb dL_addClip_7 rfl ?_
  refine lst (n := 1) (j := 0) hx hb hG hP hD hS 0 rfl (by omega) (by omega) dL_addClip_8 (fun H locs hP hD hS => ?_)
  have hP : va_P D cls [aL D ou 1 (vp_updL wf 0 ((nI nC).toInt64)), oO xo 5 [.ref lc, .ref lt, .ref bo, .ref yo, .ref no], oO lc 7 [.int (m1 + 1), .ref ec, .int (nI (nC + 1))], aO D ec 10 (lsF (fun k => if k = nC then co else cl k) (nC + 1)), oO co 0 [.int x, .ref ta, .ref (q 0), .ref (q 1)], aT D ta 4 (tkF t), oO (q 0) 2 [.ref (b 0), .int (nI 0)], oO (q 1) 2 [.ref (b 1), .int (nI 0)], aI D (b 0) 8 (fun _ => 0), aI D (b 1) 8 (fun _ => 0), oO (t 0) 4 [.ref (r 0), .ref (r 1), .ref (r 2)], oO (r 0) 2 [.ref (a 0), .int (nI 0)], oO (r 1) 2 [.ref (a 1), .int (nI 0)], oO (r 2) 2 [.ref (a 2), .int (nI 0)], aI D (a 0) 16 (fun _ => 0), aI D (a 1) 16 (fun _ => 0), aI D (a 2) 16 (fun _ => 0), oO (t 1) 4 [.ref (r 3), .ref (r 4), .ref (r 5)], oO (r 3) 2 [.ref (a 3), .int (nI 0)], oO (r 4) 2 [.ref (a 4), .int (nI 0)], oO (r 5) 2 [.ref (a 5), .int (nI 0)], aI D (a 3) 16 (fun _ => 0), aI D (a 4) 16 (fun _ => 0), aI D (a 5) 16 (fun _ => 0), oO (t 2) 4 [.ref (r 6), .ref (r 7), .ref (r 8)], oO (r 6) 2 [.ref (a 6), .int (nI 0)], oO (r 7) 2 [.ref (a 7), .int (nI 0)], oO (r 8) 2 [.ref (a 8), .int (nI 0)], aI D (a 6) 16 (fun _ => 0), aI D (a 7) 16 (fun _ => 0), aI D (a 8) 16 (fun _ => 0), oO (t 3) 4 [.ref (r 9), .ref (r 10), .ref (r 11)], oO (r 9) 2 [.ref (a 9), .int (nI 0)], oO (r 10) 2 [.ref (a 10), .int (nI 0)], oO (r 11) 2 [.ref (a 11), .int (nI 0)], aI D (a 9) 16 (fun _ => 0), aI D (a 10) 16 (fun _ => 0), aI D (a 11) 16 (fun _ => 0)] H := hP
  have hD : va_D A [aL D ou 1 (vp_updL wf 0 ((nI nC).toInt64)), oO xo 5 [.ref lc, .ref lt, .ref bo, .ref yo, .ref no], oO lc 7 [.int (m1 + 1), .ref ec, .int (nI (nC + 1))], aO D ec 10 (lsF (fun k => if k = nC then co else cl k) (nC + 1)), oO co 0 [.int x, .ref ta, .ref (q 0), .ref (q 1)], aT D ta 4 (tkF t), oO (q 0) 2 [.ref (b 0), .int (nI 0)], oO (q 1) 2 [.ref (b 1), .int (nI 0)], aI D (b 0) 8 (fun _ => 0), aI D (b 1) 8 (fun _ => 0), oO (t 0) 4 [.ref (r 0), .ref (r 1), .ref (r 2)], oO (r 0) 2 [.ref (a 0), .int (nI 0)], oO (r 1) 2 [.ref (a 1), .int (nI 0)], oO (r 2) 2 [.ref (a 2), .int (nI 0)], aI D (a 0) 16 (fun _ => 0), aI D (a 1) 16 (fun _ => 0), aI D (a 2) 16 (fun _ => 0), oO (t 1) 4 [.ref (r 3), .ref (r 4), .ref (r 5)], oO (r 3) 2 [.ref (a 3), .int (nI 0)], oO (r 4) 2 [.ref (a 4), .int (nI 0)], oO (r 5) 2 [.ref (a 5), .int (nI 0)], aI D (a 3) 16 (fun _ => 0), aI D (a 4) 16 (fun _ => 0), aI D (a 5) 16 (fun _ => 0), oO (t 2) 4 [.ref (r 6), .ref (r 7), .ref (r 8)], oO (r 6) 2 [.ref (a 6), .int (nI 0)], oO (r 7) 2 [.ref (a 7), .int (nI 0)], oO (r 8) 2 [.ref (a 8), .int (nI 0)], aI D (a 6) 16 (fun _ => 0), aI D (a 7) 16 (fun _ => 0), aI D (a 8) 16 (fun _ => 0), oO (t 3) 4 [.ref (r 9), .ref (r 10), .ref (r 11)], oO (r 9) 2 [.ref (a 9), .int (nI 0)], oO (r 10) 2 [.ref (a 10), .int (nI 0)], oO (r 11) 2 [.ref (a 11), .int (nI 0)], aI D (a 9) 16 (fun _ => 0), aI D (a 10) 16 (fun _ => 0), aI D (a 11) 16 (fun _ => 0)] := hD
  refine lv_goto (tgt := 18) hx hb dL_addClip_9 (by decide) ?_
  refine lv_iconst (v := 0) hx hb dL_addClip_18 (by decide) ?_
  refine Wi (co, ta, q, b, t, r, a) hx hb hr hlk ?_ (hP.sub [1, 2, 3, 4, 5, 6, 7, 8, 9, 10, 11, 12, 13, 14, 15, 16, 17, 18, 19, 20, 21, 22, 23, 24, 25, 26, 27, 28, 29, 30, 31, 32, 33, 34, 35, 36, 37, 0] rfl) (hD.sub [1, 2, 3, 4, 5, 6, 7, 8, 9, 10, 11, 12, 13, 14, 15, 16, 17, 18, 19, 20, 21, 22, 23, 24, 25, 26, 27, 28, 29, 30, 31, 32, 33, 34, 35, 36, 37, 0] (by decide) rfl) hS (Nat.le_of_ble_eq_true rfl) (by first | exact Nat.le_of_ble_eq_true rfl | exact Nat.le_of_eq (Nat.zero_add _)) dL_addClip_19
  exact rfl
set_option maxHeartbeats 400000 in
set_option maxRecDepth 100000 in
theorem l_addClip_first (l : Launch) (D : va_G) {xo lc lt bo yo no : Nat} {z : Nat} {m1 x : Int32} {ou : Nat} {wf : Nat → Int64} (hz0 : Nat) (h : 1 ≤ x ∧ x ≤ 2000) : Met l yL_addClip (wsW_ yL_addClip cL_addClip 4 (some .int) [(0, 9, 12, 13), (0, 9, 15, 15)]) ({ frames := 7, cells := 35, slots := 266, locals := 187 } : Room) (va_Pc [.ref xo, .int x, .ref ou] (SX D [oO xo 5 [.ref lc, .ref lt, .ref bo, .ref yo, .ref no], oO lc 7 [.int m1, .ref z, .int (nI 0)], aL D ou 1 wf] hz0 (ZL z (va_A [oO xo 5 [.ref lc, .ref lt, .ref bo, .ref yo, .ref no], oO lc 7 [.int m1, .ref z, .int (nI 0)], aL D ou 1 wf] hz0)))) (va_Qi (fun r _ => r = 0) (AT D (va_A [oO xo 5 [.ref lc, .ref lt, .ref bo, .ref yo, .ref no], oO lc 7 [.int m1, .ref z, .int (nI 0)], aL D ou 1 wf] hz0) (fun ((ec, co, ta, q, b, t, r, a) : Nat × Nat × Nat × (Nat → Nat) × (Nat → Nat) × (Nat → Nat) × (Nat → Nat) × (Nat → Nat)) => [oO xo 5 [.ref lc, .ref lt, .ref bo, .ref yo, .ref no], oO lc 7 [.int (m1 + 1), .ref ec, .int (nI 1)], aO D ec 10 (lsF (fun _ => co) 1), oO co 0 [.int x, .ref ta, .ref (q 0), .ref (q 1)], aT D ta 4 (tkF t), oO (q 0) 2 [.ref (b 0), .int (nI 0)], oO (q 1) 2 [.ref (b 1), .int (nI 0)], aI D (b 0) 8 (fun _ => 0), aI D (b 1) 8 (fun _ => 0), oO (t 0) 4 [.ref (r 0), .ref (r 1), .ref (r 2)], oO (r 0) 2 [.ref (a 0), .int (nI 0)], oO (r 1) 2 [.ref (a 1), .int (nI 0)], oO (r 2) 2 [.ref (a 2), .int (nI 0)], aI D (a 0) 16 (fun _ => 0), aI D (a 1) 16 (fun _ => 0), aI D (a 2) 16 (fun _ => 0), oO (t 1) 4 [.ref (r 3), .ref (r 4), .ref (r 5)], oO (r 3) 2 [.ref (a 3), .int (nI 0)], oO (r 4) 2 [.ref (a 4), .int (nI 0)], oO (r 5) 2 [.ref (a 5), .int (nI 0)], aI D (a 3) 16 (fun _ => 0), aI D (a 4) 16 (fun _ => 0), aI D (a 5) 16 (fun _ => 0), oO (t 2) 4 [.ref (r 6), .ref (r 7), .ref (r 8)], oO (r 6) 2 [.ref (a 6), .int (nI 0)], oO (r 7) 2 [.ref (a 7), .int (nI 0)], oO (r 8) 2 [.ref (a 8), .int (nI 0)], aI D (a 6) 16 (fun _ => 0), aI D (a 7) 16 (fun _ => 0), aI D (a 8) 16 (fun _ => 0), oO (t 3) 4 [.ref (r 9), .ref (r 10), .ref (r 11)], oO (r 9) 2 [.ref (a 9), .int (nI 0)], oO (r 10) 2 [.ref (a 10), .int (nI 0)], oO (r 11) 2 [.ref (a 11), .int (nI 0)], aI D (a 9) 16 (fun _ => 0), aI D (a 10) 16 (fun _ => 0), aI D (a 11) 16 (fun _ => 0), aL D ou 1 (vp_updL wf 0 (nI 0).toInt64)])) (va_A [oO xo 5 [.ref lc, .ref lt, .ref bo, .ref yo, .ref no], oO lc 7 [.int m1, .ref z, .int (nI 0)], aL D ou 1 wf] hz0)) 35 266 (va_A [oO xo 5 [.ref lc, .ref lt, .ref bo, .ref yo, .ref no], oO lc 7 [.int m1, .ref z, .int (nI 0)], aL D ou 1 wf] hz0) := by
  refine va_MetW (hh := [(0, 9, 12, 13), (0, 9, 15, 15)]) (cc := cL_addClip) (maxL := 4) (ret := (some .int)) (by decide +kernel) rfl ?_
  intro p e s m args below meth c s₁ B hml hv
  obtain ⟨rfl, ⟨hsz, hG, hP, hD0⟩, hX⟩ := hv
  have hx := B.exec
  have hb := B.bytes
  have hr := B.returns
  have hts : ∀ w ∈ wsL_law, w.before _ s = true := fun w h => atoms_spec (ws := (wsW_ yL_addClip cL_addClip 4 (some .int) [(0, 9, 12, 13), (0, 9, 15, 15)])) B.pre w (List.mem_cons_of_mem _ (wsL2_in w h))
  have hown : s.vm.findClass RL = some m.cls := findClass_of_methodNamed B.named
  have hlk := B.notSynchronized
  have hC : CallFix p m c cL_addClip 4 s _ wsL_law RL := ⟨hx, hb, hml, hown, hts⟩
  subst hsz
  have hD := hD0.self (sz := s.heap.size)
  generalize hAe : va_A [oO xo 5 [.ref lc, .ref lt, .ref bo, .ref yo, .ref no], oO lc 7 [.int m1, .ref z, .int (nI 0)], aL D ou 1 wf] s.heap.size = A at hD hX ⊢
  have hA : ∀ q : Nat, s.heap.size ≤ q → A q := fun q h => by rw [← hAe]; exact Or.inr h
  have hS : va_S A s.heap s.heap [] := va_S.rf
  obtain ⟨H, hHe⟩ : ∃ H, H = s.heap := ⟨_, rfl⟩
  rw [← hHe] at hP
  have hS : va_S A s.heap H [] := by rw [hHe]; exact hS
  have hl := lv_entry ([.ref xo, .int x, .ref ou]) (n := 4) (Nat.le_of_ble_eq_true rfl)
  rw [lg_entry_eq]
  generalize (lg_sl ([.ref xo, .int x, .ref ou]) ++ List.replicate (4 - (lg_sl ([.ref xo, .int x, .ref ou])).length) Slot.unset).toArray = ls at hl ⊢
  have hl : lv_has ls 4 [(0, .ref xo), (1, .int x), (2, .ref ou)] := hl
  rw [← hHe]
  refine lv_aload_n hx hb dL_addClip_0 rfl (lv_at hl 2 rfl) ?_
  refine lv_iconst (v := 0) hx hb dL_addClip_1 (by decide) ?_
  refine lv_aload_n hx hb dL_addClip_2 rfl (lv_at hl 0 rfl) ?_
  refine lv_iload_n hx hb dL_addClip_3 rfl (lv_at hl 1 rfl) ?_
  have hP9 := hP.sub (ws' := [oO xo 5 [.ref lc, .ref lt, .ref bo, .ref yo, .ref no], oO lc 7 [.int m1, .ref z, .int (nI 0)]]) [0, 1] rfl
  have hD9 := (hD.sub (ws' := [oO xo 5 [.ref lc, .ref lt, .ref bo, .ref yo, .ref no], oO lc 7 [.int m1, .ref z, .int (nI 0)]]) [0, 1] (by decide) rfl).weaken (B := fun _ => True) (fun _ _ _ _ => trivial)
  refine ki (wr := [aL D ou 1 wf]) (rVX (ZL.blind) (ZL.pre hX hS (va_free' hD hS hA [0, 1] rfl).2) (rest := [.int 0, .ref ou]) (qc := (RX5, TX5, 5)) [.int x] 1 35 266 hC (c_addClip_first l D (xo := xo) (lc := lc) (lt := lt) (bo := bo) (yo := yo) (no := no) (z := z) (m1 := m1) (x := x) (hz0 := H.size) (h)) rfl (hP 0 _ rfl) (gV mM_L_7 mI_X5_addClip mS_X5_addClip mN_X5 mC_X5_addClip) (by decide +kernel) rfl rfl ⟨Nat.le_of_ble_eq_true rfl, Nat.le_of_ble_eq_true rfl⟩ hG hP9 hD9 rfl hl.1 rfl (Nat.le_of_ble_eq_true rfl) dL_addClip_4 ⟨Nat.le_of_ble_eq_true rfl, Nat.le_of_ble_eq_true rfl⟩) hP hD hS hA [0, 1] [2] rfl rfl (by decide) (by decide) (fun r4 u4 H locs h4 hP hD hS hz hfr => ?_)
  obtain ⟨ec, co, ta, q, b, t, r, a⟩ := u4
  have hP : va_P D cls [aL D ou 1 wf, oO xo 5 [.ref lc, .ref lt, .ref bo, .ref yo, .ref no], oO lc 7 [.int (m1 + 1), .ref ec, .int (nI 1)], aO D ec 10 (lsF (fun _ => co) 1), oO co 0 [.int x, .ref ta, .ref (q 0), .ref (q 1)], aT D ta 4 (tkF t), oO (q 0) 2 [.ref (b 0), .int (nI 0)], oO (q 1) 2 [.ref (b 1), .int (nI 0)], aI D (b 0) 8 (fun _ => 0), aI D (b 1) 8 (fun _ => 0), oO (t 0) 4 [.ref (r 0), .ref (r 1), .ref (r 2)], oO (r 0) 2 [.ref (a 0), .int (nI 0)], oO (r 1) 2 [.ref (a 1), .int (nI 0)], oO (r 2) 2 [.ref (a 2), .int (nI 0)], aI D (a 0) 16 (fun _ => 0), aI D (a 1) 16 (fun _ => 0), aI D (a 2) 16 (fun _ => 0), oO (t 1) 4 [.ref (r 3), .ref (r 4), .ref (r 5)], oO (r 3) 2 [.ref (a 3), .int (nI 0)], oO (r 4) 2 [.ref (a 4), .int (nI 0)], oO (r 5) 2 [.ref (a 5), .int (nI 0)], aI D (a 3) 16 (fun _ => 0), aI D (a 4) 16 (fun _ => 0), aI D (a 5) 16 (fun _ => 0), oO (t 2) 4 [.ref (r 6), .ref (r 7), .ref (r 8)], oO (r 6) 2 [.ref (a 6), .int (nI 0)], oO (r 7) 2 [.ref (a 7), .int (nI 0)], oO (r 8) 2 [.ref (a 8), .int (nI 0)], aI D (a 6) 16 (fun _ => 0), aI D (a 7) 16 (fun _ => 0), aI D (a 8) 16 (fun _ => 0), oO (t 3) 4 [.ref (r 9), .ref (r 10), .ref (r 11)], oO (r 9) 2 [.ref (a 9), .int (nI 0)], oO (r 10) 2 [.ref (a 10), .int (nI 0)], oO (r 11) 2 [.ref (a 11), .int (nI 0)], aI D (a 9) 16 (fun _ => 0), aI D (a 10) 16 (fun _ => 0), aI D (a 11) 16 (fun _ => 0)] H := hP
  have hD : va_D A [aL D ou 1 wf, oO xo 5 [.ref lc, .ref lt, .ref bo, .ref yo, .ref no], oO lc 7 [.int (m1 + 1), .ref ec, .int (nI 1)], aO D ec 10 (lsF (fun _ => co) 1), oO co 0 [.int x, .ref ta, .ref (q 0), .ref (q 1)], aT D ta 4 (tkF t), oO (q 0) 2 [.ref (b 0), .int (nI 0)], oO (q 1) 2 [.ref (b 1), .int (nI 0)], aI D (b 0) 8 (fun _ => 0), aI D (b 1) 8 (fun _ => 0), oO (t 0) 4 [.ref (r 0), .ref (r 1), .ref (r 2)], oO (r 0) 2 [.ref (a 0), .int (nI 0)], oO (r 1) 2 [.ref (a 1), .int (nI 0)], oO (r 2) 2 [.ref (a 2), .int (nI 0)], aI D (a 0) 16 (fun _ => 0), aI D (a 1) 16 (fun _ => 0), aI D (a 2) 16 (fun _ => 0), oO (t 1) 4 [.ref (r 3), .ref (r 4), .ref (r 5)], oO (r 3) 2 [.ref (a 3), .int (nI 0)], oO (r 4) 2 [.ref (a 4), .int (nI 0)], oO (r 5) 2 [.ref (a 5), .int (nI 0)], aI D (a 3) 16 (fun _ => 0), aI D (a 4) 16 (fun _ => 0), aI D (a 5) 16 (fun _ => 0), oO (t 2) 4 [.ref (r 6), .ref (r 7), .ref (r 8)], oO (r 6) 2 [.ref (a 6), .int (nI 0)], oO (r 7) 2 [.ref (a 7), .int (nI 0)], oO (r 8) 2 [.ref (a 8), .int (nI 0)], aI D (a 6) 16 (fun _ => 0), aI D (a 7) 16 (fun _ => 0), aI D (a 8) 16 (fun _ => 0), oO (t 3) 4 [.ref (r 9), .ref (r 10), .ref (r 11)], oO (r 9) 2 [.ref (a 9), .int (nI 0)], oO (r 10) 2 [.ref (a 10), .int (nI 0)], oO (r 11) 2 [.ref (a 11), .int (nI 0)], aI D (a 9) 16 (fun _ => 0), aI D (a 10) 16 (fun _ => 0), aI D (a 11) 16 (fun _ => 0)] := hD
  obtain rfl : r4 = (nI 0) := h4
  refine lv_i2l hx hb dL_addClip_7 rfl ?_
  refine lst (n := 1) (j := 0) hx hb hG hP hD hS 0 rfl (by omega) (by omega) dL_addClip_8 (fun H locs hP hD hS => ?_)
  have hP : va_P D cls [aL D ou 1 (vp_updL wf 0 ((nI 0).toInt64)), oO xo 5 [.ref lc, .ref lt, .ref bo, .ref yo, .ref no], oO lc 7 [.int (m1 + 1), .ref ec, .int (nI 1)], aO D ec 10 (lsF (fun _ => co) 1), oO co 0 [.int x, .ref ta, .ref (q 0), .ref (q 1)], aT D ta 4 (tkF t), oO (q 0) 2 [.ref (b 0), .int (nI 0)], oO (q 1) 2 [.ref (b 1), .int (nI 0)], aI D (b 0) 8 (fun _ => 0), aI D (b 1) 8 (fun _ => 0), oO (t 0) 4 [.ref (r 0), .ref (r 1), .ref (r 2)], oO (r 0) 2 [.ref (a 0), .int (nI 0)], oO (r 1) 2 [.ref (a 1), .int (nI 0)], oO (r 2) 2 [.ref (a 2), .int (nI 0)], aI D (a 0) 16 (fun _ => 0), aI D (a 1) 16 (fun _ => 0), aI D (a 2) 16 (fun _ => 0), oO (t 1) 4 [.ref (r 3), .ref (r 4), .ref (r 5)], oO (r 3) 2 [.ref (a 3), .int (nI 0)], oO (r 4) 2 [.ref (a 4), .int (nI 0)], oO (r 5) 2 [.ref (a 5), .int (nI 0)], aI D (a 3) 16 (fun _ => 0), aI D (a 4) 16 (fun _ => 0), aI D (a 5) 16 (fun _ => 0), oO (t 2) 4 [.ref (r 6), .ref (r 7), .ref (r 8)], oO (r 6) 2 [.ref (a 6), .int (nI 0)], oO (r 7) 2 [.ref (a 7), .int (nI 0)], oO (r 8) 2 [.ref (a 8), .int (nI 0)], aI D (a 6) 16 (fun _ => 0), aI D (a 7) 16 (fun _ => 0), aI D (a 8) 16 (fun _ => 0), oO (t 3) 4 [.ref (r 9), .ref (r 10), .ref (r 11)], oO (r 9) 2 [.ref (a 9), .int (nI 0)], oO (r 10) 2 [.ref (a 10), .int (nI 0)], oO (r 11) 2 [.ref (a 11), .int (nI 0)], aI D (a 9) 16 (fun _ => 0), aI D (a 10) 16 (fun _ => 0), aI D (a 11) 16 (fun _ => 0)] H := hP
  have hD : va_D A [aL D ou 1 (vp_updL wf 0 ((nI 0).toInt64)), oO xo 5 [.ref lc, .ref lt, .ref bo, .ref yo, .ref no], oO lc 7 [.int (m1 + 1), .ref ec, .int (nI 1)], aO D ec 10 (lsF (fun _ => co) 1), oO co 0 [.int x, .ref ta, .ref (q 0), .ref (q 1)], aT D ta 4 (tkF t), oO (q 0) 2 [.ref (b 0), .int (nI 0)], oO (q 1) 2 [.ref (b 1), .int (nI 0)], aI D (b 0) 8 (fun _ => 0), aI D (b 1) 8 (fun _ => 0), oO (t 0) 4 [.ref (r 0), .ref (r 1), .ref (r 2)], oO (r 0) 2 [.ref (a 0), .int (nI 0)], oO (r 1) 2 [.ref (a 1), .int (nI 0)], oO (r 2) 2 [.ref (a 2), .int (nI 0)], aI D (a 0) 16 (fun _ => 0), aI D (a 1) 16 (fun _ => 0), aI D (a 2) 16 (fun _ => 0), oO (t 1) 4 [.ref (r 3), .ref (r 4), .ref (r 5)], oO (r 3) 2 [.ref (a 3), .int (nI 0)], oO (r 4) 2 [.ref (a 4), .int (nI 0)], oO (r 5) 2 [.ref (a 5), .int (nI 0)], aI D (a 3) 16 (fun _ => 0), aI D (a 4) 16 (fun _ => 0), aI D (a 5) 16 (fun _ => 0), oO (t 2) 4 [.ref (r 6), .ref (r 7), .ref (r 8)], oO (r 6) 2 [.ref (a 6), .int (nI 0)], oO (r 7) 2 [.ref (a 7), .int (nI 0)], oO (r 8) 2 [.ref (a 8), .int (nI 0)], aI D (a 6) 16 (fun _ => 0), aI D (a 7) 16 (fun _ => 0), aI D (a 8) 16 (fun _ => 0), oO (t 3) 4 [.ref (r 9), .ref (r 10), .ref (r 11)], oO (r 9) 2 [.ref (a 9), .int (nI 0)], oO (r 10) 2 [.ref (a 10), .int (nI 0)], oO (r 11) 2 [.ref (a 11), .int (nI 0)], aI D (a 9) 16 (fun _ => 0), aI D (a 10) 16 (fun _ => 0), aI D (a 11) 16 (fun _ => 0)] := hD
  refine lv_goto (tgt := 18) hx hb dL_addClip_9 (by decide) ?_
  refine lv_iconst (v := 0) hx hb dL_addClip_18 (by decide) ?_
  refine Wi (ec, co, ta, q, b, t, r, a) hx hb hr hlk ?_ (hP.sub [1, 2, 3, 4, 5, 6, 7, 8, 9, 10, 11, 12, 13, 14, 15, 16, 17, 18, 19, 20, 21, 22, 23, 24, 25, 26, 27, 28, 29, 30, 31, 32, 33, 34, 35, 36, 37, 0] rfl) (hD.sub [1, 2, 3, 4, 5, 6, 7, 8, 9, 10, 11, 12, 13, 14, 15, 16, 17, 18, 19, 20, 21, 22, 23, 24, 25, 26, 27, 28, 29, 30, 31, 32, 33, 34, 35, 36, 37, 0] (by decide) rfl) hS (Nat.le_of_ble_eq_true rfl) (by first | exact Nat.le_of_ble_eq_true rfl | exact Nat.le_of_eq (Nat.zero_add _)) dL_addClip_19
  exact rfl
set_option maxHeartbeats 400000 in
set_option maxRecDepth 100000 in
theorem h_clip_1 (l : Launch) (D : va_G) (hns : l.stackTraces = false) {xo lc lt bo yo no : Nat} {ec nC : Nat} {m1 : Int32} {x w : Int32} {ou : Nat} (hz0 : Nat) (hnC : nC ≤ 6) (hxx : x < 0 ∨ nI nC ≤ x) : Met l yL_clip (wsW_ yL_clip cL_clip 5 (some .int) [(0, 10, 13, 21)]) ({ frames := 7, cells := 1, slots := 6, locals := 125 } : Room) (va_Pc [.ref xo, .int x, .int w, .ref ou] (TW D [oO xo 5 [.ref lc, .ref lt, .ref bo, .ref yo, .ref no], oO lc 7 [.int m1, .ref ec, .int (nI nC)]] hz0)) (va_Qi (fun r (_ : Unit) => r = 1) (fun _ _ => True) (va_A [] hz0)) 1 6 (va_A [] hz0) := by
  refine va_MetW (hh := [(0, 10, 13, 21)]) (cc := cL_clip) (maxL := 5) (ret := (some .int)) (by decide +kernel) rfl ?_
  intro p e s m args below meth c s₁ B hml hv
  obtain ⟨rfl, hsz, hG, hP, hZ⟩ := hv
  subst hsz
  have hx := B.exec
  have hb := B.bytes
  have hr := B.returns
  have hts : ∀ w ∈ wsL_law, w.before _ s = true := fun w h => atoms_spec (ws := (wsW_ yL_clip cL_clip 5 (some .int) [(0, 10, 13, 21)])) B.pre w (List.mem_cons_of_mem _ (wsL2_in w h))
  have hk15 : (Cond.classLink RL 15 "java/lang/IllegalStateException").before _ s = true := atoms_spec (ws := (wsW_ yL_clip cL_clip 5 (some .int) [(0, 10, 13, 21)])) B.pre _ (List.mem_cons_of_mem _ List.mem_cons_self)
  have hown : s.vm.findClass RL = some m.cls := findClass_of_methodNamed B.named
  have hlk := B.notSynchronized
  have hC : CallFix p m c cL_clip 5 s _ wsL_law RL := ⟨hx, hb, hml, hown, hts⟩
  have hS : va_S (va_A [] s.heap.size) s.heap s.heap [] := va_S.rf
  have hl := lv_entry ([.ref xo, .int x, .int w, .ref ou]) (n := 5) (Nat.le_of_ble_eq_true rfl)
  rw [lg_entry_eq]
  generalize (lg_sl ([.ref xo, .int x, .int w, .ref ou]) ++ List.replicate (5 - (lg_sl ([.ref xo, .int x, .int w, .ref ou])).length) Slot.unset).toArray = ls at hl ⊢
  have hl : lv_has ls 5 [(0, .ref xo), (1, .int x), (2, .int w), (3, .ref ou)] := hl
  refine lv_aload_n hx hb dL_clip_0 rfl (lv_at hl 3 rfl) ?_
  refine lv_iconst (v := 0) hx hb dL_clip_1 (by decide) ?_
  refine lv_aload_n hx hb dL_clip_2 rfl (lv_at hl 0 rfl) ?_
  refine lv_iload_n hx hb dL_clip_3 rfl (lv_at hl 1 rfl) ?_
  refine lv_iload_n hx hb dL_clip_4 rfl (lv_at hl 2 rfl) ?_
  have hP9 := hP.sub (ws' := [oO xo 5 [.ref lc, .ref lt, .ref bo, .ref yo, .ref no], oO lc 7 [.int m1, .ref ec, .int (nI nC)]]) [0, 1] rfl
  refine vx_calli (A0 := va_A [] s.heap.size) (rX (rest := [.int 0, .ref ou]) (qc := (RX5, TX5, 5)) [.int x, .int w] 2 hC (t_clip_1 l D hns (xo := xo) (lc := lc) (lt := lt) (bo := bo) (yo := yo) (no := no) (ec := ec) (nC := nC) (m1 := m1) (x := x) (w := w) (hz0 := s.heap.size) (hnC) (hxx)) rfl (hP 0 _ rfl) (gV mM_L_17 mI_X5_clip mS_X5_clip mN_X5 mC_X5_clip) (by decide +kernel) rfl rfl ⟨Nat.le_of_ble_eq_true rfl, Nat.le_of_ble_eq_true rfl⟩ hG hP9 hZ rfl hl.1 rfl (Nat.le_of_ble_eq_true rfl) dL_clip_5 ⟨Nat.le_of_ble_eq_true rfl, Nat.le_of_ble_eq_true rfl⟩) hS (fun q _ h => h) (fun q h => h) (fun q _ h => h) (fun E ce q9 u9 t H1 locs1 ht hvm hp9 hB hz hk hS1 hce hcv hcl => ?_) (fun r u t H1 locs1 ht hvm hp9 _ _ _ _ => hp9.elim)
  obtain rfl : E = "java/lang/IndexOutOfBoundsException" := hB
  have htb := vx_table (x := yL_clip) B (hts _ mW_L_clip)
  refine vx_catch (own := RL) (name := "java/lang/IndexOutOfBoundsException") (pc := 5) (rest := [.int 0, .ref ou]) hown [] ⟨0, 10, 13, 21⟩ [] (by rw [htb]; rfl) (fun z hz9 => absurd hz9 List.not_mem_nil) rfl (by decide) (hts _ mK_L_21) (va_Nw.use rfl (gkC hG 4 rfl)) hce hcv hcl ?_
  refine lv_astore (lv' := [(4, .ref q9), (0, .ref xo), (1, .int x), (2, .int w), (3, .ref ou)]) hx hb dL_clip_13 hl (by decide) rfl (fun ls hl => ?_)
  refine lv_iconst (v := 1) hx hb dL_clip_15 (by decide) ?_
  exact W.iret (v := 1) hx hb hr (fun t ht _ => ⟨⟨_, (), rfl, rfl, trivial⟩, hS1.F ht⟩) hS1.2.2 dL_clip_16 hlk
set_option maxHeartbeats 400000 in
set_option maxRecDepth 100000 in
theorem h_clip_2 (l : Launch) (D : va_G) (hns : l.stackTraces = false) {xo lc lt bo yo no : Nat} {ec nC c0 : Nat} {m1 : Int32} {cl : Nat → Nat} {ta : Nat} {len : Int32} {q t : Nat → Nat} {w : Int32} {ou : Nat} (hz0 : Nat) (hnC : nC ≤ 6) (hc : c0 < nC) (h : ¬ (0 ≤ w ∧ w ≤ 2)) : Met l yL_clip (wsW_ yL_clip cL_clip 5 (some .int) [(0, 10, 13, 21)]) ({ frames := 7, cells := 1, slots := 6, locals := 125 } : Room) (va_Pc [.ref xo, .int (nI c0), .int w, .ref ou] (TW D [oO xo 5 [.ref lc, .ref lt, .ref bo, .ref yo, .ref no], oO lc 7 [.int m1, .ref ec, .int (nI nC)], aO D ec 10 (lsF cl nC), oO (cl c0) 0 [.int len, .ref ta, .ref (q 0), .ref (q 1)]] hz0)) (va_Qi (fun r (_ : Unit) => r = 1) (fun _ _ => True) (va_A [] hz0)) 1 6 (va_A [] hz0) := by
  refine va_MetW (hh := [(0, 10, 13, 21)]) (cc := cL_clip) (maxL := 5) (ret := (some .int)) (by decide +kernel) rfl ?_
  intro p e s m args below meth c s₁ B hml hv
  obtain ⟨rfl, hsz, hG, hP, hZ⟩ := hv
  subst hsz
  have hx := B.exec
  have hb := B.bytes
  have hr := B.returns
  have hts : ∀ w ∈ wsL_law, w.before _ s = true := fun w h => atoms_spec (ws := (wsW_ yL_clip cL_clip 5 (some .int) [(0, 10, 13, 21)])) B.pre w (List.mem_cons_of_mem _ (wsL2_in w h))
  have hk15 : (Cond.classLink RL 15 "java/lang/IllegalStateException").before _ s = true := atoms_spec (ws := (wsW_ yL_clip cL_clip 5 (some .int) [(0, 10, 13, 21)])) B.pre _ (List.mem_cons_of_mem _ List.mem_cons_self)
  have hown : s.vm.findClass RL = some m.cls := findClass_of_methodNamed B.named
  have hlk := B.notSynchronized
  have hC : CallFix p m c cL_clip 5 s _ wsL_law RL := ⟨hx, hb, hml, hown, hts⟩
  have hS : va_S (va_A [] s.heap.size) s.heap s.heap [] := va_S.rf
  have hl := lv_entry ([.ref xo, .int (nI c0), .int w, .ref ou]) (n := 5) (Nat.le_of_ble_eq_true rfl)
  rw [lg_entry_eq]
  generalize (lg_sl ([.ref xo, .int (nI c0), .int w, .ref ou]) ++ List.replicate (5 - (lg_sl ([.ref xo, .int (nI c0), .int w, .ref ou])).length) Slot.unset).toArray = ls at hl ⊢
  have hl : lv_has ls 5 [(0, .ref xo), (1, .int (nI c0)), (2, .int w), (3, .ref ou)] := hl
  refine lv_aload_n hx hb dL_clip_0 rfl (lv_at hl 3 rfl) ?_
  refine lv_iconst (v := 0) hx hb dL_clip_1 (by decide) ?_
  refine lv_aload_n hx hb dL_clip_2 rfl (lv_at hl 0 rfl) ?_
  refine lv_iload_n hx hb dL_clip_3 rfl (lv_at hl 1 rfl) ?_
  refine lv_iload_n hx hb dL_clip_4 rfl (lv_at hl 2 rfl) ?_
  have hP9 := hP.sub (ws' := [oO xo 5 [.ref lc, .ref lt, .ref bo, .ref yo, .ref no], oO lc 7 [.int m1, .ref ec, .int (nI nC)], aO D ec 10 (lsF cl nC), oO (cl c0) 0 [.int len, .ref ta, .ref (q 0), .ref (q 1)]]) [0, 1, 2, 3] rfl
  refine vx_calli (A0 := va_A [] s.heap.size) (rX (rest := [.int 0, .ref ou]) (qc := (RX5, TX5, 5)) [.int (nI c0), .int w] 2 hC (t_clip_2 l D hns (xo := xo) (lc := lc) (lt := lt) (bo := bo) (yo := yo) (no := no) (ec := ec) (nC := nC) (c0 := c0) (m1 := m1) (cl := cl) (ta := ta) (len := len) (q := q) (t := t) (w := w) (hz0 := s.heap.size) (hnC) (hc) (h)) rfl (hP 0 _ rfl) (gV mM_L_17 mI_X5_clip mS_X5_clip mN_X5 mC_X5_clip) (by decide +kernel) rfl rfl ⟨Nat.le_of_ble_eq_true rfl, Nat.le_of_ble_eq_true rfl⟩ hG hP9 hZ rfl hl.1 rfl (Nat.le_of_ble_eq_true rfl) dL_clip_5 ⟨Nat.le_of_ble_eq_true rfl, Nat.le_of_ble_eq_true rfl⟩) hS (fun q _ h => h) (fun q h => h) (fun q _ h => h) (fun E ce q9 u9 t H1 locs1 ht hvm hp9 hB hz hk hS1 hce hcv hcl => ?_) (fun r u t H1 locs1 ht hvm hp9 _ _ _ _ => hp9.elim)
  obtain rfl : E = "java/lang/IndexOutOfBoundsException" := hB
  have htb := vx_table (x := yL_clip) B (hts _ mW_L_clip)
  refine vx_catch (own := RL) (name := "java/lang/IndexOutOfBoundsException") (pc := 5) (rest := [.int 0, .ref ou]) hown [] ⟨0, 10, 13, 21⟩ [] (by rw [htb]; rfl) (fun z hz9 => absurd hz9 List.not_mem_nil) rfl (by decide) (hts _ mK_L_21) (va_Nw.use rfl (gkC hG 4 rfl)) hce hcv hcl ?_
  refine lv_astore (lv' := [(4, .ref q9), (0, .ref xo), (1, .int (nI c0)), (2, .int w), (3, .ref ou)]) hx hb dL_clip_13 hl (by decide) rfl (fun ls hl => ?_)
  refine lv_iconst (v := 1) hx hb dL_clip_15 (by decide) ?_
  exact W.iret (v := 1) hx hb hr (fun t ht _ => ⟨⟨_, (), rfl, rfl, trivial⟩, hS1.F ht⟩) hS1.2.2 dL_clip_16 hlk
set_option maxHeartbeats 400000 in
set_option maxRecDepth 100000 in
theorem l_clip (l : Launch) (D : va_G) {xo lc lt bo yo no : Nat} {ec nC c0 : Nat} {m1 : Int32} {cl : Nat → Nat} {ta nc : Nat} {len : Int32} {q b t r a sz : Nat → Nat} {ct cn : Nat → Int32} {f : Nat → Nat → Int32} {w : Int32} {ou : Nat} {wf : Nat → Int64} (hz0 : Nat) (hnC : nC ≤ 6) (hc : c0 < nC) (h : 0 ≤ w ∧ w ≤ 2) : Met l yL_clip (wsW_ yL_clip cL_clip 5 (some .int) [(0, 10, 13, 21)]) ({ frames := 7, cells := 0, slots := 0, locals := 125 } : Room) (va_Pc [.ref xo, .int (nI c0), .int w, .ref ou] (SW D [oO xo 5 [.ref lc, .ref lt, .ref bo, .ref yo, .ref no], oO lc 7 [.int m1, .ref ec, .int (nI nC)], aO D ec 10 (lsF cl nC), oO (cl c0) 0 [.int len, .ref ta, .ref (q 0), .ref (q 1)], aT D ta 4 (tkF t), oO (q 0) 2 [.ref (b 0), .int (nI nc)], oO (q 1) 2 [.ref (b 1), .int (nI nc)], aI D (b 0) 8 ct, aI D (b 1) 8 cn, oO (t 0) 4 [.ref (r 0), .ref (r 1), .ref (r 2)], oO (r 0) 2 [.ref (a 0), .int (nI (sz 0))], oO (r 1) 2 [.ref (a 1), .int (nI (sz 0))], oO (r 2) 2 [.ref (a 2), .int (nI (sz 0))], aI D (a 0) 16 (f 0), aI D (a 1) 16 (f 1), aI D (a 2) 16 (f 2), oO (t 1) 4 [.ref (r 3), .ref (r 4), .ref (r 5)], oO (r 3) 2 [.ref (a 3), .int (nI (sz 1))], oO (r 4) 2 [.ref (a 4), .int (nI (sz 1))], oO (r 5) 2 [.ref (a 5), .int (nI (sz 1))], aI D (a 3) 16 (f 3), aI D (a 4) 16 (f 4), aI D (a 5) 16 (f 5), oO (t 2) 4 [.ref (r 6), .ref (r 7), .ref (r 8)], oO (r 6) 2 [.ref (a 6), .int (nI (sz 2))], oO (r 7) 2 [.ref (a 7), .int (nI (sz 2))], oO (r 8) 2 [.ref (a 8), .int (nI (sz 2))], aI D (a 6) 16 (f 6), aI D (a 7) 16 (f 7), aI D (a 8) 16 (f 8), oO (t 3) 4 [.ref (r 9), .ref (r 10), .ref (r 11)], oO (r 9) 2 [.ref (a 9), .int (nI (sz 3))], oO (r 10) 2 [.ref (a 10), .int (nI (sz 3))], oO (r 11) 2 [.ref (a 11), .int (nI (sz 3))], aI D (a 9) 16 (f 9), aI D (a 10) 16 (f 10), aI D (a 11) 16 (f 11), aL D ou 1 wf] hz0)) (va_Qi (fun r _ => r = 0) (AT D (va_A [oO xo 5 [.ref lc, .ref lt, .ref bo, .ref yo, .ref no], oO lc 7 [.int m1, .ref ec, .int (nI nC)], aO D ec 10 (lsF cl nC), oO (cl c0) 0 [.int len, .ref ta, .ref (q 0), .ref (q 1)], aT D ta 4 (tkF t), oO (q 0) 2 [.ref (b 0), .int (nI nc)], oO (q 1) 2 [.ref (b 1), .int (nI nc)], aI D (b 0) 8 ct, aI D (b 1) 8 cn, oO (t 0) 4 [.ref (r 0), .ref (r 1), .ref (r 2)], oO (r 0) 2 [.ref (a 0), .int (nI (sz 0))], oO (r 1) 2 [.ref (a 1), .int (nI (sz 0))], oO (r 2) 2 [.ref (a 2), .int (nI (sz 0))], aI D (a 0) 16 (f 0), aI D (a 1) 16 (f 1), aI D (a 2) 16 (f 2), oO (t 1) 4 [.ref (r 3), .ref (r 4), .ref (r 5)], oO (r 3) 2 [.ref (a 3), .int (nI (sz 1))], oO (r 4) 2 [.ref (a 4), .int (nI (sz 1))], oO (r 5) 2 [.ref (a 5), .int (nI (sz 1))], aI D (a 3) 16 (f 3), aI D (a 4) 16 (f 4), aI D (a 5) 16 (f 5), oO (t 2) 4 [.ref (r 6), .ref (r 7), .ref (r 8)], oO (r 6) 2 [.ref (a 6), .int (nI (sz 2))], oO (r 7) 2 [.ref (a 7), .int (nI (sz 2))], oO (r 8) 2 [.ref (a 8), .int (nI (sz 2))], aI D (a 6) 16 (f 6), aI D (a 7) 16 (f 7), aI D (a 8) 16 (f 8), oO (t 3) 4 [.ref (r 9), .ref (r 10), .ref (r 11)], oO (r 9) 2 [.ref (a 9), .int (nI (sz 3))], oO (r 10) 2 [.ref (a 10), .int (nI (sz 3))], oO (r 11) 2 [.ref (a 11), .int (nI (sz 3))], aI D (a 9) 16 (f 9), aI D (a 10) 16 (f 10), aI D (a 11) 16 (f 11), aL D ou 1 wf] hz0) (fun _ : Unit => [oO xo 5 [.ref lc, .ref lt, .ref bo, .ref yo, .ref no], oO lc 7 [.int m1, .ref ec, .int (nI nC)], aO D ec 10 (lsF cl nC), oO (cl c0) 0 [.int len, .ref ta, .ref (q 0), .ref (q 1)], aT D ta 4 (tkF t), oO (q 0) 2 [.ref (b 0), .int (nI nc)], oO (q 1) 2 [.ref (b 1), .int (nI nc)], aI D (b 0) 8 ct, aI D (b 1) 8 cn, oO (t 0) 4 [.ref (r 0), .ref (r 1), .ref (r 2)], oO (r 0) 2 [.ref (a 0), .int (nI (sz 0))], oO (r 1) 2 [.ref (a 1), .int (nI (sz 0))], oO (r 2) 2 [.ref (a 2), .int (nI (sz 0))], aI D (a 0) 16 (f 0), aI D (a 1) 16 (f 1), aI D (a 2) 16 (f 2), oO (t 1) 4 [.ref (r 3), .ref (r 4), .ref (r 5)], oO (r 3) 2 [.ref (a 3), .int (nI (sz 1))], oO (r 4) 2 [.ref (a 4), .int (nI (sz 1))], oO (r 5) 2 [.ref (a 5), .int (nI (sz 1))], aI D (a 3) 16 (f 3), aI D (a 4) 16 (f 4), aI D (a 5) 16 (f 5), oO (t 2) 4 [.ref (r 6), .ref (r 7), .ref (r 8)], oO (r 6) 2 [.ref (a 6), .int (nI (sz 2))], oO (r 7) 2 [.ref (a 7), .int (nI (sz 2))], oO (r 8) 2 [.ref (a 8), .int (nI (sz 2))], aI D (a 6) 16 (f 6), aI D (a 7) 16 (f 7), aI D (a 8) 16 (f 8), oO (t 3) 4 [.ref (r 9), .ref (r 10), .ref (r 11)], oO (r 9) 2 [.ref (a 9), .int (nI (sz 3))], oO (r 10) 2 [.ref (a 10), .int (nI (sz 3))], oO (r 11) 2 [.ref (a 11), .int (nI (sz 3))], aI D (a 9) 16 (f 9), aI D (a 10) 16 (f 10), aI D (a 11) 16 (f 11), aL D ou 1 (vp_updL wf 0 (if w = 0 then len else if w = 1 then nI nc else nI (sz 0 + sz 1 + sz 2 + sz 3)).toInt64)])) (va_A [oO xo 5 [.ref lc, .ref lt, .ref bo, .ref yo, .ref no], oO lc 7 [.int m1, .ref ec, .int (nI nC)], aO D ec 10 (lsF cl nC), oO (cl c0) 0 [.int len, .ref ta, .ref (q 0), .ref (q 1)], aT D ta 4 (tkF t), oO (q 0) 2 [.ref (b 0), .int (nI nc)], oO (q 1) 2 [.ref (b 1), .int (nI nc)], aI D (b 0) 8 ct, aI D (b 1) 8 cn, oO (t 0) 4 [.ref (r 0), .ref (r 1), .ref (r 2)], oO (r 0) 2 [.ref (a 0), .int (nI (sz 0))], oO (r 1) 2 [.ref (a 1), .int (nI (sz 0))], oO (r 2) 2 [.ref (a 2), .int (nI (sz 0))], aI D (a 0) 16 (f 0), aI D (a 1) 16 (f 1), aI D (a 2) 16 (f 2), oO (t 1) 4 [.ref (r 3), .ref (r 4), .ref (r 5)], oO (r 3) 2 [.ref (a 3), .int (nI (sz 1))], oO (r 4) 2 [.ref (a 4), .int (nI (sz 1))], oO (r 5) 2 [.ref (a 5), .int (nI (sz 1))], aI D (a 3) 16 (f 3), aI D (a 4) 16 (f 4), aI D (a 5) 16 (f 5), oO (t 2) 4 [.ref (r 6), .ref (r 7), .ref (r 8)], oO (r 6) 2 [.ref (a 6), .int (nI (sz 2))], oO (r 7) 2 [.ref (a 7), .int (nI (sz 2))], oO (r 8) 2 [.ref (a 8), .int (nI (sz 2))], aI D (a 6) 16 (f 6), aI D (a 7) 16 (f 7), aI D (a 8) 16 (f 8), oO (t 3) 4 [.ref (r 9), .ref (r 10), .ref (r 11)], oO (r 9) 2 [.ref (a 9), .int (nI (sz 3))], oO (r 10) 2 [.ref (a 10), .int (nI (sz 3))], oO (r 11) 2 [.ref (a 11), .int (nI (sz 3))], aI D (a 9) 16 (f 9), aI D (a 10) 16 (f 10), aI D (a 11) 16 (f 11), aL D ou 1 wf] hz0)) 0 0 (va_A [oO xo 5 [.ref lc, .ref lt, .ref bo, .ref yo, .ref no], oO lc 7 [.int m1, .ref ec, .int (nI nC)], aO D ec 10 (lsF cl nC), oO (cl c0) 0 [.int len, .ref ta, .ref (q 0), .ref (q 1)], aT D ta 4 (tkF t), oO (q 0) 2 [.ref (b 0), .int (nI nc)], oO (q 1) 2 [.ref (b 1), .int (nI nc)], aI D (b 0) 8 ct, aI D (b 1) 8 cn, oO (t 0) 4 [.ref (r 0), .ref (r 1), .ref (r 2)], oO (r 0) 2 [.ref (a 0), .int (nI (sz 0))], oO (r 1) 2 [.ref (a 1), .int (nI (sz 0))], oO (r 2) 2 [.ref (a 2), .int (nI (sz 0))], aI D (a 0) 16 (f 0), aI D (a 1) 16 (f 1), aI D (a 2) 16 (f 2), oO (t 1) 4 [.ref (r 3), .ref (r 4), .ref (r 5)], oO (r 3) 2 [.ref (a 3), .int (nI (sz 1))], oO (r 4) 2 [.ref (a 4), .int (nI (sz 1))], oO (r 5) 2 [.ref (a 5), .int (nI (sz 1))], aI D (a 3) 16 (f 3), aI D (a 4) 16 (f 4), aI D (a 5) 16 (f 5), oO (t 2) 4 [.ref (r 6), .ref (r 7), .ref (r 8)], oO (r 6) 2 [.ref (a 6), .int (nI (sz 2))], oO (r 7) 2 [.ref (a 7), .int (nI (sz 2))], oO (r 8) 2 [.ref (a 8), .int (nI (sz 2))], aI D (a 6) 16 (f 6), aI D (a 7) 16 (f 7), aI D (a 8) 16 (f 8), oO (t 3) 4 [.ref (r 9), .ref (r 10), .ref (r 11)], oO (r 9) 2 [.ref (a 9), .int (nI (sz 3))], oO (r 10) 2 [.ref (a 10), .int (nI (sz 3))], oO (r 11) 2 [.ref (a 11), .int (nI (sz 3))], aI D (a 9) 16 (f 9), aI D (a 10) 16 (f 10), aI D (a 11) 16 (f 11), aL D ou 1 wf] hz0) := by
  refine va_MetW (hh := [(0, 10, 13, 21)]) (cc := cL_clip) (maxL := 5) (ret := (some .int)) (by decide +kernel) rfl ?_
  intro p e s m args below meth c s₁ B hml hv
  obtain ⟨rfl, hsz, hG, hP, hD0⟩ := hv
  have hx := B.exec
  have hb := B.bytes
  have hr := B.returns
  have hts : ∀ w ∈ wsL_law, w.before _ s = true := fun w h => atoms_spec (ws := (wsW_ yL_clip cL_clip 5 (some .int) [(0, 10, 13, 21)])) B.pre w (List.mem_cons_of_mem _ (wsL2_in w h))
  have hown : s.vm.findClass RL = some m.cls := findClass_of_methodNamed B.named
  have hlk := B.notSynchronized
  have hC : CallFix p m c cL_clip 5 s _ wsL_law RL := ⟨hx, hb, hml, hown, hts⟩
  subst hsz
  have hD := hD0.self (sz := s.heap.size)
  generalize hAe : va_A [oO xo 5 [.ref lc, .ref lt, .ref bo, .ref yo, .ref no], oO lc 7 [.int m1, .ref ec, .int (nI nC)], aO D ec 10 (lsF cl nC), oO (cl c0) 0 [.int len, .ref ta, .ref (q 0), .ref (q 1)], aT D ta 4 (tkF t), oO (q 0) 2 [.ref (b 0), .int (nI nc)], oO (q 1) 2 [.ref (b 1), .int (nI nc)], aI D (b 0) 8 ct, aI D (b 1) 8 cn, oO (t 0) 4 [.ref (r 0), .ref (r 1), .ref (r 2)], oO (r 0) 2 [.ref (a 0), .int (nI (sz 0))], oO (r 1) 2 [.ref (a 1), .int (nI (sz 0))], oO (r 2) 2 [.ref (a 2), .int (nI (sz 0))], aI D (a 0) 16 (f 0), aI D (a 1) 16 (f 1), aI D (a 2) 16 (f 2), oO (t 1) 4 [.ref (r 3), .ref (r 4), .ref (r 5)], oO (r 3) 2 [.ref (a 3), .int (nI (sz 1))], oO (r 4) 2 [.ref (a 4), .int (nI (sz 1))], oO (r 5) 2 [.ref (a 5), .int (nI (sz 1))], aI D (a 3) 16 (f 3), aI D (a 4) 16 (f 4), aI D (a 5) 16 (f 5), oO (t 2) 4 [.ref (r 6), .ref (r 7), .ref (r 8)], oO (r 6) 2 [.ref (a 6), .int (nI (sz 2))], oO (r 7) 2 [.ref (a 7), .int (nI (sz 2))], oO (r 8) 2 [.ref (a 8), .int (nI (sz 2))], aI D (a 6) 16 (f 6), aI D (a 7) 16 (f 7), aI D (a 8) 16 (f 8), oO (t 3) 4 [.ref (r 9), .ref (r 10), .ref (r 11)], oO (r 9) 2 [.ref (a 9), .int (nI (sz 3))], oO (r 10) 2 [.ref (a 10), .int (nI (sz 3))], oO (r 11) 2 [.ref (a 11), .int (nI (sz 3))], aI D (a 9) 16 (f 9), aI D (a 10) 16 (f 10), aI D (a 11) 16 (f 11), aL D ou 1 wf] s.heap.size = A at hD ⊢
  have hA : ∀ q : Nat, s.heap.size ≤ q → A q := fun q h => by rw [← hAe]; exact Or.inr h
  have hS : va_S A s.heap s.heap [] := va_S.rf
  obtain ⟨H, hHe⟩ : ∃ H, H = s.heap := ⟨_, rfl⟩
  rw [← hHe] at hP
  have hS : va_S A s.heap H [] := by rw [hHe]; exact hS
  have hl := lv_entry ([.ref xo, .int (nI c0), .int w, .ref ou]) (n := 5) (Nat.le_of_ble_eq_true rfl)
  rw [lg_entry_eq]
  generalize (lg_sl ([.ref xo, .int (nI c0), .int w, .ref ou]) ++ List.replicate (5 - (lg_sl ([.ref xo, .int (nI c0), .int w, .ref ou])).length) Slot.unset).toArray = ls at hl ⊢
  have hl : lv_has ls 5 [(0, .ref xo), (1, .int (nI c0)), (2, .int w), (3, .ref ou)] := hl
  rw [← hHe]
  refine lv_aload_n hx hb dL_clip_0 rfl (lv_at hl 3 rfl) ?_
  refine lv_iconst (v := 0) hx hb dL_clip_1 (by decide) ?_
  refine lv_aload_n hx hb dL_clip_2 rfl (lv_at hl 0 rfl) ?_
  refine lv_iload_n hx hb dL_clip_3 rfl (lv_at hl 1 rfl) ?_
  refine lv_iload_n hx hb dL_clip_4 rfl (lv_at hl 2 rfl) ?_
  have hP9 := hP.sub (ws' := [oO xo 5 [.ref lc, .ref lt, .ref bo, .ref yo, .ref no], oO lc 7 [.int m1, .ref ec, .int (nI nC)], aO D ec 10 (lsF cl nC), oO (cl c0) 0 [.int len, .ref ta, .ref (q 0), .ref (q 1)], aT D ta 4 (tkF t), oO (q 0) 2 [.ref (b 0), .int (nI nc)], oO (q 1) 2 [.ref (b 1), .int (nI nc)], aI D (b 0) 8 ct, aI D (b 1) 8 cn, oO (t 0) 4 [.ref (r 0), .ref (r 1), .ref (r 2)], oO (r 0) 2 [.ref (a 0), .int (nI (sz 0))], oO (r 1) 2 [.ref (a 1), .int (nI (sz 0))], oO (r 2) 2 [.ref (a 2), .int (nI (sz 0))], aI D (a 0) 16 (f 0), aI D (a 1) 16 (f 1), aI D (a 2) 16 (f 2), oO (t 1) 4 [.ref (r 3), .ref (r 4), .ref (r 5)], oO (r 3) 2 [.ref (a 3), .int (nI (sz 1))], oO (r 4) 2 [.ref (a 4), .int (nI (sz 1))], oO (r 5) 2 [.ref (a 5), .int (nI (sz 1))], aI D (a 3) 16 (f 3), aI D (a 4) 16 (f 4), aI D (a 5) 16 (f 5), oO (t 2) 4 [.ref (r 6), .ref (r 7), .ref (r 8)], oO (r 6) 2 [.ref (a 6), .int (nI (sz 2))], oO (r 7) 2 [.ref (a 7), .int (nI (sz 2))], oO (r 8) 2 [.ref (a 8), .int (nI (sz 2))], aI D (a 6) 16 (f 6), aI D (a 7) 16 (f 7), aI D (a 8) 16 (f 8), oO (t 3) 4 [.ref (r 9), .ref (r 10), .ref (r 11)], oO (r 9) 2 [.ref (a 9), .int (nI (sz 3))], oO (r 10) 2 [.ref (a 10), .int (nI (sz 3))], oO (r 11) 2 [.ref (a 11), .int (nI (sz 3))], aI D (a 9) 16 (f 9), aI D (a 10) 16 (f 10), aI D (a 11) 16 (f 11)]) [0, 1, 2, 3, 4, 5, 6, 7, 8, 9, 10, 11, 12, 13, 14, 15, 16, 17, 18, 19, 20, 21, 22, 23, 24, 25, 26, 27, 28, 29, 30, 31, 32, 33, 34, 35, 36] rfl
  refine vp_callSi (pV (rest := [.int 0, .ref ou]) (qc := (RX5, TX5, 5)) [.int (nI c0), .int w] 2 hC (c_clip l D (xo := xo) (lc := lc) (lt := lt) (bo := bo) (yo := yo) (no := no) (ec := ec) (nC := nC) (c0 := c0) (m1 := m1) (cl := cl) (ta := ta) (nc := nc) (len := len) (q := q) (b := b) (t := t) (r := r) (a := a) (sz := sz) (ct := ct) (cn := cn) (f := f) (w := w) (hnC) (hc) (h)) rfl (hP 0 _ rfl) (gV mM_L_17 mI_X5_clip mS_X5_clip mN_X5 mC_X5_clip) (by decide +kernel) rfl rfl ⟨Nat.le_of_ble_eq_true rfl, Nat.le_of_ble_eq_true rfl⟩ hG hP9 rfl hl.1 rfl (Nat.le_of_ble_eq_true rfl) dL_clip_5 ⟨Nat.le_of_ble_eq_true rfl, Nat.le_of_ble_eq_true rfl⟩) (fun r5 h5 => ?_)
  obtain rfl : r5 = (if w = 0 then len else if w = 1 then nI nc else nI (sz 0 + sz 1 + sz 2 + sz 3)) := h5
  refine lv_i2l hx hb dL_clip_8 rfl ?_
  refine lst (n := 1) (j := 0) hx hb hG hP hD hS 37 rfl (by omega) (by omega) dL_clip_9 (fun H locs hP hD hS => ?_)
  have hP : va_P D cls [oO xo 5 [.ref lc, .ref lt, .ref bo, .ref yo, .ref no], oO lc 7 [.int m1, .ref ec, .int (nI nC)], aO D ec 10 (lsF cl nC), oO (cl c0) 0 [.int len, .ref ta, .ref (q 0), .ref (q 1)], aT D ta 4 (tkF t), oO (q 0) 2 [.ref (b 0), .int (nI nc)], oO (q 1) 2 [.ref (b 1), .int (nI nc)], aI D (b 0) 8 ct, aI D (b 1) 8 cn, oO (t 0) 4 [.ref (r 0), .ref (r 1), .ref (r 2)], oO (r 0) 2 [.ref (a 0), .int (nI (sz 0))], oO (r 1) 2 [.ref (a 1), .int (nI (sz 0))], oO (r 2) 2 [.ref (a 2), .int (nI (sz 0))], aI D (a 0) 16 (f 0), aI D (a 1) 16 (f 1), aI D (a 2) 16 (f 2), oO (t 1) 4 [.ref (r 3), .ref (r 4), .ref (r 5)], oO (r 3) 2 [.ref (a 3), .int (nI (sz 1))], oO (r 4) 2 [.ref (a 4), .int (nI (sz 1))], oO (r 5) 2 [.ref (a 5), .int (nI (sz 1))], aI D (a 3) 16 (f 3), aI D (a 4) 16 (f 4), aI D (a 5) 16 (f 5), oO (t 2) 4 [.ref (r 6), .ref (r 7), .ref (r 8)], oO (r 6) 2 [.ref (a 6), .int (nI (sz 2))], oO (r 7) 2 [.ref (a 7), .int (nI (sz 2))], oO (r 8) 2 [.ref (a 8), .int (nI (sz 2))], aI D (a 6) 16 (f 6), aI D (a 7) 16 (f 7), aI D (a 8) 16 (f 8), oO (t 3) 4 [.ref (r 9), .ref (r 10), .ref (r 11)], oO (r 9) 2 [.ref (a 9), .int (nI (sz 3))], oO (r 10) 2 [.ref (a 10), .int (nI (sz 3))], oO (r 11) 2 [.ref (a 11), .int (nI (sz 3))], aI D (a 9) 16 (f 9), aI D (a 10) 16 (f 10), aI D (a 11) 16 (f 11), aL D ou 1 (vp_updL wf 0 ((if w = 0 then len else if w = 1 then nI nc else nI (sz 0 + sz 1 + sz 2 + sz 3)).toInt64))] H := hP
  have hD : va_D A [oO xo 5 [.ref lc, .ref lt, .ref bo, .ref yo, .ref no], oO lc 7 [.int m1, .ref ec, .int (nI nC)], aO D ec 10 (lsF cl nC), oO (cl c0) 0 [.int len, .ref ta, .ref (q 0), .ref (q 1)], aT D ta 4 (tkF t), oO (q 0) 2 [.ref (b 0), .int (nI nc)], oO (q 1) 2 [.ref (b 1), .int (nI nc)], aI D (b 0) 8 ct, aI D (b 1) 8 cn, oO (t 0) 4 [.ref (r 0), .ref (r 1), .ref (r 2)], oO (r 0) 2 [.ref (a 0), .int (nI (sz 0))], oO (r 1) 2 [.ref (a 1), .int (nI (sz 0))], oO (r 2) 2 [.ref (a 2), .int (nI (sz 0))], aI D (a 0) 16 (f 0), aI D (a 1) 16 (f 1), aI D (a 2) 16 (f 2), oO (t 1) 4 [.ref (r 3), .ref (r 4), .ref (r 5)], oO (r 3) 2 [.ref (a 3), .int (nI (sz 1))], oO (r 4) 2 [.ref (a 4), .int (nI (sz 1))], oO (r 5) 2 [.ref (a 5), .int (nI (sz 1))], aI D (a 3) 16 (f 3), aI D (a 4) 16 (f 4), aI D (a 5) 16 (f 5), oO (t 2) 4 [.ref (r 6), .ref (r 7), .ref (r 8)], oO (r 6) 2 [.ref (a 6), .int (nI (sz 2))], oO (r 7) 2 [.ref (a 7), .int (nI (sz 2))], oO (r 8) 2 [.ref (a 8), .int (nI (sz 2))], aI D (a 6) 16 (f 6), aI D (a 7) 16 (f 7), aI D (a 8) 16 (f 8), oO (t 3) 4 [.ref (r 9), .ref (r 10), .ref (r 11)], oO (r 9) 2 [.ref (a 9), .int (nI (sz 3))], oO (r 10) 2 [.ref (a 10), .int (nI (sz 3))], oO (r 11) 2 [.ref (a 11), .int (nI (sz 3))], aI D (a 9) 16 (f 9), aI D (a 10) 16 (f 10), aI D (a 11) 16 (f 11), aL D ou 1 (vp_updL wf 0 ((if w = 0 then len else if w = 1 then nI nc else nI (sz 0 + sz 1 + sz 2 + sz 3)).toInt64))] := hD
  refine lv_goto (tgt := 17) hx hb dL_clip_10 (by decide) ?_
  refine lv_iconst (v := 0) hx hb dL_clip_17 (by decide) ?_
  refine Wi () hx hb hr hlk ?_ hP hD hS (Nat.le_of_ble_eq_true rfl) (by first | exact Nat.le_of_ble_eq_true rfl | exact Nat.le_of_eq (Nat.zero_add _)) dL_clip_18
  exact rfl
set_option maxHeartbeats 400000 in
set_option maxRecDepth 100000 in
theorem h_key_1 (l : Launch) (D : va_G) (hns : l.stackTraces = false) {xo lc lt bo yo no : Nat} {ec nC : Nat} {m1 : Int32} {x p1 : Int32} {tm vl es : Int32} {ou : Nat} (hz0 : Nat) (hnC : nC ≤ 6) (hxx : x < 0 ∨ nI nC ≤ x) : Met l yL_key (wsW_ yL_key cL_key 8 (some .int) [(0, 16, 19, 21), (0, 16, 23, 13), (0, 16, 27, 15)]) ({ frames := 7, cells := 1, slots := 6, locals := 137 } : Room) (va_Pc [.ref xo, .int x, .int p1, .int tm, .int vl, .int es, .ref ou] (TW D [oO xo 5 [.ref lc, .ref lt, .ref bo, .ref yo, .ref no], oO lc 7 [.int m1, .ref ec, .int (nI nC)]] hz0)) (va_Qi (fun r (_ : Unit) => r = 1) (fun _ _ => True) (va_A [] hz0)) 1 6 (va_A [] hz0) := by
  refine va_MetW (hh := [(0, 16, 19, 21), (0, 16, 23, 13), (0, 16, 27, 15)]) (cc := cL_key) (maxL := 8) (ret := (some .int)) (by decide +kernel) rfl ?_
  intro p e s m args below meth c s₁ B hml hv
  obtain ⟨rfl, hsz, hG, hP, hZ⟩ := hv
  subst hsz
  have hx := B.exec
  have hb := B.bytes
  have hr := B.returns
  have hts : ∀ w ∈ wsL_law, w.before _ s = true := fun w h => atoms_spec (ws := (wsW_ yL_key cL_key 8 (some .int) [(0, 16, 19, 21), (0, 16, 23, 13), (0, 16, 27, 15)])) B.pre w (List.mem_cons_of_mem _ (wsL2_in w h))
  have hk15 : (Cond.classLink RL 15 "java/lang/IllegalStateException").before _ s = true := atoms_spec (ws := (wsW_ yL_key cL_key 8 (some .int) [(0, 16, 19, 21), (0, 16, 23, 13), (0, 16, 27, 15)])) B.pre _ (List.mem_cons_of_mem _ List.mem_cons_self)
  have hown : s.vm.findClass RL = some m.cls := findClass_of_methodNamed B.named
  have hlk := B.notSynchronized
  have hC : CallFix p m c cL_key 8 s _ wsL_law RL := ⟨hx, hb, hml, hown, hts⟩
  have hS : va_S (va_A [] s.heap.size) s.heap s.heap [] := va_S.rf
  have hl := lv_entry ([.ref xo, .int x, .int p1, .int tm, .int vl, .int es, .ref ou]) (n := 8) (Nat.le_of_ble_eq_true rfl)
  rw [lg_entry_eq]
  generalize (lg_sl ([.ref xo, .int x, .int p1, .int tm, .int vl, .int es, .ref ou]) ++ List.replicate (8 - (lg_sl ([.ref xo, .int x, .int p1, .int tm, .int vl, .int es, .ref ou])).length) Slot.unset).toArray = ls at hl ⊢
  have hl : lv_has ls 8 [(0, .ref xo), (1, .int x), (2, .int p1), (3, .int tm), (4, .int vl), (5, .int es), (6, .ref ou)] := hl
  refine lv_aload hx hb dL_key_0 (lv_at hl 6 rfl) ?_
  refine lv_iconst (v := 0) hx hb dL_key_2 (by decide) ?_
  refine lv_aload_n hx hb dL_key_3 rfl (lv_at hl 0 rfl) ?_
  refine lv_iload_n hx hb dL_key_4 rfl (lv_at hl 1 rfl) ?_
  refine lv_iload_n hx hb dL_key_5 rfl (lv_at hl 2 rfl) ?_
  refine lv_iload_n hx hb dL_key_6 rfl (lv_at hl 3 rfl) ?_
  refine lv_iload hx hb dL_key_7 (lv_at hl 4 rfl) ?_
  refine lv_iload hx hb dL_key_9 (lv_at hl 5 rfl) ?_
  have hP9 := hP.sub (ws' := [oO xo 5 [.ref lc, .ref lt, .ref bo, .ref yo, .ref no], oO lc 7 [.int m1, .ref ec, .int (nI nC)]]) [0, 1] rfl
  refine vx_calli (A0 := va_A [] s.heap.size) (rX (rest := [.int 0, .ref ou]) (qc := (RX5, TX5, 5)) [.int x, .int p1, .int tm, .int vl, .int es] 5 hC (t_key_1 l D hns (xo := xo) (lc := lc) (lt := lt) (bo := bo) (yo := yo) (no := no) (ec := ec) (nC := nC) (m1 := m1) (x := x) (p1 := p1) (tm := tm) (vl := vl) (es := es) (hz0 := s.heap.size) (hnC) (hxx)) rfl (hP 0 _ rfl) (gV mM_L_23 mI_X5_key mS_X5_key mN_X5 mC_X5_key) (by decide +kernel) rfl rfl ⟨Nat.le_of_ble_eq_true rfl, Nat.le_of_ble_eq_true rfl⟩ hG hP9 hZ rfl hl.1 rfl (Nat.le_of_ble_eq_true rfl) dL_key_11 ⟨Nat.le_of_ble_eq_true rfl, Nat.le_of_ble_eq_true rfl⟩) hS (fun q _ h => h) (fun q h => h) (fun q _ h => h) (fun E ce q9 u9 t H1 locs1 ht hvm hp9 hB hz hk hS1 hce hcv hcl => ?_) (fun r u t H1 locs1 ht hvm hp9 _ _ _ _ => hp9.elim)
  obtain rfl : E = "java/lang/IndexOutOfBoundsException" := hB
  have htb := vx_table (x := yL_key) B (hts _ mW_L_key)
  refine vx_catch (own := RL) (name := "java/lang/IndexOutOfBoundsException") (pc := 11) (rest := [.int 0, .ref ou]) hown [] ⟨0, 16, 19, 21⟩ [⟨0, 16, 23, 13⟩, ⟨0, 16, 27, 15⟩] (by rw [htb]; rfl) (fun z hz9 => absurd hz9 List.not_mem_nil) rfl (by decide) (hts _ mK_L_21) (va_Nw.use rfl (gkC hG 4 rfl)) hce hcv hcl ?_
  refine lv_astore (lv' := [(7, .ref q9), (0, .ref xo), (1, .int x), (2, .int p1), (3, .int tm), (4, .int vl), (5, .int es), (6, .ref ou)]) hx hb dL_key_19 hl (by decide) rfl (fun ls hl => ?_)
  refine lv_iconst (v := 1) hx hb dL_key_21 (by decide) ?_
  exact W.iret (v := 1) hx hb hr (fun t ht _ => ⟨⟨_, (), rfl, rfl, trivial⟩, hS1.F ht⟩) hS1.2.2 dL_key_22 hlk
set_option maxHeartbeats 400000 in
set_option maxRecDepth 100000 in
theorem h_key_2 (l : Launch) (D : va_G) (hns : l.stackTraces = false) {xo lc lt bo yo no : Nat} {ec nC c0 : Nat} {m1 : Int32} {cl : Nat → Nat} {ta : Nat} {len : Int32} {q t : Nat → Nat} {p1 : Int32} {tm vl es : Int32} {ou : Nat} (hz0 : Nat) (hnC : nC ≤ 6) (hc : c0 < nC) (hp : p1 < 0 ∨ 4 ≤ p1) : Met l yL_key (wsW_ yL_key cL_key 8 (some .int) [(0, 16, 19, 21), (0, 16, 23, 13), (0, 16, 27, 15)]) ({ frames := 7, cells := 1, slots := 6, locals := 137 } : Room) (va_Pc [.ref xo, .int (nI c0), .int p1, .int tm, .int vl, .int es, .ref ou] (TW D [oO xo 5 [.ref lc, .ref lt, .ref bo, .ref yo, .ref no], oO lc 7 [.int m1, .ref ec, .int (nI nC)], aO D ec 10 (lsF cl nC), oO (cl c0) 0 [.int len, .ref ta, .ref (q 0), .ref (q 1)], aT D ta 4 (tkF t)] hz0)) (va_Qi (fun r (_ : Unit) => r = 1) (fun _ _ => True) (va_A [] hz0)) 1 6 (va_A [] hz0) := by
  refine va_MetW (hh := [(0, 16, 19, 21), (0, 16, 23, 13), (0, 16, 27, 15)]) (cc := cL_key) (maxL := 8) (ret := (some .int)) (by decide +kernel) rfl ?_
  intro p e s m args below meth c s₁ B hml hv
  obtain ⟨rfl, hsz, hG, hP, hZ⟩ := hv
  subst hsz
  have hx := B.exec
  have hb := B.bytes
  have hr := B.returns
  have hts : ∀ w ∈ wsL_law, w.before _ s = true := fun w h => atoms_spec (ws := (wsW_ yL_key cL_key 8 (some .int) [(0, 16, 19, 21), (0, 16, 23, 13), (0, 16, 27, 15)])) B.pre w (List.mem_cons_of_mem _ (wsL2_in w h))
  have hk15 : (Cond.classLink RL 15 "java/lang/IllegalStateException").before _ s = true := atoms_spec (ws := (wsW_ yL_key cL_key 8 (some .int) [(0, 16, 19, 21), (0, 16, 23, 13), (0, 16, 27, 15)])) B.pre _ (List.mem_cons_of_mem _ List.mem_cons_self)
  have hown : s.vm.findClass RL = some m.cls := findClass_of_methodNamed B.named
  have hlk := B.notSynchronized
  have hC : CallFix p m c cL_key 8 s _ wsL_law RL := ⟨hx, hb, hml, hown, hts⟩
  have hS : va_S (va_A [] s.heap.size) s.heap s.heap [] := va_S.rf
  have hl := lv_entry ([.ref xo, .int (nI c0), .int p1, .int tm, .int vl, .int es, .ref ou]) (n := 8) (Nat.le_of_ble_eq_true rfl)
  rw [lg_entry_eq]
  generalize (lg_sl ([.ref xo, .int (nI c0), .int p1, .int tm, .int vl, .int es, .ref ou]) ++ List.replicate (8 - (lg_sl ([.ref xo, .int (nI c0), .int p1, .int tm, .int vl, .int es, .ref ou])).length) Slot.unset).toArray = ls at hl ⊢
  have hl : lv_has ls 8 [(0, .ref xo), (1, .int (nI c0)), (2, .int p1), (3, .int tm), (4, .int vl), (5, .int es), (6, .ref ou)] := hl
  refine lv_aload hx hb dL_key_0 (lv_at hl 6 rfl) ?_
  refine lv_iconst (v := 0) hx hb dL_key_2 (by decide) ?_
  refine lv_aload_n hx hb dL_key_3 rfl (lv_at hl 0 rfl) ?_
  refine lv_iload_n hx hb dL_key_4 rfl (lv_at hl 1 rfl) ?_
  refine lv_iload_n hx hb dL_key_5 rfl (lv_at hl 2 rfl) ?_
  refine lv_iload_n hx hb dL_key_6 rfl (lv_at hl 3 rfl) ?_
  refine lv_iload hx hb dL_key_7 (lv_at hl 4 rfl) ?_
  refine lv_iload hx hb dL_key_9 (lv_at hl 5 rfl) ?_
  have hP9 := hP.sub (ws' := [oO xo 5 [.ref lc, .ref lt, .ref bo, .ref yo, .ref no], oO lc 7 [.int m1, .ref ec, .int (nI nC)], aO D ec 10 (lsF cl nC), oO (cl c0) 0 [.int len, .ref ta, .ref (q 0), .ref (q 1)], aT D ta 4 (tkF t)]) [0, 1, 2, 3, 4] rfl
  refine vx_calli (A0 := va_A [] s.heap.size) (rX (rest := [.int 0, .ref ou]) (qc := (RX5, TX5, 5)) [.int (nI c0), .int p1, .int tm, .int vl, .int es] 5 hC (t_key_2 l D hns (xo := xo) (lc := lc) (lt := lt) (bo := bo) (yo := yo) (no := no) (ec := ec) (nC := nC) (c0 := c0) (m1 := m1) (cl := cl) (ta := ta) (len := len) (q := q) (t := t) (p1 := p1) (tm := tm) (vl := vl) (es := es) (hz0 := s.heap.size) (hnC) (hc) (hp)) rfl (hP 0 _ rfl) (gV mM_L_23 mI_X5_key mS_X5_key mN_X5 mC_X5_key) (by decide +kernel) rfl rfl ⟨Nat.le_of_ble_eq_true rfl, Nat.le_of_ble_eq_true rfl⟩ hG hP9 hZ rfl hl.1 rfl (Nat.le_of_ble_eq_true rfl) dL_key_11 ⟨Nat.le_of_ble_eq_true rfl, Nat.le_of_ble_eq_true rfl⟩) hS (fun q _ h => h) (fun q h => h) (fun q _ h => h) (fun E ce q9 u9 t H1 locs1 ht hvm hp9 hB hz hk hS1 hce hcv hcl => ?_) (fun r u t H1 locs1 ht hvm hp9 _ _ _ _ => hp9.elim)
  obtain rfl : E = "java/lang/IndexOutOfBoundsException" := hB
  have htb := vx_table (x := yL_key) B (hts _ mW_L_key)
  refine vx_catch (own := RL) (name := "java/lang/IndexOutOfBoundsException") (pc := 11) (rest := [.int 0, .ref ou]) hown [] ⟨0, 16, 19, 21⟩ [⟨0, 16, 23, 13⟩, ⟨0, 16, 27, 15⟩] (by rw [htb]; rfl) (fun z hz9 => absurd hz9 List.not_mem_nil) rfl (by decide) (hts _ mK_L_21) (va_Nw.use rfl (gkC hG 4 rfl)) hce hcv hcl ?_
  refine lv_astore (lv' := [(7, .ref q9), (0, .ref xo), (1, .int (nI c0)), (2, .int p1), (3, .int tm), (4, .int vl), (5, .int es), (6, .ref ou)]) hx hb dL_key_19 hl (by decide) rfl (fun ls hl => ?_)
  refine lv_iconst (v := 1) hx hb dL_key_21 (by decide) ?_
  exact W.iret (v := 1) hx hb hr (fun t ht _ => ⟨⟨_, (), rfl, rfl, trivial⟩, hS1.F ht⟩) hS1.2.2 dL_key_22 hlk
set_option maxHeartbeats 400000 in
set_option maxRecDepth 100000 in
theorem h_key_3 (l : Launch) (D : va_G) (hns : l.stackTraces = false) {xo lc lt bo yo no : Nat} {ec nC c0 : Nat} {m1 : Int32} {cl : Nat → Nat} {ta : Nat} {len : Int32} {q t : Nat → Nat} {j : Nat} {tm vl es : Int32} {ou : Nat} (hz0 : Nat) (hnC : nC ≤ 6) (hc : c0 < nC) (hj : j < 4) (h : ¬ ((0 ≤ tm ∧ tm ≤ len) ∧ (-10000 ≤ vl ∧ vl ≤ 10000) ∧ (0 ≤ es ∧ es ≤ 4))) : Met l yL_key (wsW_ yL_key cL_key 8 (some .int) [(0, 16, 19, 21), (0, 16, 23, 13), (0, 16, 27, 15)]) ({ frames := 7, cells := 1, slots := 6, locals := 137 } : Room) (va_Pc [.ref xo, .int (nI c0), .int (nI j), .int tm, .int vl, .int es, .ref ou] (TW D [oO xo 5 [.ref lc, .ref lt, .ref bo, .ref yo, .ref no], oO lc 7 [.int m1, .ref ec, .int (nI nC)], aO D ec 10 (lsF cl nC), oO (cl c0) 0 [.int len, .ref ta, .ref (q 0), .ref (q 1)], aT D ta 4 (tkF t)] hz0)) (va_Qi (fun r (_ : Unit) => r = 2) (fun _ _ => True) (va_A [] hz0)) 1 6 (va_A [] hz0) := by
  refine va_MetW (hh := [(0, 16, 19, 21), (0, 16, 23, 13), (0, 16, 27, 15)]) (cc := cL_key) (maxL := 8) (ret := (some .int)) (by decide +kernel) rfl ?_
  intro p e s m args below meth c s₁ B hml hv
  obtain ⟨rfl, hsz, hG, hP, hZ⟩ := hv
  subst hsz
  have hx := B.exec
  have hb := B.bytes
  have hr := B.returns
  have hts : ∀ w ∈ wsL_law, w.before _ s = true := fun w h => atoms_spec (ws := (wsW_ yL_key cL_key 8 (some .int) [(0, 16, 19, 21), (0, 16, 23, 13), (0, 16, 27, 15)])) B.pre w (List.mem_cons_of_mem _ (wsL2_in w h))
  have hk15 : (Cond.classLink RL 15 "java/lang/IllegalStateException").before _ s = true := atoms_spec (ws := (wsW_ yL_key cL_key 8 (some .int) [(0, 16, 19, 21), (0, 16, 23, 13), (0, 16, 27, 15)])) B.pre _ (List.mem_cons_of_mem _ List.mem_cons_self)
  have hown : s.vm.findClass RL = some m.cls := findClass_of_methodNamed B.named
  have hlk := B.notSynchronized
  have hC : CallFix p m c cL_key 8 s _ wsL_law RL := ⟨hx, hb, hml, hown, hts⟩
  have hS : va_S (va_A [] s.heap.size) s.heap s.heap [] := va_S.rf
  have hl := lv_entry ([.ref xo, .int (nI c0), .int (nI j), .int tm, .int vl, .int es, .ref ou]) (n := 8) (Nat.le_of_ble_eq_true rfl)
  rw [lg_entry_eq]
  generalize (lg_sl ([.ref xo, .int (nI c0), .int (nI j), .int tm, .int vl, .int es, .ref ou]) ++ List.replicate (8 - (lg_sl ([.ref xo, .int (nI c0), .int (nI j), .int tm, .int vl, .int es, .ref ou])).length) Slot.unset).toArray = ls at hl ⊢
  have hl : lv_has ls 8 [(0, .ref xo), (1, .int (nI c0)), (2, .int (nI j)), (3, .int tm), (4, .int vl), (5, .int es), (6, .ref ou)] := hl
  refine lv_aload hx hb dL_key_0 (lv_at hl 6 rfl) ?_
  refine lv_iconst (v := 0) hx hb dL_key_2 (by decide) ?_
  refine lv_aload_n hx hb dL_key_3 rfl (lv_at hl 0 rfl) ?_
  refine lv_iload_n hx hb dL_key_4 rfl (lv_at hl 1 rfl) ?_
  refine lv_iload_n hx hb dL_key_5 rfl (lv_at hl 2 rfl) ?_
  refine lv_iload_n hx hb dL_key_6 rfl (lv_at hl 3 rfl) ?_
  refine lv_iload hx hb dL_key_7 (lv_at hl 4 rfl) ?_
  refine lv_iload hx hb dL_key_9 (lv_at hl 5 rfl) ?_
  have hP9 := hP.sub (ws' := [oO xo 5 [.ref lc, .ref lt, .ref bo, .ref yo, .ref no], oO lc 7 [.int m1, .ref ec, .int (nI nC)], aO D ec 10 (lsF cl nC), oO (cl c0) 0 [.int len, .ref ta, .ref (q 0), .ref (q 1)], aT D ta 4 (tkF t)]) [0, 1, 2, 3, 4] rfl
  refine vx_calli (A0 := va_A [] s.heap.size) (rX (rest := [.int 0, .ref ou]) (qc := (RX5, TX5, 5)) [.int (nI c0), .int (nI j), .int tm, .int vl, .int es] 5 hC (t_key_3 l D hns (xo := xo) (lc := lc) (lt := lt) (bo := bo) (yo := yo) (no := no) (ec := ec) (nC := nC) (c0 := c0) (m1 := m1) (cl := cl) (ta := ta) (len := len) (q := q) (t := t) (j := j) (tm := tm) (vl := vl) (es := es) (hz0 := s.heap.size) (hnC) (hc) (hj) (h)) rfl (hP 0 _ rfl) (gV mM_L_23 mI_X5_key mS_X5_key mN_X5 mC_X5_key) (by decide +kernel) rfl rfl ⟨Nat.le_of_ble_eq_true rfl, Nat.le_of_ble_eq_true rfl⟩ hG hP9 hZ rfl hl.1 rfl (Nat.le_of_ble_eq_true rfl) dL_key_11 ⟨Nat.le_of_ble_eq_true rfl, Nat.le_of_ble_eq_true rfl⟩) hS (fun q _ h => h) (fun q h => h) (fun q _ h => h) (fun E ce q9 u9 t H1 locs1 ht hvm hp9 hB hz hk hS1 hce hcv hcl => ?_) (fun r u t H1 locs1 ht hvm hp9 _ _ _ _ => hp9.elim)
  obtain rfl : E = "java/lang/IllegalArgumentException" := hB
  have htb := vx_table (x := yL_key) B (hts _ mW_L_key)
  refine vx_catch (own := RL) (name := "java/lang/IllegalArgumentException") (pc := 11) (rest := [.int 0, .ref ou]) hown [⟨0, 16, 19, 21⟩] ⟨0, 16, 23, 13⟩ [⟨0, 16, 27, 15⟩] (by rw [htb]; rfl) (fun z hz9 => by
    simp only [List.mem_cons, List.not_mem_nil, or_false] at hz9
    rcases hz9 with rfl
    · exact Or.inr ⟨by decide, _, hts _ mK_L_21, gkN hG 1 rfl⟩) rfl (by decide) (hts _ mK_L_13) (va_Nw.use rfl (gkC hG 2 rfl)) hce hcv hcl ?_
  refine lv_astore (lv' := [(7, .ref q9), (0, .ref xo), (1, .int (nI c0)), (2, .int (nI j)), (3, .int tm), (4, .int vl), (5, .int es), (6, .ref ou)]) hx hb dL_key_23 hl (by decide) rfl (fun ls hl => ?_)
  refine lv_iconst (v := 2) hx hb dL_key_25 (by decide) ?_
  exact W.iret (v := 2) hx hb hr (fun t ht _ => ⟨⟨_, (), rfl, rfl, trivial⟩, hS1.F ht⟩) hS1.2.2 dL_key_26 hlk
set_option maxHeartbeats 400000 in
set_option maxRecDepth 100000 in
theorem h_key_4 (l : Launch) (D : va_G) (hns : l.stackTraces = false) {xo lc lt bo yo no : Nat} {ec nC c0 : Nat} {m1 : Int32} {cl : Nat → Nat} {ta : Nat} {len : Int32} {q t : Nat → Nat} {j r1 r2 r3 a1 a2 a3 sz : Nat} {ft fv fe : Nat → Int32} {tm vl es : Int32} {ou : Nat} (hz0 : Nat) (hnC : nC ≤ 6) (hc : c0 < nC) (hj : j < 4) (h : (0 ≤ tm ∧ tm ≤ len) ∧ (-10000 ≤ vl ∧ vl ≤ 10000) ∧ (0 ≤ es ∧ es ≤ 4)) (hs : sz = 16) (hp : ¬ (0 < cntLe ft tm sz ∧ ft (cntLe ft tm sz - 1) = tm)) : Met l yL_key (wsW_ yL_key cL_key 8 (some .int) [(0, 16, 19, 21), (0, 16, 23, 13), (0, 16, 27, 15)]) ({ frames := 7, cells := 1, slots := 6, locals := 137 } : Room) (va_Pc [.ref xo, .int (nI c0), .int (nI j), .int tm, .int vl, .int es, .ref ou] (TW D [oO xo 5 [.ref lc, .ref lt, .ref bo, .ref yo, .ref no], oO lc 7 [.int m1, .ref ec, .int (nI nC)], aO D ec 10 (lsF cl nC), oO (cl c0) 0 [.int len, .ref ta, .ref (q 0), .ref (q 1)], aT D ta 4 (tkF t), oO (t j) 4 [.ref r1, .ref r2, .ref r3], oO r1 2 [.ref a1, .int (nI sz)], oO r2 2 [.ref a2, .int (nI sz)], oO r3 2 [.ref a3, .int (nI sz)], aI D a1 16 ft, aI D a2 16 fv, aI D a3 16 fe] hz0)) (va_Qi (fun r (_ : Unit) => r = 3) (fun _ _ => True) (va_A [] hz0)) 1 6 (va_A [] hz0) := by
  refine va_MetW (hh := [(0, 16, 19, 21), (0, 16, 23, 13), (0, 16, 27, 15)]) (cc := cL_key) (maxL := 8) (ret := (some .int)) (by decide +kernel) rfl ?_
  intro p e s m args below meth c s₁ B hml hv
  obtain ⟨rfl, hsz, hG, hP, hZ⟩ := hv
  subst hsz
  have hx := B.exec
  have hb := B.bytes
  have hr := B.returns
  have hts : ∀ w ∈ wsL_law, w.before _ s = true := fun w h => atoms_spec (ws := (wsW_ yL_key cL_key 8 (some .int) [(0, 16, 19, 21), (0, 16, 23, 13), (0, 16, 27, 15)])) B.pre w (List.mem_cons_of_mem _ (wsL2_in w h))
  have hk15 : (Cond.classLink RL 15 "java/lang/IllegalStateException").before _ s = true := atoms_spec (ws := (wsW_ yL_key cL_key 8 (some .int) [(0, 16, 19, 21), (0, 16, 23, 13), (0, 16, 27, 15)])) B.pre _ (List.mem_cons_of_mem _ List.mem_cons_self)
  have hown : s.vm.findClass RL = some m.cls := findClass_of_methodNamed B.named
  have hlk := B.notSynchronized
  have hC : CallFix p m c cL_key 8 s _ wsL_law RL := ⟨hx, hb, hml, hown, hts⟩
  have hS : va_S (va_A [] s.heap.size) s.heap s.heap [] := va_S.rf
  have hl := lv_entry ([.ref xo, .int (nI c0), .int (nI j), .int tm, .int vl, .int es, .ref ou]) (n := 8) (Nat.le_of_ble_eq_true rfl)
  rw [lg_entry_eq]
  generalize (lg_sl ([.ref xo, .int (nI c0), .int (nI j), .int tm, .int vl, .int es, .ref ou]) ++ List.replicate (8 - (lg_sl ([.ref xo, .int (nI c0), .int (nI j), .int tm, .int vl, .int es, .ref ou])).length) Slot.unset).toArray = ls at hl ⊢
  have hl : lv_has ls 8 [(0, .ref xo), (1, .int (nI c0)), (2, .int (nI j)), (3, .int tm), (4, .int vl), (5, .int es), (6, .ref ou)] := hl
  refine lv_aload hx hb dL_key_0 (lv_at hl 6 rfl) ?_
  refine lv_iconst (v := 0) hx hb dL_key_2 (by decide) ?_
  refine lv_aload_n hx hb dL_key_3 rfl (lv_at hl 0 rfl) ?_
  refine lv_iload_n hx hb dL_key_4 rfl (lv_at hl 1 rfl) ?_
  refine lv_iload_n hx hb dL_key_5 rfl (lv_at hl 2 rfl) ?_
  refine lv_iload_n hx hb dL_key_6 rfl (lv_at hl 3 rfl) ?_
  refine lv_iload hx hb dL_key_7 (lv_at hl 4 rfl) ?_
  refine lv_iload hx hb dL_key_9 (lv_at hl 5 rfl) ?_
  have hP9 := hP.sub (ws' := [oO xo 5 [.ref lc, .ref lt, .ref bo, .ref yo, .ref no], oO lc 7 [.int m1, .ref ec, .int (nI nC)], aO D ec 10 (lsF cl nC), oO (cl c0) 0 [.int len, .ref ta, .ref (q 0), .ref (q 1)], aT D ta 4 (tkF t), oO (t j) 4 [.ref r1, .ref r2, .ref r3], oO r1 2 [.ref a1, .int (nI sz)], oO r2 2 [.ref a2, .int (nI sz)], oO r3 2 [.ref a3, .int (nI sz)], aI D a1 16 ft, aI D a2 16 fv, aI D a3 16 fe]) [0, 1, 2, 3, 4, 5, 6, 7, 8, 9, 10, 11] rfl
  refine vx_calli (A0 := va_A [] s.heap.size) (rX (rest := [.int 0, .ref ou]) (qc := (RX5, TX5, 5)) [.int (nI c0), .int (nI j), .int tm, .int vl, .int es] 5 hC (t_key_4 l D hns (xo := xo) (lc := lc) (lt := lt) (bo := bo) (yo := yo) (no := no) (ec := ec) (nC := nC) (c0 := c0) (m1 := m1) (cl := cl) (ta := ta) (len := len) (q := q) (t := t) (j := j) (r1 := r1) (r2 := r2) (r3 := r3) (a1 := a1) (a2 := a2) (a3 := a3) (sz := sz) (ft := ft) (fv := fv) (fe := fe) (tm := tm) (vl := vl) (es := es) (hz0 := s.heap.size) (hnC) (hc) (hj) (h) (hs) (hp)) rfl (hP 0 _ rfl) (gV mM_L_23 mI_X5_key mS_X5_key mN_X5 mC_X5_key) (by decide +kernel) rfl rfl ⟨Nat.le_of_ble_eq_true rfl, Nat.le_of_ble_eq_true rfl⟩ hG hP9 hZ rfl hl.1 rfl (Nat.le_of_ble_eq_true rfl) dL_key_11 ⟨Nat.le_of_ble_eq_true rfl, Nat.le_of_ble_eq_true rfl⟩) hS (fun q _ h => h) (fun q h => h) (fun q _ h => h) (fun E ce q9 u9 t H1 locs1 ht hvm hp9 hB hz hk hS1 hce hcv hcl => ?_) (fun r u t H1 locs1 ht hvm hp9 _ _ _ _ => hp9.elim)
  obtain rfl : E = "java/lang/IllegalStateException" := hB
  have htb := vx_table (x := yL_key) B (hts _ mW_L_key)
  refine vx_catch (own := RL) (name := "java/lang/IllegalStateException") (pc := 11) (rest := [.int 0, .ref ou]) hown [⟨0, 16, 19, 21⟩, ⟨0, 16, 23, 13⟩] ⟨0, 16, 27, 15⟩ [] (by rw [htb]; rfl) (fun z hz9 => by
    simp only [List.mem_cons, List.not_mem_nil, or_false] at hz9
    rcases hz9 with rfl | rfl
    · exact Or.inr ⟨by decide, _, hts _ mK_L_21, gkN hG 3 rfl⟩
    · exact Or.inr ⟨by decide, _, hts _ mK_L_13, gkN hG 2 rfl⟩) rfl (by decide) (hk15) (va_Nw.use rfl (gkC hG 3 rfl)) hce hcv hcl ?_
  refine lv_astore (lv' := [(7, .ref q9), (0, .ref xo), (1, .int (nI c0)), (2, .int (nI j)), (3, .int tm), (4, .int vl), (5, .int es), (6, .ref ou)]) hx hb dL_key_27 hl (by decide) rfl (fun ls hl => ?_)
  refine lv_iconst (v := 3) hx hb dL_key_29 (by decide) ?_
  exact W.iret (v := 3) hx hb hr (fun t ht _ => ⟨⟨_, (), rfl, rfl, trivial⟩, hS1.F ht⟩) hS1.2.2 dL_key_30 hlk
set_option maxHeartbeats 400000 in
set_option maxRecDepth 100000 in
theorem l_key_set (l : Launch) (D : va_G) {xo lc lt bo yo no : Nat} {ec nC c0 : Nat} {m1 : Int32} {cl : Nat → Nat} {ta : Nat} {len : Int32} {q t : Nat → Nat} {j r1 r2 r3 a1 a2 a3 sz : Nat} {ft fv fe : Nat → Int32} {tm vl es : Int32} {ou : Nat} {wf : Nat → Int64} (hz0 : Nat) (hnC : nC ≤ 6) (hc : c0 < nC) (hj : j < 4) (h : (0 ≤ tm ∧ tm ≤ len) ∧ (-10000 ≤ vl ∧ vl ≤ 10000) ∧ (0 ≤ es ∧ es ≤ 4)) (hs : sz ≤ 16) (hp : 0 < cntLe ft tm sz ∧ ft (cntLe ft tm sz - 1) = tm) : Met l yL_key (wsW_ yL_key cL_key 8 (some .int) [(0, 16, 19, 21), (0, 16, 23, 13), (0, 16, 27, 15)]) ({ frames := 7, cells := 0, slots := 0, locals := 137 } : Room) (va_Pc [.ref xo, .int (nI c0), .int (nI j), .int tm, .int vl, .int es, .ref ou] (SW D [oO xo 5 [.ref lc, .ref lt, .ref bo, .ref yo, .ref no], oO lc 7 [.int m1, .ref ec, .int (nI nC)], aO D ec 10 (lsF cl nC), oO (cl c0) 0 [.int len, .ref ta, .ref (q 0), .ref (q 1)], aT D ta 4 (tkF t), oO (t j) 4 [.ref r1, .ref r2, .ref r3], oO r1 2 [.ref a1, .int (nI sz)], oO r2 2 [.ref a2, .int (nI sz)], oO r3 2 [.ref a3, .int (nI sz)], aI D a1 16 ft, aI D a2 16 fv, aI D a3 16 fe, aL D ou 1 wf] hz0)) (va_Qi (fun r _ => r = 0) (AT D (va_A [oO xo 5 [.ref lc, .ref lt, .ref bo, .ref yo, .ref no], oO lc 7 [.int m1, .ref ec, .int (nI nC)], aO D ec 10 (lsF cl nC), oO (cl c0) 0 [.int len, .ref ta, .ref (q 0), .ref (q 1)], aT D ta 4 (tkF t), oO (t j) 4 [.ref r1, .ref r2, .ref r3], oO r1 2 [.ref a1, .int (nI sz)], oO r2 2 [.ref a2, .int (nI sz)], oO r3 2 [.ref a3, .int (nI sz)], aI D a1 16 ft, aI D a2 16 fv, aI D a3 16 fe, aL D ou 1 wf] hz0) (fun _ : Unit => [oO xo 5 [.ref lc, .ref lt, .ref bo, .ref yo, .ref no], oO lc 7 [.int m1, .ref ec, .int (nI nC)], aO D ec 10 (lsF cl nC), oO (cl c0) 0 [.int len, .ref ta, .ref (q 0), .ref (q 1)], aT D ta 4 (tkF t), oO (t j) 4 [.ref r1, .ref r2, .ref r3], oO r1 2 [.ref a1, .int (nI sz)], oO r2 2 [.ref a2, .int (nI sz)], oO r3 2 [.ref a3, .int (nI sz)], aI D a1 16 ft, aI D a2 16 (upd fv (cntLe ft tm sz - 1) vl), aI D a3 16 (upd fe (cntLe ft tm sz - 1) es), aL D ou 1 (vp_updL wf 0 (nI sz).toInt64)])) (va_A [oO xo 5 [.ref lc, .ref lt, .ref bo, .ref yo, .ref no], oO lc 7 [.int m1, .ref ec, .int (nI nC)], aO D ec 10 (lsF cl nC), oO (cl c0) 0 [.int len, .ref ta, .ref (q 0), .ref (q 1)], aT D ta 4 (tkF t), oO (t j) 4 [.ref r1, .ref r2, .ref r3], oO r1 2 [.ref a1, .int (nI sz)], oO r2 2 [.ref a2, .int (nI sz)], oO r3 2 [.ref a3, .int (nI sz)], aI D a1 16 ft, aI D a2 16 fv, aI D a3 16 fe, aL D ou 1 wf] hz0)) 0 0 (va_A [oO xo 5 [.ref lc, .ref lt, .ref bo, .ref yo, .ref no], oO lc 7 [.int m1, .ref ec, .int (nI nC)], aO D ec 10 (lsF cl nC), oO (cl c0) 0 [.int len, .ref ta, .ref (q 0), .ref (q 1)], aT D ta 4 (tkF t), oO (t j) 4 [.ref r1, .ref r2, .ref r3], oO r1 2 [.ref a1, .int (nI sz)], oO r2 2 [.ref a2, .int (nI sz)], oO r3 2 [.ref a3, .int (nI sz)], aI D a1 16 ft, aI D a2 16 fv, aI D a3 16 fe, aL D ou 1 wf] hz0) := by
  refine va_MetW (hh := [(0, 16, 19, 21), (0, 16, 23, 13), (0, 16, 27, 15)]) (cc := cL_key) (maxL := 8) (ret := (some .int)) (by decide +kernel) rfl ?_
  intro p e s m args below meth c s₁ B hml hv
  obtain ⟨rfl, hsz, hG, hP, hD0⟩ := hv
  have hx := B.exec
  have hb := B.bytes
  have hr := B.returns
  have hts : ∀ w ∈ wsL_law, w.before _ s = true := fun w h => atoms_spec (ws := (wsW_ yL_key cL_key 8 (some .int) [(0, 16, 19, 21), (0, 16, 23, 13), (0, 16, 27, 15)])) B.pre w (List.mem_cons_of_mem _ (wsL2_in w h))
  have hown : s.vm.findClass RL = some m.cls := findClass_of_methodNamed B.named
  have hlk := B.notSynchronized
  have hC : CallFix p m c cL_key 8 s _ wsL_law RL := ⟨hx, hb, hml, hown, hts⟩
  subst hsz
  have hD := hD0.self (sz := s.heap.size)
  generalize hAe : va_A [oO xo 5 [.ref lc, .ref lt, .ref bo, .ref yo, .ref no], oO lc 7 [.int m1, .ref ec, .int (nI nC)], aO D ec 10 (lsF cl nC), oO (cl c0) 0 [.int len, .ref ta, .ref (q 0), .ref (q 1)], aT D ta 4 (tkF t), oO (t j) 4 [.ref r1, .ref r2, .ref r3], oO r1 2 [.ref a1, .int (nI sz)], oO r2 2 [.ref a2, .int (nI sz)], oO r3 2 [.ref a3, .int (nI sz)], aI D a1 16 ft, aI D a2 16 fv, aI D a3 16 fe, aL D ou 1 wf] s.heap.size = A at hD ⊢
  have hA : ∀ q : Nat, s.heap.size ≤ q → A q := fun q h => by rw [← hAe]; exact Or.inr h
  have hS : va_S A s.heap s.heap [] := va_S.rf
  obtain ⟨H, hHe⟩ : ∃ H, H = s.heap := ⟨_, rfl⟩
  rw [← hHe] at hP
  have hS : va_S A s.heap H [] := by rw [hHe]; exact hS
  have hl := lv_entry ([.ref xo, .int (nI c0), .int (nI j), .int tm, .int vl, .int es, .ref ou]) (n := 8) (Nat.le_of_ble_eq_true rfl)
  rw [lg_entry_eq]
  generalize (lg_sl ([.ref xo, .int (nI c0), .int (nI j), .int tm, .int vl, .int es, .ref ou]) ++ List.replicate (8 - (lg_sl ([.ref xo, .int (nI c0), .int (nI j), .int tm, .int vl, .int es, .ref ou])).length) Slot.unset).toArray = ls at hl ⊢
  have hl : lv_has ls 8 [(0, .ref xo), (1, .int (nI c0)), (2, .int (nI j)), (3, .int tm), (4, .int vl), (5, .int es), (6, .ref ou)] := hl
  rw [← hHe]
  refine lv_aload hx hb dL_key_0 (lv_at hl 6 rfl) ?_
  refine lv_iconst (v := 0) hx hb dL_key_2 (by decide) ?_
  refine lv_aload_n hx hb dL_key_3 rfl (lv_at hl 0 rfl) ?_
  refine lv_iload_n hx hb dL_key_4 rfl (lv_at hl 1 rfl) ?_
  refine lv_iload_n hx hb dL_key_5 rfl (lv_at hl 2 rfl) ?_
  refine lv_iload_n hx hb dL_key_6 rfl (lv_at hl 3 rfl) ?_
  refine lv_iload hx hb dL_key_7 (lv_at hl 4 rfl) ?_
  refine lv_iload hx hb dL_key_9 (lv_at hl 5 rfl) ?_
  have hP9 := hP.sub (ws' := [oO xo 5 [.ref lc, .ref lt, .ref bo, .ref yo, .ref no], oO lc 7 [.int m1, .ref ec, .int (nI nC)], aO D ec 10 (lsF cl nC), oO (cl c0) 0 [.int len, .ref ta, .ref (q 0), .ref (q 1)], aT D ta 4 (tkF t), oO (t j) 4 [.ref r1, .ref r2, .ref r3], oO r1 2 [.ref a1, .int (nI sz)], oO r2 2 [.ref a2, .int (nI sz)], oO r3 2 [.ref a3, .int (nI sz)], aI D a1 16 ft, aI D a2 16 fv, aI D a3 16 fe]) [0, 1, 2, 3, 4, 5, 6, 7, 8, 9, 10, 11] rfl
  have hD9 := (hD.sub (ws' := [oO xo 5 [.ref lc, .ref lt, .ref bo, .ref yo, .ref no], oO lc 7 [.int m1, .ref ec, .int (nI nC)], aO D ec 10 (lsF cl nC), oO (cl c0) 0 [.int len, .ref ta, .ref (q 0), .ref (q 1)], aT D ta 4 (tkF t), oO (t j) 4 [.ref r1, .ref r2, .ref r3], oO r1 2 [.ref a1, .int (nI sz)], oO r2 2 [.ref a2, .int (nI sz)], oO r3 2 [.ref a3, .int (nI sz)], aI D a1 16 ft, aI D a2 16 fv, aI D a3 16 fe]) [0, 1, 2, 3, 4, 5, 6, 7, 8, 9, 10, 11] (by decide) rfl).weaken (B := fun _ => True) (fun _ _ _ _ => trivial)
  refine ki (wr := [aL D ou 1 wf]) (rV (rest := [.int 0, .ref ou]) (qc := (RX5, TX5, 5)) [.int (nI c0), .int (nI j), .int tm, .int vl, .int es] 5 0 0 hC (c_key_set l D (xo := xo) (lc := lc) (lt := lt) (bo := bo) (yo := yo) (no := no) (ec := ec) (nC := nC) (c0 := c0) (m1 := m1) (cl := cl) (ta := ta) (len := len) (q := q) (t := t) (j := j) (r1 := r1) (r2 := r2) (r3 := r3) (a1 := a1) (a2 := a2) (a3 := a3) (sz := sz) (ft := ft) (fv := fv) (fe := fe) (tm := tm) (vl := vl) (es := es) (hz0 := H.size) (hnC) (hc) (hj) (h) (hs) (hp)) rfl (hP 0 _ rfl) (gV mM_L_23 mI_X5_key mS_X5_key mN_X5 mC_X5_key) (by decide +kernel) rfl rfl ⟨Nat.le_of_ble_eq_true rfl, Nat.le_of_ble_eq_true rfl⟩ hG hP9 hD9 rfl hl.1 rfl (Nat.le_of_ble_eq_true rfl) dL_key_11 ⟨Nat.le_of_ble_eq_true rfl, Nat.le_of_ble_eq_true rfl⟩) hP hD hS hA [0, 1, 2, 3, 4, 5, 6, 7, 8, 9, 10, 11] [12] rfl rfl (by decide) (by decide) (fun r11 u11 H locs h11 hP hD hS hz hfr => ?_)
  have hP : va_P D cls [aL D ou 1 wf, oO xo 5 [.ref lc, .ref lt, .ref bo, .ref yo, .ref no], oO lc 7 [.int m1, .ref ec, .int (nI nC)], aO D ec 10 (lsF cl nC), oO (cl c0) 0 [.int len, .ref ta, .ref (q 0), .ref (q 1)], aT D ta 4 (tkF t), oO (t j) 4 [.ref r1, .ref r2, .ref r3], oO r1 2 [.ref a1, .int (nI sz)], oO r2 2 [.ref a2, .int (nI sz)], oO r3 2 [.ref a3, .int (nI sz)], aI D a1 16 ft, aI D a2 16 (upd fv (cntLe ft tm sz - 1) vl), aI D a3 16 (upd fe (cntLe ft tm sz - 1) es)] H := hP
  have hD : va_D A [aL D ou 1 wf, oO xo 5 [.ref lc, .ref lt, .ref bo, .ref yo, .ref no], oO lc 7 [.int m1, .ref ec, .int (nI nC)], aO D ec 10 (lsF cl nC), oO (cl c0) 0 [.int len, .ref ta, .ref (q 0), .ref (q 1)], aT D ta 4 (tkF t), oO (t j) 4 [.ref r1, .ref r2, .ref r3], oO r1 2 [.ref a1, .int (nI sz)], oO r2 2 [.ref a2, .int (nI sz)], oO r3 2 [.ref a3, .int (nI sz)], aI D a1 16 ft, aI D a2 16 (upd fv (cntLe ft tm sz - 1) vl), aI D a3 16 (upd fe (cntLe ft tm sz - 1) es)] := hD
  obtain rfl : r11 = (nI sz) := h11
  refine lv_i2l hx hb dL_key_14 rfl ?_
  refine lst (n := 1) (j := 0) hx hb hG hP hD hS 0 rfl (by omega) (by omega) dL_key_15 (fun H locs hP hD hS => ?_)
  have hP : va_P D cls [aL D ou 1 (vp_updL wf 0 ((nI sz).toInt64)), oO xo 5 [.ref lc, .ref lt, .ref bo, .ref yo, .ref no], oO lc 7 [.int m1, .ref ec, .int (nI nC)], aO D ec 10 (lsF cl nC), oO (cl c0) 0 [.int len, .ref ta, .ref (q 0), .ref (q 1)], aT D ta 4 (tkF t), oO (t j) 4 [.ref r1, .ref r2, .ref r3], oO r1 2 [.ref a1, .int (nI sz)], oO r2 2 [.ref a2, .int (nI sz)], oO r3 2 [.ref a3, .int (nI sz)], aI D a1 16 ft, aI D a2 16 (upd fv (cntLe ft tm sz - 1) vl), aI D a3 16 (upd fe (cntLe ft tm sz - 1) es)] H := hP
  have hD : va_D A [aL D ou 1 (vp_updL wf 0 ((nI sz).toInt64)), oO xo 5 [.ref lc, .ref lt, .ref bo, .ref yo, .ref no], oO lc 7 [.int m1, .ref ec, .int (nI nC)], aO D ec 10 (lsF cl nC), oO (cl c0) 0 [.int len, .ref ta, .ref (q 0), .ref (q 1)], aT D ta 4 (tkF t), oO (t j) 4 [.ref r1, .ref r2, .ref r3], oO r1 2 [.ref a1, .int (nI sz)], oO r2 2 [.ref a2, .int (nI sz)], oO r3 2 [.ref a3, .int (nI sz)], aI D a1 16 ft, aI D a2 16 (upd fv (cntLe ft tm sz - 1) vl), aI D a3 16 (upd fe (cntLe ft tm sz - 1) es)] := hD
  refine lv_goto (tgt := 31) hx hb dL_key_16 (by decide) ?_
  refine lv_iconst (v := 0) hx hb dL_key_31 (by decide) ?_
  refine Wi () hx hb hr hlk ?_ (hP.sub [1, 2, 3, 4, 5, 6, 7, 8, 9, 10, 11, 12, 0] rfl) (hD.sub [1, 2, 3, 4, 5, 6, 7, 8, 9, 10, 11, 12, 0] (by decide) rfl) hS (Nat.le_of_ble_eq_true rfl) (by first | exact Nat.le_of_ble_eq_true rfl | exact Nat.le_of_eq (Nat.zero_add _)) dL_key_32
  exact rfl
set_option maxHeartbeats 400000 in
set_option maxRecDepth 100000 in
theorem l_key_ins (l : Launch) (D : va_G) {xo lc lt bo yo no : Nat} {ec nC c0 : Nat} {m1 : Int32} {cl : Nat → Nat} {ta : Nat} {len : Int32} {q t : Nat → Nat} {j r1 r2 r3 a1 a2 a3 sz : Nat} {ft fv fe : Nat → Int32} {tm vl es : Int32} {ou : Nat} {wf : Nat → Int64} (hz0 : Nat) (hnC : nC ≤ 6) (hc : c0 < nC) (hj : j < 4) (h : (0 ≤ tm ∧ tm ≤ len) ∧ (-10000 ≤ vl ∧ vl ≤ 10000) ∧ (0 ≤ es ∧ es ≤ 4)) (hs : sz < 16) (hp : ¬ (0 < cntLe ft tm sz ∧ ft (cntLe ft tm sz - 1) = tm)) : Met l yL_key (wsW_ yL_key cL_key 8 (some .int) [(0, 16, 19, 21), (0, 16, 23, 13), (0, 16, 27, 15)]) ({ frames := 7, cells := 0, slots := 0, locals := 137 } : Room) (va_Pc [.ref xo, .int (nI c0), .int (nI j), .int tm, .int vl, .int es, .ref ou] (SW D [oO xo 5 [.ref lc, .ref lt, .ref bo, .ref yo, .ref no], oO lc 7 [.int m1, .ref ec, .int (nI nC)], aO D ec 10 (lsF cl nC), oO (cl c0) 0 [.int len, .ref ta, .ref (q 0), .ref (q 1)], aT D ta 4 (tkF t), oO (t j) 4 [.ref r1, .ref r2, .ref r3], oO r1 2 [.ref a1, .int (nI sz)], oO r2 2 [.ref a2, .int (nI sz)], oO r3 2 [.ref a3, .int (nI sz)], aI D a1 16 ft, aI D a2 16 fv, aI D a3 16 fe, aL D ou 1 wf] hz0)) (va_Qi (fun r _ => r = 0) (AT D (va_A [oO xo 5 [.ref lc, .ref lt, .ref bo, .ref yo, .ref no], oO lc 7 [.int m1, .ref ec, .int (nI nC)], aO D ec 10 (lsF cl nC), oO (cl c0) 0 [.int len, .ref ta, .ref (q 0), .ref (q 1)], aT D ta 4 (tkF t), oO (t j) 4 [.ref r1, .ref r2, .ref r3], oO r1 2 [.ref a1, .int (nI sz)], oO r2 2 [.ref a2, .int (nI sz)], oO r3 2 [.ref a3, .int (nI sz)], aI D a1 16 ft, aI D a2 16 fv, aI D a3 16 fe, aL D ou 1 wf] hz0) (fun _ : Unit => [oO xo 5 [.ref lc, .ref lt, .ref bo, .ref yo, .ref no], oO lc 7 [.int m1, .ref ec, .int (nI nC)], aO D ec 10 (lsF cl nC), oO (cl c0) 0 [.int len, .ref ta, .ref (q 0), .ref (q 1)], aT D ta 4 (tkF t), oO (t j) 4 [.ref r1, .ref r2, .ref r3], oO r1 2 [.ref a1, .int (nI (sz + 1))], oO r2 2 [.ref a2, .int (nI (sz + 1))], oO r3 2 [.ref a3, .int (nI (sz + 1))], aI D a1 16 (insF ft (cntLe ft tm sz) sz tm), aI D a2 16 (insF fv (cntLe ft tm sz) sz vl), aI D a3 16 (insF fe (cntLe ft tm sz) sz es), aL D ou 1 (vp_updL wf 0 (nI (sz + 1)).toInt64)])) (va_A [oO xo 5 [.ref lc, .ref lt, .ref bo, .ref yo, .ref no], oO lc 7 [.int m1, .ref ec, .int (nI nC)], aO D ec 10 (lsF cl nC), oO (cl c0) 0 [.int len, .ref ta, .ref (q 0), .ref (q 1)], aT D ta 4 (tkF t), oO (t j) 4 [.ref r1, .ref r2, .ref r3], oO r1 2 [.ref a1, .int (nI sz)], oO r2 2 [.ref a2, .int (nI sz)], oO r3 2 [.ref a3, .int (nI sz)], aI D a1 16 ft, aI D a2 16 fv, aI D a3 16 fe, aL D ou 1 wf] hz0)) 0 0 (va_A [oO xo 5 [.ref lc, .ref lt, .ref bo, .ref yo, .ref no], oO lc 7 [.int m1, .ref ec, .int (nI nC)], aO D ec 10 (lsF cl nC), oO (cl c0) 0 [.int len, .ref ta, .ref (q 0), .ref (q 1)], aT D ta 4 (tkF t), oO (t j) 4 [.ref r1, .ref r2, .ref r3], oO r1 2 [.ref a1, .int (nI sz)], oO r2 2 [.ref a2, .int (nI sz)], oO r3 2 [.ref a3, .int (nI sz)], aI D a1 16 ft, aI D a2 16 fv, aI D a3 16 fe, aL D ou 1 wf] hz0) := by
  refine va_MetW (hh := [(0, 16, 19, 21), (0, 16, 23, 13), (0, 16, 27, 15)]) (cc := cL_key) (maxL := 8) (ret := (some .int)) (by decide +kernel) rfl ?_
  intro p e s m args below meth c s₁ B hml hv
  obtain ⟨rfl, hsz, hG, hP, hD0⟩ := hv
  have hx := B.exec
  have hb := B.bytes
  have hr := B.returns
  have hts : ∀ w ∈ wsL_law, w.before _ s = true := fun w h => atoms_spec (ws := (wsW_ yL_key cL_key 8 (some .int) [(0, 16, 19, 21), (0, 16, 23, 13), (0, 16, 27, 15)])) B.pre w (List.mem_cons_of_mem _ (wsL2_in w h))
  have hown : s.vm.findClass RL = some m.cls := findClass_of_methodNamed B.named
  have hlk := B.notSynchronized
  have hC : CallFix p m c cL_key 8 s _ wsL_law RL := ⟨hx, hb, hml, hown, hts⟩
  subst hsz
  have hD := hD0.self (sz := s.heap.size)
  generalize hAe : va_A [oO xo 5 [.ref lc, .ref lt, .ref bo, .ref yo, .ref no], oO lc 7 [.int m1, .ref ec, .int (nI nC)], aO D ec 10 (lsF cl nC), oO (cl c0) 0 [.int len, .ref ta, .ref (q 0), .ref (q 1)], aT D ta 4 (tkF t), oO (t j) 4 [.ref r1, .ref r2, .ref r3], oO r1 2 [.ref a1, .int (nI sz)], oO r2 2 [.ref a2, .int (nI sz)], oO r3 2 [.ref a3, .int (nI sz)], aI D a1 16 ft, aI D a2 16 fv, aI D a3 16 fe, aL D ou 1 wf] s.heap.size = A at hD ⊢
  have hA : ∀ q : Nat, s.heap.size ≤ q → A q := fun q h => by rw [← hAe]; exact Or.inr h
  have hS : va_S A s.heap s.heap [] := va_S.rf
  obtain ⟨H, hHe⟩ : ∃ H, H = s.heap := ⟨_, rfl⟩
  rw [← hHe] at hP
  have hS : va_S A s.heap H [] := by rw [hHe]; exact hS
  have hl := lv_entry ([.ref xo, .int (nI c0), .int (nI j), .int tm, .int vl, .int es, .ref ou]) (n := 8) (Nat.le_of_ble_eq_true rfl)
  rw [lg_entry_eq]
  generalize (lg_sl ([.ref xo, .int (nI c0), .int (nI j), .int tm, .int vl, .int es, .ref ou]) ++ List.replicate (8 - (lg_sl ([.ref xo, .int (nI c0), .int (nI j), .int tm, .int vl, .int es, .ref ou])).length) Slot.unset).toArray = ls at hl ⊢
  have hl : lv_has ls 8 [(0, .ref xo), (1, .int (nI c0)), (2, .int (nI j)), (3, .int tm), (4, .int vl), (5, .int es), (6, .ref ou)] := hl
  rw [← hHe]
  refine lv_aload hx hb dL_key_0 (lv_at hl 6 rfl) ?_
  refine lv_iconst (v := 0) hx hb dL_key_2 (by decide) ?_
  refine lv_aload_n hx hb dL_key_3 rfl (lv_at hl 0 rfl) ?_
  refine lv_iload_n hx hb dL_key_4 rfl (lv_at hl 1 rfl) ?_
  refine lv_iload_n hx hb dL_key_5 rfl (lv_at hl 2 rfl) ?_
  refine lv_iload_n hx hb dL_key_6 rfl (lv_at hl 3 rfl) ?_
  refine lv_iload hx hb dL_key_7 (lv_at hl 4 rfl) ?_
  refine lv_iload hx hb dL_key_9 (lv_at hl 5 rfl) ?_
  have hP9 := hP.sub (ws' := [oO xo 5 [.ref lc, .ref lt, .ref bo, .ref yo, .ref no], oO lc 7 [.int m1, .ref ec, .int (nI nC)], aO D ec 10 (lsF cl nC), oO (cl c0) 0 [.int len, .ref ta, .ref (q 0), .ref (q 1)], aT D ta 4 (tkF t), oO (t j) 4 [.ref r1, .ref r2, .ref r3], oO r1 2 [.ref a1, .int (nI sz)], oO r2 2 [.ref a2, .int (nI sz)], oO r3 2 [.ref a3, .int (nI sz)], aI D a1 16 ft, aI D a2 16 fv, aI D a3 16 fe]) [0, 1, 2, 3, 4, 5, 6, 7, 8, 9, 10, 11] rfl
  have hD9 := (hD.sub (ws' := [oO xo 5 [.ref lc, .ref lt, .ref bo, .ref yo, .ref no], oO lc 7 [.int m1, .ref ec, .int (nI nC)], aO D ec 10 (lsF cl nC), oO (cl c0) 0 [.int len, .ref ta, .ref (q 0), .ref (q 1)], aT D ta 4 (tkF t), oO (t j) 4 [.ref r1, .ref r2, .ref r3], oO r1 2 [.ref a1, .int (nI sz)], oO r2 2 [.ref a2, .int (nI sz)], oO r3 2 [.ref a3, .int (nI sz)], aI D a1 16 ft, aI D a2 16 fv, aI D a3 16 fe]) [0, 1, 2, 3, 4, 5, 6, 7, 8, 9, 10, 11] (by decide) rfl).weaken (B := fun _ => True) (fun _ _ _ _ => trivial)
  refine ki (wr := [aL D ou 1 wf]) (rV (rest := [.int 0, .ref ou]) (qc := (RX5, TX5, 5)) [.int (nI c0), .int (nI j), .int tm, .int vl, .int es] 5 0 0 hC (c_key_ins l D (xo := xo) (lc := lc) (lt := lt) (bo := bo) (yo := yo) (no := no) (ec := ec) (nC := nC) (c0 := c0) (m1 := m1) (cl := cl) (ta := ta) (len := len) (q := q) (t := t) (j := j) (r1 := r1) (r2 := r2) (r3 := r3) (a1 := a1) (a2 := a2) (a3 := a3) (sz := sz) (ft := ft) (fv := fv) (fe := fe) (tm := tm) (vl := vl) (es := es) (hz0 := H.size) (hnC) (hc) (hj) (h) (hs) (hp)) rfl (hP 0 _ rfl) (gV mM_L_23 mI_X5_key mS_X5_key mN_X5 mC_X5_key) (by decide +kernel) rfl rfl ⟨Nat.le_of_ble_eq_true rfl, Nat.le_of_ble_eq_true rfl⟩ hG hP9 hD9 rfl hl.1 rfl (Nat.le_of_ble_eq_true rfl) dL_key_11 ⟨Nat.le_of_ble_eq_true rfl, Nat.le_of_ble_eq_true rfl⟩) hP hD hS hA [0, 1, 2, 3, 4, 5, 6, 7, 8, 9, 10, 11] [12] rfl rfl (by decide) (by decide) (fun r11 u11 H locs h11 hP hD hS hz hfr => ?_)
  have hP : va_P D cls [aL D ou 1 wf, oO xo 5 [.ref lc, .ref lt, .ref bo, .ref yo, .ref no], oO lc 7 [.int m1, .ref ec, .int (nI nC)], aO D ec 10 (lsF cl nC), oO (cl c0) 0 [.int len, .ref ta, .ref (q 0), .ref (q 1)], aT D ta 4 (tkF t), oO (t j) 4 [.ref r1, .ref r2, .ref r3], oO r1 2 [.ref a1, .int (nI (sz + 1))], oO r2 2 [.ref a2, .int (nI (sz + 1))], oO r3 2 [.ref a3, .int (nI (sz + 1))], aI D a1 16 (insF ft (cntLe ft tm sz) sz tm), aI D a2 16 (insF fv (cntLe ft tm sz) sz vl), aI D a3 16 (insF fe (cntLe ft tm sz) sz es)] H := hP
  have hD : va_D A [aL D ou 1 wf, oO xo 5 [.ref lc, .ref lt, .ref bo, .ref yo, .ref no], oO lc 7 [.int m1, .ref ec, .int (nI nC)], aO D ec 10 (lsF cl nC), oO (cl c0) 0 [.int len, .ref ta, .ref (q 0), .ref (q 1)], aT D ta 4 (tkF t), oO (t j) 4 [.ref r1, .ref r2, .ref r3], oO r1 2 [.ref a1, .int (nI (sz + 1))], oO r2 2 [.ref a2, .int (nI (sz + 1))], oO r3 2 [.ref a3, .int (nI (sz + 1))], aI D a1 16 (insF ft (cntLe ft tm sz) sz tm), aI D a2 16 (insF fv (cntLe ft tm sz) sz vl), aI D a3 16 (insF fe (cntLe ft tm sz) sz es)] := hD
  obtain rfl : r11 = (nI (sz + 1)) := h11
  refine lv_i2l hx hb dL_key_14 rfl ?_
  refine lst (n := 1) (j := 0) hx hb hG hP hD hS 0 rfl (by omega) (by omega) dL_key_15 (fun H locs hP hD hS => ?_)
  have hP : va_P D cls [aL D ou 1 (vp_updL wf 0 ((nI (sz + 1)).toInt64)), oO xo 5 [.ref lc, .ref lt, .ref bo, .ref yo, .ref no], oO lc 7 [.int m1, .ref ec, .int (nI nC)], aO D ec 10 (lsF cl nC), oO (cl c0) 0 [.int len, .ref ta, .ref (q 0), .ref (q 1)], aT D ta 4 (tkF t), oO (t j) 4 [.ref r1, .ref r2, .ref r3], oO r1 2 [.ref a1, .int (nI (sz + 1))], oO r2 2 [.ref a2, .int (nI (sz + 1))], oO r3 2 [.ref a3, .int (nI (sz + 1))], aI D a1 16 (insF ft (cntLe ft tm sz) sz tm), aI D a2 16 (insF fv (cntLe ft tm sz) sz vl), aI D a3 16 (insF fe (cntLe ft tm sz) sz es)] H := hP
  have hD : va_D A [aL D ou 1 (vp_updL wf 0 ((nI (sz + 1)).toInt64)), oO xo 5 [.ref lc, .ref lt, .ref bo, .ref yo, .ref no], oO lc 7 [.int m1, .ref ec, .int (nI nC)], aO D ec 10 (lsF cl nC), oO (cl c0) 0 [.int len, .ref ta, .ref (q 0), .ref (q 1)], aT D ta 4 (tkF t), oO (t j) 4 [.ref r1, .ref r2, .ref r3], oO r1 2 [.ref a1, .int (nI (sz + 1))], oO r2 2 [.ref a2, .int (nI (sz + 1))], oO r3 2 [.ref a3, .int (nI (sz + 1))], aI D a1 16 (insF ft (cntLe ft tm sz) sz tm), aI D a2 16 (insF fv (cntLe ft tm sz) sz vl), aI D a3 16 (insF fe (cntLe ft tm sz) sz es)] := hD
  refine lv_goto (tgt := 31) hx hb dL_key_16 (by decide) ?_
  refine lv_iconst (v := 0) hx hb dL_key_31 (by decide) ?_
  refine Wi () hx hb hr hlk ?_ (hP.sub [1, 2, 3, 4, 5, 6, 7, 8, 9, 10, 11, 12, 0] rfl) (hD.sub [1, 2, 3, 4, 5, 6, 7, 8, 9, 10, 11, 12, 0] (by decide) rfl) hS (Nat.le_of_ble_eq_true rfl) (by first | exact Nat.le_of_ble_eq_true rfl | exact Nat.le_of_eq (Nat.zero_add _)) dL_key_32
  exact rfl
set_option maxHeartbeats 400000 in
set_option maxRecDepth 100000 in
theorem h_unkey_1 (l : Launch) (D : va_G) (hns : l.stackTraces = false) {xo lc lt bo yo no : Nat} {ec nC : Nat} {m1 : Int32} {x p1 ix : Int32} {ou : Nat} (hz0 : Nat) (hnC : nC ≤ 6) (hxx : x < 0 ∨ nI nC ≤ x) : Met l yL_unkey (wsW_ yL_unkey cL_unkey 6 (some .int) [(0, 12, 15, 21)]) ({ frames := 7, cells := 1, slots := 6, locals := 126 } : Room) (va_Pc [.ref xo, .int x, .int p1, .int ix, .ref ou] (TW D [oO xo 5 [.ref lc, .ref lt, .ref bo, .ref yo, .ref no], oO lc 7 [.int m1, .ref ec, .int (nI nC)]] hz0)) (va_Qi (fun r (_ : Unit) => r = 1) (fun _ _ => True) (va_A [] hz0)) 1 6 (va_A [] hz0) := by
  refine va_MetW (hh := [(0, 12, 15, 21)]) (cc := cL_unkey) (maxL := 6) (ret := (some .int)) (by decide +kernel) rfl ?_
  intro p e s m args below meth c s₁ B hml hv
  obtain ⟨rfl, hsz, hG, hP, hZ⟩ := hv
  subst hsz
  have hx := B.exec
  have hb := B.bytes
  have hr := B.returns
  have hts : ∀ w ∈ wsL_law, w.before _ s = true := fun w h => atoms_spec (ws := (wsW_ yL_unkey cL_unkey 6 (some .int) [(0, 12, 15, 21)])) B.pre w (List.mem_cons_of_mem _ (wsL2_in w h))
  have hk15 : (Cond.classLink RL 15 "java/lang/IllegalStateException").before _ s = true := atoms_spec (ws := (wsW_ yL_unkey cL_unkey 6 (some .int) [(0, 12, 15, 21)])) B.pre _ (List.mem_cons_of_mem _ List.mem_cons_self)
  have hown : s.vm.findClass RL = some m.cls := findClass_of_methodNamed B.named
  have hlk := B.notSynchronized
  have hC : CallFix p m c cL_unkey 6 s _ wsL_law RL := ⟨hx, hb, hml, hown, hts⟩
  have hS : va_S (va_A [] s.heap.size) s.heap s.heap [] := va_S.rf
  have hl := lv_entry ([.ref xo, .int x, .int p1, .int ix, .ref ou]) (n := 6) (Nat.le_of_ble_eq_true rfl)
  rw [lg_entry_eq]
  generalize (lg_sl ([.ref xo, .int x, .int p1, .int ix, .ref ou]) ++ List.replicate (6 - (lg_sl ([.ref xo, .int x, .int p1, .int ix, .ref ou])).length) Slot.unset).toArray = ls at hl ⊢
  have hl : lv_has ls 6 [(0, .ref xo), (1, .int x), (2, .int p1), (3, .int ix), (4, .ref ou)] := hl
  refine lv_aload hx hb dL_unkey_0 (lv_at hl 4 rfl) ?_
  refine lv_iconst (v := 0) hx hb dL_unkey_2 (by decide) ?_
  refine lv_aload_n hx hb dL_unkey_3 rfl (lv_at hl 0 rfl) ?_
  refine lv_iload_n hx hb dL_unkey_4 rfl (lv_at hl 1 rfl) ?_
  refine lv_iload_n hx hb dL_unkey_5 rfl (lv_at hl 2 rfl) ?_
  refine lv_iload_n hx hb dL_unkey_6 rfl (lv_at hl 3 rfl) ?_
  have hP9 := hP.sub (ws' := [oO xo 5 [.ref lc, .ref lt, .ref bo, .ref yo, .ref no], oO lc 7 [.int m1, .ref ec, .int (nI nC)]]) [0, 1] rfl
  refine vx_calli (A0 := va_A [] s.heap.size) (rX (rest := [.int 0, .ref ou]) (qc := (RX5, TX5, 5)) [.int x, .int p1, .int ix] 3 hC (t_unkey_1 l D hns (xo := xo) (lc := lc) (lt := lt) (bo := bo) (yo := yo) (no := no) (ec := ec) (nC := nC) (m1 := m1) (x := x) (p1 := p1) (ix := ix) (hz0 := s.heap.size) (hnC) (hxx)) rfl (hP 0 _ rfl) (gV mM_L_27 mI_X5_unkey mS_X5_unkey mN_X5 mC_X5_unkey) (by decide +kernel) rfl rfl ⟨Nat.le_of_ble_eq_true rfl, Nat.le_of_ble_eq_true rfl⟩ hG hP9 hZ rfl hl.1 rfl (Nat.le_of_ble_eq_true rfl) dL_unkey_7 ⟨Nat.le_of_ble_eq_true rfl, Nat.le_of_ble_eq_true rfl⟩) hS (fun q _ h => h) (fun q h => h) (fun q _ h => h) (fun E ce q9 u9 t H1 locs1 ht hvm hp9 hB hz hk hS1 hce hcv hcl => ?_) (fun r u t H1 locs1 ht hvm hp9 _ _ _ _ => hp9.elim)
  obtain rfl : E = "java/lang/IndexOutOfBoundsException" := hB
  have htb := vx_table (x := yL_unkey) B (hts _ mW_L_unkey)
  refine vx_catch (own := RL) (name := "java/lang/IndexOutOfBoundsException") (pc := 7) (rest := [.int 0, .ref ou]) hown [] ⟨0, 12, 15, 21⟩ [] (by rw [htb]; rfl) (fun z hz9 => absurd hz9 List.not_mem_nil) rfl (by decide) (hts _ mK_L_21) (va_Nw.use rfl (gkC hG 4 rfl)) hce hcv hcl ?_
  refine lv_astore (lv' := [(5, .ref q9), (0, .ref xo), (1, .int x), (2, .int p1), (3, .int ix), (4, .ref ou)]) hx hb dL_unkey_15 hl (by decide) rfl (fun ls hl => ?_)
  refine lv_iconst (v := 1) hx hb dL_unkey_17 (by decide) ?_
  exact W.iret (v := 1) hx hb hr (fun t ht _ => ⟨⟨_, (), rfl, rfl, trivial⟩, hS1.F ht⟩) hS1.2.2 dL_unkey_18 hlk
set_option maxHeartbeats 400000 in
set_option maxRecDepth 100000 in
theorem h_unkey_2 (l : Launch) (D : va_G) (hns : l.stackTraces = false) {xo lc lt bo yo no : Nat} {ec nC c0 : Nat} {m1 : Int32} {cl : Nat → Nat} {ta : Nat} {len : Int32} {q t : Nat → Nat} {p1 ix : Int32} {ou : Nat} (hz0 : Nat) (hnC : nC ≤ 6) (hc : c0 < nC) (hp : p1 < 0 ∨ 4 ≤ p1) : Met l yL_unkey (wsW_ yL_unkey cL_unkey 6 (some .int) [(0, 12, 15, 21)]) ({ frames := 7, cells := 1, slots := 6, locals := 126 } : Room) (va_Pc [.ref xo, .int (nI c0), .int p1, .int ix, .ref ou] (TW D [oO xo 5 [.ref lc, .ref lt, .ref bo, .ref yo, .ref no], oO lc 7 [.int m1, .ref ec, .int (nI nC)], aO D ec 10 (lsF cl nC), oO (cl c0) 0 [.int len, .ref ta, .ref (q 0), .ref (q 1)], aT D ta 4 (tkF t)] hz0)) (va_Qi (fun r (_ : Unit) => r = 1) (fun _ _ => True) (va_A [] hz0)) 1 6 (va_A [] hz0) := by
  refine va_MetW (hh := [(0, 12, 15, 21)]) (cc := cL_unkey) (maxL := 6) (ret := (some .int)) (by decide +kernel) rfl ?_
  intro p e s m args below meth c s₁ B hml hv
  obtain ⟨rfl, hsz, hG, hP, hZ⟩ := hv
  subst hsz
  have hx := B.exec
  have hb := B.bytes
  have hr := B.returns
  have hts : ∀ w ∈ wsL_law, w.before _ s = true := fun w h => atoms_spec (ws := (wsW_ yL_unkey cL_unkey 6 (some .int) [(0, 12, 15, 21)])) B.pre w (List.mem_cons_of_mem _ (wsL2_in w h))
  have hk15 : (Cond.classLink RL 15 "java/lang/IllegalStateException").before _ s = true := atoms_spec (ws := (wsW_ yL_unkey cL_unkey 6 (some .int) [(0, 12, 15, 21)])) B.pre _ (List.mem_cons_of_mem _ List.mem_cons_self)
  have hown : s.vm.findClass RL = some m.cls := findClass_of_methodNamed B.named
  have hlk := B.notSynchronized
  have hC : CallFix p m c cL_unkey 6 s _ wsL_law RL := ⟨hx, hb, hml, hown, hts⟩
  have hS : va_S (va_A [] s.heap.size) s.heap s.heap [] := va_S.rf
  have hl := lv_entry ([.ref xo, .int (nI c0), .int p1, .int ix, .ref ou]) (n := 6) (Nat.le_of_ble_eq_true rfl)
  rw [lg_entry_eq]
  generalize (lg_sl ([.ref xo, .int (nI c0), .int p1, .int ix, .ref ou]) ++ List.replicate (6 - (lg_sl ([.ref xo, .int (nI c0), .int p1, .int ix, .ref ou])).length) Slot.unset).toArray = ls at hl ⊢
  have hl : lv_has ls 6 [(0, .ref xo), (1, .int (nI c0)), (2, .int p1), (3, .int ix), (4, .ref ou)] := hl
  refine lv_aload hx hb dL_unkey_0 (lv_at hl 4 rfl) ?_
  refine lv_iconst (v := 0) hx hb dL_unkey_2 (by decide) ?_
  refine lv_aload_n hx hb dL_unkey_3 rfl (lv_at hl 0 rfl) ?_
  refine lv_iload_n hx hb dL_unkey_4 rfl (lv_at hl 1 rfl) ?_
  refine lv_iload_n hx hb dL_unkey_5 rfl (lv_at hl 2 rfl) ?_
  refine lv_iload_n hx hb dL_unkey_6 rfl (lv_at hl 3 rfl) ?_
  have hP9 := hP.sub (ws' := [oO xo 5 [.ref lc, .ref lt, .ref bo, .ref yo, .ref no], oO lc 7 [.int m1, .ref ec, .int (nI nC)], aO D ec 10 (lsF cl nC), oO (cl c0) 0 [.int len, .ref ta, .ref (q 0), .ref (q 1)], aT D ta 4 (tkF t)]) [0, 1, 2, 3, 4] rfl
  refine vx_calli (A0 := va_A [] s.heap.size) (rX (rest := [.int 0, .ref ou]) (qc := (RX5, TX5, 5)) [.int (nI c0), .int p1, .int ix] 3 hC (t_unkey_2 l D hns (xo := xo) (lc := lc) (lt := lt) (bo := bo) (yo := yo) (no := no) (ec := ec) (nC := nC) (c0 := c0) (m1 := m1) (cl := cl) (ta := ta) (len := len) (q := q) (t := t) (p1 := p1) (ix := ix) (hz0 := s.heap.size) (hnC) (hc) (hp)) rfl (hP 0 _ rfl) (gV mM_L_27 mI_X5_unkey mS_X5_unkey mN_X5 mC_X5_unkey) (by decide +kernel) rfl rfl ⟨Nat.le_of_ble_eq_true rfl, Nat.le_of_ble_eq_true rfl⟩ hG hP9 hZ rfl hl.1 rfl (Nat.le_of_ble_eq_true rfl) dL_unkey_7 ⟨Nat.le_of_ble_eq_true rfl, Nat.le_of_ble_eq_true rfl⟩) hS (fun q _ h => h) (fun q h => h) (fun q _ h => h) (fun E ce q9 u9 t H1 locs1 ht hvm hp9 hB hz hk hS1 hce hcv hcl => ?_) (fun r u t H1 locs1 ht hvm hp9 _ _ _ _ => hp9.elim)
  obtain rfl : E = "java/lang/IndexOutOfBoundsException" := hB
  have htb := vx_table (x := yL_unkey) B (hts _ mW_L_unkey)
  refine vx_catch (own := RL) (name := "java/lang/IndexOutOfBoundsException") (pc := 7) (rest := [.int 0, .ref ou]) hown [] ⟨0, 12, 15, 21⟩ [] (by rw [htb]; rfl) (fun z hz9 => absurd hz9 List.not_mem_nil) rfl (by decide) (hts _ mK_L_21) (va_Nw.use rfl (gkC hG 4 rfl)) hce hcv hcl ?_
  refine lv_astore (lv' := [(5, .ref q9), (0, .ref xo), (1, .int (nI c0)), (2, .int p1), (3, .int ix), (4, .ref ou)]) hx hb dL_unkey_15 hl (by decide) rfl (fun ls hl => ?_)
  refine lv_iconst (v := 1) hx hb dL_unkey_17 (by decide) ?_
  exact W.iret (v := 1) hx hb hr (fun t ht _ => ⟨⟨_, (), rfl, rfl, trivial⟩, hS1.F ht⟩) hS1.2.2 dL_unkey_18 hlk
set_option maxHeartbeats 400000 in
set_option maxRecDepth 100000 in
theorem h_unkey_3 (l : Launch) (D : va_G) (hns : l.stackTraces = false) {xo lc lt bo yo no : Nat} {ec nC c0 : Nat} {m1 : Int32} {cl : Nat → Nat} {ta : Nat} {len : Int32} {q t : Nat → Nat} {j r1 r2 r3 a1 a2 a3 sz : Nat} {ft fv fe : Nat → Int32} {ix : Int32} {ou : Nat} (hz0 : Nat) (hnC : nC ≤ 6) (hc : c0 < nC) (hj : j < 4) (hs : sz ≤ 16) (h : ¬ (0 ≤ ix ∧ ix ≤ nI sz - 1)) : Met l yL_unkey (wsW_ yL_unkey cL_unkey 6 (some .int) [(0, 12, 15, 21)]) ({ frames := 7, cells := 1, slots := 6, locals := 126 } : Room) (va_Pc [.ref xo, .int (nI c0), .int (nI j), .int ix, .ref ou] (TW D [oO xo 5 [.ref lc, .ref lt, .ref bo, .ref yo, .ref no], oO lc 7 [.int m1, .ref ec, .int (nI nC)], aO D ec 10 (lsF cl nC), oO (cl c0) 0 [.int len, .ref ta, .ref (q 0), .ref (q 1)], aT D ta 4 (tkF t), oO (t j) 4 [.ref r1, .ref r2, .ref r3], oO r1 2 [.ref a1, .int (nI sz)], oO r2 2 [.ref a2, .int (nI sz)], oO r3 2 [.ref a3, .int (nI sz)], aI D a1 16 ft, aI D a2 16 fv, aI D a3 16 fe] hz0)) (va_Qi (fun r (_ : Unit) => r = 1) (fun _ _ => True) (va_A [] hz0)) 1 6 (va_A [] hz0) := by
  refine va_MetW (hh := [(0, 12, 15, 21)]) (cc := cL_unkey) (maxL := 6) (ret := (some .int)) (by decide +kernel) rfl ?_
  intro p e s m args below meth c s₁ B hml hv
  obtain ⟨rfl, hsz, hG, hP, hZ⟩ := hv
  subst hsz
  have hx := B.exec
  have hb := B.bytes
  have hr := B.returns
  have hts : ∀ w ∈ wsL_law, w.before _ s = true := fun w h => atoms_spec (ws := (wsW_ yL_unkey cL_unkey 6 (some .int) [(0, 12, 15, 21)])) B.pre w (List.mem_cons_of_mem _ (wsL2_in w h))
  have hk15 : (Cond.classLink RL 15 "java/lang/IllegalStateException").before _ s = true := atoms_spec (ws := (wsW_ yL_unkey cL_unkey 6 (some .int) [(0, 12, 15, 21)])) B.pre _ (List.mem_cons_of_mem _ List.mem_cons_self)
  have hown : s.vm.findClass RL = some m.cls := findClass_of_methodNamed B.named
  have hlk := B.notSynchronized
  have hC : CallFix p m c cL_unkey 6 s _ wsL_law RL := ⟨hx, hb, hml, hown, hts⟩
  have hS : va_S (va_A [] s.heap.size) s.heap s.heap [] := va_S.rf
  have hl := lv_entry ([.ref xo, .int (nI c0), .int (nI j), .int ix, .ref ou]) (n := 6) (Nat.le_of_ble_eq_true rfl)
  rw [lg_entry_eq]
  generalize (lg_sl ([.ref xo, .int (nI c0), .int (nI j), .int ix, .ref ou]) ++ List.replicate (6 - (lg_sl ([.ref xo, .int (nI c0), .int (nI j), .int ix, .ref ou])).length) Slot.unset).toArray = ls at hl ⊢
  have hl : lv_has ls 6 [(0, .ref xo), (1, .int (nI c0)), (2, .int (nI j)), (3, .int ix), (4, .ref ou)] := hl
  refine lv_aload hx hb dL_unkey_0 (lv_at hl 4 rfl) ?_
  refine lv_iconst (v := 0) hx hb dL_unkey_2 (by decide) ?_
  refine lv_aload_n hx hb dL_unkey_3 rfl (lv_at hl 0 rfl) ?_
  refine lv_iload_n hx hb dL_unkey_4 rfl (lv_at hl 1 rfl) ?_
  refine lv_iload_n hx hb dL_unkey_5 rfl (lv_at hl 2 rfl) ?_
  refine lv_iload_n hx hb dL_unkey_6 rfl (lv_at hl 3 rfl) ?_
  have hP9 := hP.sub (ws' := [oO xo 5 [.ref lc, .ref lt, .ref bo, .ref yo, .ref no], oO lc 7 [.int m1, .ref ec, .int (nI nC)], aO D ec 10 (lsF cl nC), oO (cl c0) 0 [.int len, .ref ta, .ref (q 0), .ref (q 1)], aT D ta 4 (tkF t), oO (t j) 4 [.ref r1, .ref r2, .ref r3], oO r1 2 [.ref a1, .int (nI sz)], oO r2 2 [.ref a2, .int (nI sz)], oO r3 2 [.ref a3, .int (nI sz)], aI D a1 16 ft, aI D a2 16 fv, aI D a3 16 fe]) [0, 1, 2, 3, 4, 5, 6, 7, 8, 9, 10, 11] rfl
  refine vx_calli (A0 := va_A [] s.heap.size) (rX (rest := [.int 0, .ref ou]) (qc := (RX5, TX5, 5)) [.int (nI c0), .int (nI j), .int ix] 3 hC (t_unkey_3 l D hns (xo := xo) (lc := lc) (lt := lt) (bo := bo) (yo := yo) (no := no) (ec := ec) (nC := nC) (c0 := c0) (m1 := m1) (cl := cl) (ta := ta) (len := len) (q := q) (t := t) (j := j) (r1 := r1) (r2 := r2) (r3 := r3) (a1 := a1) (a2 := a2) (a3 := a3) (sz := sz) (ft := ft) (fv := fv) (fe := fe) (ix := ix) (hz0 := s.heap.size) (hnC) (hc) (hj) (hs) (h)) rfl (hP 0 _ rfl) (gV mM_L_27 mI_X5_unkey mS_X5_unkey mN_X5 mC_X5_unkey) (by decide +kernel) rfl rfl ⟨Nat.le_of_ble_eq_true rfl, Nat.le_of_ble_eq_true rfl⟩ hG hP9 hZ rfl hl.1 rfl (Nat.le_of_ble_eq_true rfl) dL_unkey_7 ⟨Nat.le_of_ble_eq_true rfl, Nat.le_of_ble_eq_true rfl⟩) hS (fun q _ h => h) (fun q h => h) (fun q _ h => h) (fun E ce q9 u9 t H1 locs1 ht hvm hp9 hB hz hk hS1 hce hcv hcl => ?_) (fun r u t H1 locs1 ht hvm hp9 _ _ _ _ => hp9.elim)
  obtain rfl : E = "java/lang/IndexOutOfBoundsException" := hB
  have htb := vx_table (x := yL_unkey) B (hts _ mW_L_unkey)
  refine vx_catch (own := RL) (name := "java/lang/IndexOutOfBoundsException") (pc := 7) (rest := [.int 0, .ref ou]) hown [] ⟨0, 12, 15, 21⟩ [] (by rw [htb]; rfl) (fun z hz9 => absurd hz9 List.not_mem_nil) rfl (by decide) (hts _ mK_L_21) (va_Nw.use rfl (gkC hG 4 rfl)) hce hcv hcl ?_
  refine lv_astore (lv' := [(5, .ref q9), (0, .ref xo), (1, .int (nI c0)), (2, .int (nI j)), (3, .int ix), (4, .ref ou)]) hx hb dL_unkey_15 hl (by decide) rfl (fun ls hl => ?_)
  refine lv_iconst (v := 1) hx hb dL_unkey_17 (by decide) ?_
  exact W.iret (v := 1) hx hb hr (fun t ht _ => ⟨⟨_, (), rfl, rfl, trivial⟩, hS1.F ht⟩) hS1.2.2 dL_unkey_18 hlk
set_option maxHeartbeats 400000 in
set_option maxRecDepth 100000 in
theorem l_unkey (l : Launch) (D : va_G) {xo lc lt bo yo no : Nat} {ec nC c0 : Nat} {m1 : Int32} {cl : Nat → Nat} {ta : Nat} {len : Int32} {q t : Nat → Nat} {j r1 r2 r3 a1 a2 a3 sz : Nat} {ft fv fe : Nat → Int32} {i : Nat} {ou : Nat} {wf : Nat → Int64} (hz0 : Nat) (hnC : nC ≤ 6) (hc : c0 < nC) (hj : j < 4) (hs : sz ≤ 16) (hi : i < sz) : Met l yL_unkey (wsW_ yL_unkey cL_unkey 6 (some .int) [(0, 12, 15, 21)]) ({ frames := 7, cells := 0, slots := 0, locals := 126 } : Room) (va_Pc [.ref xo, .int (nI c0), .int (nI j), .int (nI i), .ref ou] (SW D [oO xo 5 [.ref lc, .ref lt, .ref bo, .ref yo, .ref no], oO lc 7 [.int m1, .ref ec, .int (nI nC)], aO D ec 10 (lsF cl nC), oO (cl c0) 0 [.int len, .ref ta, .ref (q 0), .ref (q 1)], aT D ta 4 (tkF t), oO (t j) 4 [.ref r1, .ref r2, .ref r3], oO r1 2 [.ref a1, .int (nI sz)], oO r2 2 [.ref a2, .int (nI sz)], oO r3 2 [.ref a3, .int (nI sz)], aI D a1 16 ft, aI D a2 16 fv, aI D a3 16 fe, aL D ou 1 wf] hz0)) (va_Qi (fun r _ => r = 0) (AT D (va_A [oO xo 5 [.ref lc, .ref lt, .ref bo, .ref yo, .ref no], oO lc 7 [.int m1, .ref ec, .int (nI nC)], aO D ec 10 (lsF cl nC), oO (cl c0) 0 [.int len, .ref ta, .ref (q 0), .ref (q 1)], aT D ta 4 (tkF t), oO (t j) 4 [.ref r1, .ref r2, .ref r3], oO r1 2 [.ref a1, .int (nI sz)], oO r2 2 [.ref a2, .int (nI sz)], oO r3 2 [.ref a3, .int (nI sz)], aI D a1 16 ft, aI D a2 16 fv, aI D a3 16 fe, aL D ou 1 wf] hz0) (fun _ : Unit => [oO xo 5 [.ref lc, .ref lt, .ref bo, .ref yo, .ref no], oO lc 7 [.int m1, .ref ec, .int (nI nC)], aO D ec 10 (lsF cl nC), oO (cl c0) 0 [.int len, .ref ta, .ref (q 0), .ref (q 1)], aT D ta 4 (tkF t), oO (t j) 4 [.ref r1, .ref r2, .ref r3], oO r1 2 [.ref a1, .int (nI (sz - 1))], oO r2 2 [.ref a2, .int (nI (sz - 1))], oO r3 2 [.ref a3, .int (nI (sz - 1))], aI D a1 16 (dlF ft i sz), aI D a2 16 (dlF fv i sz), aI D a3 16 (dlF fe i sz), aL D ou 1 (vp_updL wf 0 (nI (sz - 1)).toInt64)])) (va_A [oO xo 5 [.ref lc, .ref lt, .ref bo, .ref yo, .ref no], oO lc 7 [.int m1, .ref ec, .int (nI nC)], aO D ec 10 (lsF cl nC), oO (cl c0) 0 [.int len, .ref ta, .ref (q 0), .ref (q 1)], aT D ta 4 (tkF t), oO (t j) 4 [.ref r1, .ref r2, .ref r3], oO r1 2 [.ref a1, .int (nI sz)], oO r2 2 [.ref a2, .int (nI sz)], oO r3 2 [.ref a3, .int (nI sz)], aI D a1 16 ft, aI D a2 16 fv, aI D a3 16 fe, aL D ou 1 wf] hz0)) 0 0 (va_A [oO xo 5 [.ref lc, .ref lt, .ref bo, .ref yo, .ref no], oO lc 7 [.int m1, .ref ec, .int (nI nC)], aO D ec 10 (lsF cl nC), oO (cl c0) 0 [.int len, .ref ta, .ref (q 0), .ref (q 1)], aT D ta 4 (tkF t), oO (t j) 4 [.ref r1, .ref r2, .ref r3], oO r1 2 [.ref a1, .int (nI sz)], oO r2 2 [.ref a2, .int (nI sz)], oO r3 2 [.ref a3, .int (nI sz)], aI D a1 16 ft, aI D a2 16 fv, aI D a3 16 fe, aL D ou 1 wf] hz0) := by
  refine va_MetW (hh := [(0, 12, 15, 21)]) (cc := cL_unkey) (maxL := 6) (ret := (some .int)) (by decide +kernel) rfl ?_
  intro p e s m args below meth c s₁ B hml hv
  obtain ⟨rfl, hsz, hG, hP, hD0⟩ := hv
  have hx := B.exec
  have hb := B.bytes
  have hr := B.returns
  have hts : ∀ w ∈ wsL_law, w.before _ s = true := fun w h => atoms_spec (ws := (wsW_ yL_unkey cL_unkey 6 (some .int) [(0, 12, 15, 21)])) B.pre w (List.mem_cons_of_mem _ (wsL2_in w h))
  have hown : s.vm.findClass RL = some m.cls := findClass_of_methodNamed B.named
  have hlk := B.notSynchronized
  have hC : CallFix p m c cL_unkey 6 s _ wsL_law RL := ⟨hx, hb, hml, hown, hts⟩
  subst hsz
  have hD := hD0.self (sz := s.heap.size)
  generalize hAe : va_A [oO xo 5 [.ref lc, .ref lt, .ref bo, .ref yo, .ref no], oO lc 7 [.int m1, .ref ec, .int (nI nC)], aO D ec 10 (lsF cl nC), oO (cl c0) 0 [.int len, .ref ta, .ref (q 0), .ref (q 1)], aT D ta 4 (tkF t), oO (t j) 4 [.ref r1, .ref r2, .ref r3], oO r1 2 [.ref a1, .int (nI sz)], oO r2 2 [.ref a2, .int (nI sz)], oO r3 2 [.ref a3, .int (nI sz)], aI D a1 16 ft, aI D a2 16 fv, aI D a3 16 fe, aL D ou 1 wf] s.heap.size = A at hD ⊢
  have hA : ∀ q : Nat, s.heap.size ≤ q → A q := fun q h => by rw [← hAe]; exact Or.inr h
  have hS : va_S A s.heap s.heap [] := va_S.rf
  obtain ⟨H, hHe⟩ : ∃ H, H = s.heap := ⟨_, rfl⟩
  rw [← hHe] at hP
  have hS : va_S A s.heap H [] := by rw [hHe]; exact hS
  have hl := lv_entry ([.ref xo, .int (nI c0), .int (nI j), .int (nI i), .ref ou]) (n := 6) (Nat.le_of_ble_eq_true rfl)
  rw [lg_entry_eq]
  generalize (lg_sl ([.ref xo, .int (nI c0), .int (nI j), .int (nI i), .ref ou]) ++ List.replicate (6 - (lg_sl ([.ref xo, .int (nI c0), .int (nI j), .int (nI i), .ref ou])).length) Slot.unset).toArray = ls at hl ⊢
  have hl : lv_has ls 6 [(0, .ref xo), (1, .int (nI c0)), (2, .int (nI j)), (3, .int (nI i)), (4, .ref ou)] := hl
  rw [← hHe]
  refine lv_aload hx hb dL_unkey_0 (lv_at hl 4 rfl) ?_
  refine lv_iconst (v := 0) hx hb dL_unkey_2 (by decide) ?_
  refine lv_aload_n hx hb dL_unkey_3 rfl (lv_at hl 0 rfl) ?_
  refine lv_iload_n hx hb dL_unkey_4 rfl (lv_at hl 1 rfl) ?_
  refine lv_iload_n hx hb dL_unkey_5 rfl (lv_at hl 2 rfl) ?_
  refine lv_iload_n hx hb dL_unkey_6 rfl (lv_at hl 3 rfl) ?_
  have hP9 := hP.sub (ws' := [oO xo 5 [.ref lc, .ref lt, .ref bo, .ref yo, .ref no], oO lc 7 [.int m1, .ref ec, .int (nI nC)], aO D ec 10 (lsF cl nC), oO (cl c0) 0 [.int len, .ref ta, .ref (q 0), .ref (q 1)], aT D ta 4 (tkF t), oO (t j) 4 [.ref r1, .ref r2, .ref r3], oO r1 2 [.ref a1, .int (nI sz)], oO r2 2 [.ref a2, .int (nI sz)], oO r3 2 [.ref a3, .int (nI sz)], aI D a1 16 ft, aI D a2 16 fv, aI D a3 16 fe]) [0, 1, 2, 3, 4, 5, 6, 7, 8, 9, 10, 11] rfl
  have hD9 := (hD.sub (ws' := [oO xo 5 [.ref lc, .ref lt, .ref bo, .ref yo, .ref no], oO lc 7 [.int m1, .ref ec, .int (nI nC)], aO D ec 10 (lsF cl nC), oO (cl c0) 0 [.int len, .ref ta, .ref (q 0), .ref (q 1)], aT D ta 4 (tkF t), oO (t j) 4 [.ref r1, .ref r2, .ref r3], oO r1 2 [.ref a1, .int (nI sz)], oO r2 2 [.ref a2, .int (nI sz)], oO r3 2 [.ref a3, .int (nI sz)], aI D a1 16 ft, aI D a2 16 fv, aI D a3 16 fe]) [0, 1, 2, 3, 4, 5, 6, 7, 8, 9, 10, 11] (by decide) rfl).weaken (B := fun _ => True) (fun _ _ _ _ => trivial)
  refine ki (wr := [aL D ou 1 wf]) (rV (rest := [.int 0, .ref ou]) (qc := (RX5, TX5, 5)) [.int (nI c0), .int (nI j), .int (nI i)] 3 0 0 hC (c_unkey l D (xo := xo) (lc := lc) (lt := lt) (bo := bo) (yo := yo) (no := no) (ec := ec) (nC := nC) (c0 := c0) (m1 := m1) (cl := cl) (ta := ta) (len := len) (q := q) (t := t) (j := j) (r1 := r1) (r2 := r2) (r3 := r3) (a1 := a1) (a2 := a2) (a3 := a3) (sz := sz) (ft := ft) (fv := fv) (fe := fe) (i := i) (hz0 := H.size) (hnC) (hc) (hj) (hs) (hi)) rfl (hP 0 _ rfl) (gV mM_L_27 mI_X5_unkey mS_X5_unkey mN_X5 mC_X5_unkey) (by decide +kernel) rfl rfl ⟨Nat.le_of_ble_eq_true rfl, Nat.le_of_ble_eq_true rfl⟩ hG hP9 hD9 rfl hl.1 rfl (Nat.le_of_ble_eq_true rfl) dL_unkey_7 ⟨Nat.le_of_ble_eq_true rfl, Nat.le_of_ble_eq_true rfl⟩) hP hD hS hA [0, 1, 2, 3, 4, 5, 6, 7, 8, 9, 10, 11] [12] rfl rfl (by decide) (by decide) (fun r7 u7 H locs h7 hP hD hS hz hfr => ?_)
  have hP : va_P D cls [aL D ou 1 wf, oO xo 5 [.ref lc, .ref lt, .ref bo, .ref yo, .ref no], oO lc 7 [.int m1, .ref ec, .int (nI nC)], aO D ec 10 (lsF cl nC), oO (cl c0) 0 [.int len, .ref ta, .ref (q 0), .ref (q 1)], aT D ta 4 (tkF t), oO (t j) 4 [.ref r1, .ref r2, .ref r3], oO r1 2 [.ref a1, .int (nI (sz - 1))], oO r2 2 [.ref a2, .int (nI (sz - 1))], oO r3 2 [.ref a3, .int (nI (sz - 1))], aI D a1 16 (dlF ft i sz), aI D a2 16 (dlF fv i sz), aI D a3 16 (dlF fe i sz)] H := hP
  have hD : va_D A [aL D ou 1 wf, oO xo 5 [.ref lc, .ref lt, .ref bo, .ref yo, .ref no], oO lc 7 [.int m1, .ref ec, .int (nI nC)], aO D ec 10 (lsF cl nC), oO (cl c0) 0 [.int len, .ref ta, .ref (q 0), .ref (q 1)], aT D ta 4 (tkF t), oO (t j) 4 [.ref r1, .ref r2, .ref r3], oO r1 2 [.ref a1, .int (nI (sz - 1))], oO r2 2 [.ref a2, .int (nI (sz - 1))], oO r3 2 [.ref a3, .int (nI (sz - 1))], aI D a1 16 (dlF ft i sz), aI D a2 16 (dlF fv i sz), aI D a3 16 (dlF fe i sz)] := hD
  obtain rfl : r7 = (nI (sz - 1)) := h7
  refine lv_i2l hx hb dL_unkey_10 rfl ?_
  refine lst (n := 1) (j := 0) hx hb hG hP hD hS 0 rfl (by omega) (by omega) dL_unkey_11 (fun H locs hP hD hS => ?_)
  have hP : va_P D cls [aL D ou 1 (vp_updL wf 0 ((nI (sz - 1)).toInt64)), oO xo 5 [.ref lc, .ref lt, .ref bo, .ref yo, .ref no], oO lc 7 [.int m1, .ref ec, .int (nI nC)], aO D ec 10 (lsF cl nC), oO (cl c0) 0 [.int len, .ref ta, .ref (q 0), .ref (q 1)], aT D ta 4 (tkF t), oO (t j) 4 [.ref r1, .ref r2, .ref r3], oO r1 2 [.ref a1, .int (nI (sz - 1))], oO r2 2 [.ref a2, .int (nI (sz - 1))], oO r3 2 [.ref a3, .int (nI (sz - 1))], aI D a1 16 (dlF ft i sz), aI D a2 16 (dlF fv i sz), aI D a3 16 (dlF fe i sz)] H := hP
  have hD : va_D A [aL D ou 1 (vp_updL wf 0 ((nI (sz - 1)).toInt64)), oO xo 5 [.ref lc, .ref lt, .ref bo, .ref yo, .ref no], oO lc 7 [.int m1, .ref ec, .int (nI nC)], aO D ec 10 (lsF cl nC), oO (cl c0) 0 [.int len, .ref ta, .ref (q 0), .ref (q 1)], aT D ta 4 (tkF t), oO (t j) 4 [.ref r1, .ref r2, .ref r3], oO r1 2 [.ref a1, .int (nI (sz - 1))], oO r2 2 [.ref a2, .int (nI (sz - 1))], oO r3 2 [.ref a3, .int (nI (sz - 1))], aI D a1 16 (dlF ft i sz), aI D a2 16 (dlF fv i sz), aI D a3 16 (dlF fe i sz)] := hD
  refine lv_goto (tgt := 19) hx hb dL_unkey_12 (by decide) ?_
  refine lv_iconst (v := 0) hx hb dL_unkey_19 (by decide) ?_
  refine Wi () hx hb hr hlk ?_ (hP.sub [1, 2, 3, 4, 5, 6, 7, 8, 9, 10, 11, 12, 0] rfl) (hD.sub [1, 2, 3, 4, 5, 6, 7, 8, 9, 10, 11, 12, 0] (by decide) rfl) hS (Nat.le_of_ble_eq_true rfl) (by first | exact Nat.le_of_ble_eq_true rfl | exact Nat.le_of_eq (Nat.zero_add _)) dL_unkey_20
  exact rfl
set_option maxHeartbeats 400000 in
set_option maxRecDepth 100000 in
theorem h_keys_1 (l : Launch) (D : va_G) (hns : l.stackTraces = false) {xo lc lt bo yo no : Nat} {ec nC : Nat} {m1 : Int32} {x p1 : Int32} {ou : Nat} (hz0 : Nat) (hnC : nC ≤ 6) (hxx : x < 0 ∨ nI nC ≤ x) : Met l yL_keys (wsW_ yL_keys cL_keys 5 (some .int) [(0, 10, 13, 21)]) ({ frames := 7, cells := 1, slots := 6, locals := 125 } : Room) (va_Pc [.ref xo, .int x, .int p1, .ref ou] (TW D [oO xo 5 [.ref lc, .ref lt, .ref bo, .ref yo, .ref no], oO lc 7 [.int m1, .ref ec, .int (nI nC)]] hz0)) (va_Qi (fun r (_ : Unit) => r = 1) (fun _ _ => True) (va_A [] hz0)) 1 6 (va_A [] hz0) := by
  refine va_MetW (hh := [(0, 10, 13, 21)]) (cc := cL_keys) (maxL := 5) (ret := (some .int)) (by decide +kernel) rfl ?_
  intro p e s m args below meth c s₁ B hml hv
  obtain ⟨rfl, hsz, hG, hP, hZ⟩ := hv
  subst hsz
  have hx := B.exec
  have hb := B.bytes
  have hr := B.returns
  have hts : ∀ w ∈ wsL_law, w.before _ s = true := fun w h => atoms_spec (ws := (wsW_ yL_keys cL_keys 5 (some .int) [(0, 10, 13, 21)])) B.pre w (List.mem_cons_of_mem _ (wsL2_in w h))
  have hk15 : (Cond.classLink RL 15 "java/lang/IllegalStateException").before _ s = true := atoms_spec (ws := (wsW_ yL_keys cL_keys 5 (some .int) [(0, 10, 13, 21)])) B.pre _ (List.mem_cons_of_mem _ List.mem_cons_self)
  have hown : s.vm.findClass RL = some m.cls := findClass_of_methodNamed B.named
  have hlk := B.notSynchronized
  have hC : CallFix p m c cL_keys 5 s _ wsL_law RL := ⟨hx, hb, hml, hown, hts⟩
  have hS : va_S (va_A [] s.heap.size) s.heap s.heap [] := va_S.rf
  have hl := lv_entry ([.ref xo, .int x, .int p1, .ref ou]) (n := 5) (Nat.le_of_ble_eq_true rfl)
  rw [lg_entry_eq]
  generalize (lg_sl ([.ref xo, .int x, .int p1, .ref ou]) ++ List.replicate (5 - (lg_sl ([.ref xo, .int x, .int p1, .ref ou])).length) Slot.unset).toArray = ls at hl ⊢
  have hl : lv_has ls 5 [(0, .ref xo), (1, .int x), (2, .int p1), (3, .ref ou)] := hl
  refine lv_aload_n hx hb dL_keys_0 rfl (lv_at hl 3 rfl) ?_
  refine lv_iconst (v := 0) hx hb dL_keys_1 (by decide) ?_
  refine lv_aload_n hx hb dL_keys_2 rfl (lv_at hl 0 rfl) ?_
  refine lv_iload_n hx hb dL_keys_3 rfl (lv_at hl 1 rfl) ?_
  refine lv_iload_n hx hb dL_keys_4 rfl (lv_at hl 2 rfl) ?_
  have hP9 := hP.sub (ws' := [oO xo 5 [.ref lc, .ref lt, .ref bo, .ref yo, .ref no], oO lc 7 [.int m1, .ref ec, .int (nI nC)]]) [0, 1] rfl
  refine vx_calli (A0 := va_A [] s.heap.size) (rX (rest := [.int 0, .ref ou]) (qc := (RX5, TX5, 5)) [.int x, .int p1] 2 hC (t_keys_1 l D hns (xo := xo) (lc := lc) (lt := lt) (bo := bo) (yo := yo) (no := no) (ec := ec) (nC := nC) (m1 := m1) (x := x) (p1 := p1) (hz0 := s.heap.size) (hnC) (hxx)) rfl (hP 0 _ rfl) (gV mM_L_31 mI_X5_keys mS_X5_keys mN_X5 mC_X5_keys) (by decide +kernel) rfl rfl ⟨Nat.le_of_ble_eq_true rfl, Nat.le_of_ble_eq_true rfl⟩ hG hP9 hZ rfl hl.1 rfl (Nat.le_of_ble_eq_true rfl) dL_keys_5 ⟨Nat.le_of_ble_eq_true rfl, Nat.le_of_ble_eq_true rfl⟩) hS (fun q _ h => h) (fun q h => h) (fun q _ h => h) (fun E ce q9 u9 t H1 locs1 ht hvm hp9 hB hz hk hS1 hce hcv hcl => ?_) (fun r u t H1 locs1 ht hvm hp9 _ _ _ _ => hp9.elim)
  obtain rfl : E = "java/lang/IndexOutOfBoundsException" := hB
  have htb := vx_table (x := yL_keys) B (hts _ mW_L_keys)
  refine vx_catch (own := RL) (name := "java/lang/IndexOutOfBoundsException") (pc := 5) (rest := [.int 0, .ref ou]) hown [] ⟨0, 10, 13, 21⟩ [] (by rw [htb]; rfl) (fun z hz9 => absurd hz9 List.not_mem_nil) rfl (by decide) (hts _ mK_L_21) (va_Nw.use rfl (gkC hG 4 rfl)) hce hcv hcl ?_
  refine lv_astore (lv' := [(4, .ref q9), (0, .ref xo), (1, .int x), (2, .int p1), (3, .ref ou)]) hx hb dL_keys_13 hl (by decide) rfl (fun ls hl => ?_)
  refine lv_iconst (v := 1) hx hb dL_keys_15 (by decide) ?_
  exact W.iret (v := 1) hx hb hr (fun t ht _ => ⟨⟨_, (), rfl, rfl, trivial⟩, hS1.F ht⟩) hS1.2.2 dL_keys_16 hlk
set_option maxHeartbeats 400000 in
set_option maxRecDepth 100000 in
theorem h_keys_2 (l : Launch) (D : va_G) (hns : l.stackTraces = false) {xo lc lt bo yo no : Nat} {ec nC c0 : Nat} {m1 : Int32} {cl : Nat → Nat} {ta : Nat} {len : Int32} {q t : Nat → Nat} {p1 : Int32} {ou : Nat} (hz0 : Nat) (hnC : nC ≤ 6) (hc : c0 < nC) (hp : p1 < 0 ∨ 4 ≤ p1) : Met l yL_keys (wsW_ yL_keys cL_keys 5 (some .int) [(0, 10, 13, 21)]) ({ frames := 7, cells := 1, slots := 6, locals := 125 } : Room) (va_Pc [.ref xo, .int (nI c0), .int p1, .ref ou] (TW D [oO xo 5 [.ref lc, .ref lt, .ref bo, .ref yo, .ref no], oO lc 7 [.int m1, .ref ec, .int (nI nC)], aO D ec 10 (lsF cl nC), oO (cl c0) 0 [.int len, .ref ta, .ref (q 0), .ref (q 1)], aT D ta 4 (tkF t)] hz0)) (va_Qi (fun r (_ : Unit) => r = 1) (fun _ _ => True) (va_A [] hz0)) 1 6 (va_A [] hz0) := by
  refine va_MetW (hh := [(0, 10, 13, 21)]) (cc := cL_keys) (maxL := 5) (ret := (some .int)) (by decide +kernel) rfl ?_
  intro p e s m args below meth c s₁ B hml hv
  obtain ⟨rfl, hsz, hG, hP, hZ⟩ := hv
  subst hsz
  have hx := B.exec
  have hb := B.bytes
  have hr := B.returns
  have hts : ∀ w ∈ wsL_law, w.before _ s = true := fun w h => atoms_spec (ws := (wsW_ yL_keys cL_keys 5 (some .int) [(0, 10, 13, 21)])) B.pre w (List.mem_cons_of_mem _ (wsL2_in w h))
  have hk15 : (Cond.classLink RL 15 "java/lang/IllegalStateException").before _ s = true := atoms_spec (ws := (wsW_ yL_keys cL_keys 5 (some .int) [(0, 10, 13, 21)])) B.pre _ (List.mem_cons_of_mem _ List.mem_cons_self)
  have hown : s.vm.findClass RL = some m.cls := findClass_of_methodNamed B.named
  have hlk := B.notSynchronized
  have hC : CallFix p m c cL_keys 5 s _ wsL_law RL := ⟨hx, hb, hml, hown, hts⟩
  have hS : va_S (va_A [] s.heap.size) s.heap s.heap [] := va_S.rf
  have hl := lv_entry ([.ref xo, .int (nI c0), .int p1, .ref ou]) (n := 5) (Nat.le_of_ble_eq_true rfl)
  rw [lg_entry_eq]
  generalize (lg_sl ([.ref xo, .int (nI c0), .int p1, .ref ou]) ++ List.replicate (5 - (lg_sl ([.ref xo, .int (nI c0), .int p1, .ref ou])).length) Slot.unset).toArray = ls at hl ⊢
  have hl : lv_has ls 5 [(0, .ref xo), (1, .int (nI c0)), (2, .int p1), (3, .ref ou)] := hl
  refine lv_aload_n hx hb dL_keys_0 rfl (lv_at hl 3 rfl) ?_
  refine lv_iconst (v := 0) hx hb dL_keys_1 (by decide) ?_
  refine lv_aload_n hx hb dL_keys_2 rfl (lv_at hl 0 rfl) ?_
  refine lv_iload_n hx hb dL_keys_3 rfl (lv_at hl 1 rfl) ?_
  refine lv_iload_n hx hb dL_keys_4 rfl (lv_at hl 2 rfl) ?_
  have hP9 := hP.sub (ws' := [oO xo 5 [.ref lc, .ref lt, .ref bo, .ref yo, .ref no], oO lc 7 [.int m1, .ref ec, .int (nI nC)], aO D ec 10 (lsF cl nC), oO (cl c0) 0 [.int len, .ref ta, .ref (q 0), .ref (q 1)], aT D ta 4 (tkF t)]) [0, 1, 2, 3, 4] rfl
  refine vx_calli (A0 := va_A [] s.heap.size) (rX (rest := [.int 0, .ref ou]) (qc := (RX5, TX5, 5)) [.int (nI c0), .int p1] 2 hC (t_keys_2 l D hns (xo := xo) (lc := lc) (lt := lt) (bo := bo) (yo := yo) (no := no) (ec := ec) (nC := nC) (c0 := c0) (m1 := m1) (cl := cl) (ta := ta) (len := len) (q := q) (t := t) (p1 := p1) (hz0 := s.heap.size) (hnC) (hc) (hp)) rfl (hP 0 _ rfl) (gV mM_L_31 mI_X5_keys mS_X5_keys mN_X5 mC_X5_keys) (by decide +kernel) rfl rfl ⟨Nat.le_of_ble_eq_true rfl, Nat.le_of_ble_eq_true rfl⟩ hG hP9 hZ rfl hl.1 rfl (Nat.le_of_ble_eq_true rfl) dL_keys_5 ⟨Nat.le_of_ble_eq_true rfl, Nat.le_of_ble_eq_true rfl⟩) hS (fun q _ h => h) (fun q h => h) (fun q _ h => h) (fun E ce q9 u9 t H1 locs1 ht hvm hp9 hB hz hk hS1 hce hcv hcl => ?_) (fun r u t H1 locs1 ht hvm hp9 _ _ _ _ => hp9.elim)
  obtain rfl : E = "java/lang/IndexOutOfBoundsException" := hB
  have htb := vx_table (x := yL_keys) B (hts _ mW_L_keys)
  refine vx_catch (own := RL) (name := "java/lang/IndexOutOfBoundsException") (pc := 5) (rest := [.int 0, .ref ou]) hown [] ⟨0, 10, 13, 21⟩ [] (by rw [htb]; rfl) (fun z hz9 => absurd hz9 List.not_mem_nil) rfl (by decide) (hts _ mK_L_21) (va_Nw.use rfl (gkC hG 4 rfl)) hce hcv hcl ?_
  refine lv_astore (lv' := [(4, .ref q9), (0, .ref xo), (1, .int (nI c0)), (2, .int p1), (3, .ref ou)]) hx hb dL_keys_13 hl (by decide) rfl (fun ls hl => ?_)
  refine lv_iconst (v := 1) hx hb dL_keys_15 (by decide) ?_
  exact W.iret (v := 1) hx hb hr (fun t ht _ => ⟨⟨_, (), rfl, rfl, trivial⟩, hS1.F ht⟩) hS1.2.2 dL_keys_16 hlk
set_option maxHeartbeats 400000 in
set_option maxRecDepth 100000 in
theorem l_keys (l : Launch) (D : va_G) {xo lc lt bo yo no : Nat} {ec nC c0 : Nat} {m1 : Int32} {cl : Nat → Nat} {ta : Nat} {len : Int32} {q t : Nat → Nat} {j r1 r2 r3 a1 a2 a3 sz : Nat} {ft fv fe : Nat → Int32} {ou : Nat} {wf : Nat → Int64} (hz0 : Nat) (hnC : nC ≤ 6) (hc : c0 < nC) (hj : j < 4) : Met l yL_keys (wsW_ yL_keys cL_keys 5 (some .int) [(0, 10, 13, 21)]) ({ frames := 7, cells := 0, slots := 0, locals := 125 } : Room) (va_Pc [.ref xo, .int (nI c0), .int (nI j), .ref ou] (SW D [oO xo 5 [.ref lc, .ref lt, .ref bo, .ref yo, .ref no], oO lc 7 [.int m1, .ref ec, .int (nI nC)], aO D ec 10 (lsF cl nC), oO (cl c0) 0 [.int len, .ref ta, .ref (q 0), .ref (q 1)], aT D ta 4 (tkF t), oO (t j) 4 [.ref r1, .ref r2, .ref r3], oO r1 2 [.ref a1, .int (nI sz)], oO r2 2 [.ref a2, .int (nI sz)], oO r3 2 [.ref a3, .int (nI sz)], aI D a1 16 ft, aI D a2 16 fv, aI D a3 16 fe, aL D ou 1 wf] hz0)) (va_Qi (fun r _ => r = 0) (AT D (va_A [oO xo 5 [.ref lc, .ref lt, .ref bo, .ref yo, .ref no], oO lc 7 [.int m1, .ref ec, .int (nI nC)], aO D ec 10 (lsF cl nC), oO (cl c0) 0 [.int len, .ref ta, .ref (q 0), .ref (q 1)], aT D ta 4 (tkF t), oO (t j) 4 [.ref r1, .ref r2, .ref r3], oO r1 2 [.ref a1, .int (nI sz)], oO r2 2 [.ref a2, .int (nI sz)], oO r3 2 [.ref a3, .int (nI sz)], aI D a1 16 ft, aI D a2 16 fv, aI D a3 16 fe, aL D ou 1 wf] hz0) (fun _ : Unit => [oO xo 5 [.ref lc, .ref lt, .ref bo, .ref yo, .ref no], oO lc 7 [.int m1, .ref ec, .int (nI nC)], aO D ec 10 (lsF cl nC), oO (cl c0) 0 [.int len, .ref ta, .ref (q 0), .ref (q 1)], aT D ta 4 (tkF t), oO (t j) 4 [.ref r1, .ref r2, .ref r3], oO r1 2 [.ref a1, .int (nI sz)], oO r2 2 [.ref a2, .int (nI sz)], oO r3 2 [.ref a3, .int (nI sz)], aI D a1 16 ft, aI D a2 16 fv, aI D a3 16 fe, aL D ou 1 (vp_updL wf 0 (nI sz).toInt64)])) (va_A [oO xo 5 [.ref lc, .ref lt, .ref bo, .ref yo, .ref no], oO lc 7 [.int m1, .ref ec, .int (nI nC)], aO D ec 10 (lsF cl nC), oO (cl c0) 0 [.int len, .ref ta, .ref (q 0), .ref (q 1)], aT D ta 4 (tkF t), oO (t j) 4 [.ref r1, .ref r2, .ref r3], oO r1 2 [.ref a1, .int (nI sz)], oO r2 2 [.ref a2, .int (nI sz)], oO r3 2 [.ref a3, .int (nI sz)], aI D a1 16 ft, aI D a2 16 fv, aI D a3 16 fe, aL D ou 1 wf] hz0)) 0 0 (va_A [oO xo 5 [.ref lc, .ref lt, .ref bo, .ref yo, .ref no], oO lc 7 [.int m1, .ref ec, .int (nI nC)], aO D ec 10 (lsF cl nC), oO (cl c0) 0 [.int len, .ref ta, .ref (q 0), .ref (q 1)], aT D ta 4 (tkF t), oO (t j) 4 [.ref r1, .ref r2, .ref r3], oO r1 2 [.ref a1, .int (nI sz)], oO r2 2 [.ref a2, .int (nI sz)], oO r3 2 [.ref a3, .int (nI sz)], aI D a1 16 ft, aI D a2 16 fv, aI D a3 16 fe, aL D ou 1 wf] hz0) := by
  refine va_MetW (hh := [(0, 10, 13, 21)]) (cc := cL_keys) (maxL := 5) (ret := (some .int)) (by decide +kernel) rfl ?_
  intro p e s m args below meth c s₁ B hml hv
  obtain ⟨rfl, hsz, hG, hP, hD0⟩ := hv
  have hx := B.exec
  have hb := B.bytes
  have hr := B.returns
  have hts : ∀ w ∈ wsL_law, w.before _ s = true := fun w h => atoms_spec (ws := (wsW_ yL_keys cL_keys 5 (some .int) [(0, 10, 13, 21)])) B.pre w (List.mem_cons_of_mem _ (wsL2_in w h))
  have hown : s.vm.findClass RL = some m.cls := findClass_of_methodNamed B.named
  have hlk := B.notSynchronized
  have hC : CallFix p m c cL_keys 5 s _ wsL_law RL := ⟨hx, hb, hml, hown, hts⟩
  subst hsz
  have hD := hD0.self (sz := s.heap.size)
  generalize hAe : va_A [oO xo 5 [.ref lc, .ref lt, .ref bo, .ref yo, .ref no], oO lc 7 [.int m1, .ref ec, .int (nI nC)], aO D ec 10 (lsF cl nC), oO (cl c0) 0 [.int len, .ref ta, .ref (q 0), .ref (q 1)], aT D ta 4 (tkF t), oO (t j) 4 [.ref r1, .ref r2, .ref r3], oO r1 2 [.ref a1, .int (nI sz)], oO r2 2 [.ref a2, .int (nI sz)], oO r3 2 [.ref a3, .int (nI sz)], aI D a1 16 ft, aI D a2 16 fv, aI D a3 16 fe, aL D ou 1 wf] s.heap.size = A at hD ⊢
  have hA : ∀ q : Nat, s.heap.size ≤ q → A q := fun q h => by rw [← hAe]; exact Or.inr h
  have hS : va_S A s.heap s.heap [] := va_S.rf
  obtain ⟨H, hHe⟩ : ∃ H, H = s.heap := ⟨_, rfl⟩
  rw [← hHe] at hP
  have hS : va_S A s.heap H [] := by rw [hHe]; exact hS
  have hl := lv_entry ([.ref xo, .int (nI c0), .int (nI j), .ref ou]) (n := 5) (Nat.le_of_ble_eq_true rfl)
  rw [lg_entry_eq]
  generalize (lg_sl ([.ref xo, .int (nI c0), .int (nI j), .ref ou]) ++ List.replicate (5 - (lg_sl ([.ref xo, .int (nI c0), .int (nI j), .ref ou])).length) Slot.unset).toArray = ls at hl ⊢
  have hl : lv_has ls 5 [(0, .ref xo), (1, .int (nI c0)), (2, .int (nI j)), (3, .ref ou)] := hl
  rw [← hHe]
  refine lv_aload_n hx hb dL_keys_0 rfl (lv_at hl 3 rfl) ?_
  refine lv_iconst (v := 0) hx hb dL_keys_1 (by decide) ?_
  refine lv_aload_n hx hb dL_keys_2 rfl (lv_at hl 0 rfl) ?_
  refine lv_iload_n hx hb dL_keys_3 rfl (lv_at hl 1 rfl) ?_
  refine lv_iload_n hx hb dL_keys_4 rfl (lv_at hl 2 rfl) ?_
  have hP9 := hP.sub (ws' := [oO xo 5 [.ref lc, .ref lt, .ref bo, .ref yo, .ref no], oO lc 7 [.int m1, .ref ec, .int (nI nC)], aO D ec 10 (lsF cl nC), oO (cl c0) 0 [.int len, .ref ta, .ref (q 0), .ref (q 1)], aT D ta 4 (tkF t), oO (t j) 4 [.ref r1, .ref r2, .ref r3], oO r1 2 [.ref a1, .int (nI sz)], oO r2 2 [.ref a2, .int (nI sz)], oO r3 2 [.ref a3, .int (nI sz)], aI D a1 16 ft, aI D a2 16 fv, aI D a3 16 fe]) [0, 1, 2, 3, 4, 5, 6, 7, 8, 9, 10, 11] rfl
  refine vp_callSi (pV (rest := [.int 0, .ref ou]) (qc := (RX5, TX5, 5)) [.int (nI c0), .int (nI j)] 2 hC (c_keys l D (xo := xo) (lc := lc) (lt := lt) (bo := bo) (yo := yo) (no := no) (ec := ec) (nC := nC) (c0 := c0) (m1 := m1) (cl := cl) (ta := ta) (len := len) (q := q) (t := t) (j := j) (r1 := r1) (r2 := r2) (r3 := r3) (a1 := a1) (a2 := a2) (a3 := a3) (sz := sz) (ft := ft) (fv := fv) (fe := fe) (hnC) (hc) (hj)) rfl (hP 0 _ rfl) (gV mM_L_31 mI_X5_keys mS_X5_keys mN_X5 mC_X5_keys) (by decide +kernel) rfl rfl ⟨Nat.le_of_ble_eq_true rfl, Nat.le_of_ble_eq_true rfl⟩ hG hP9 rfl hl.1 rfl (Nat.le_of_ble_eq_true rfl) dL_keys_5 ⟨Nat.le_of_ble_eq_true rfl, Nat.le_of_ble_eq_true rfl⟩) (fun r5 h5 => ?_)
  obtain rfl : r5 = (nI sz) := h5
  refine lv_i2l hx hb dL_keys_8 rfl ?_
  refine lst (n := 1) (j := 0) hx hb hG hP hD hS 12 rfl (by omega) (by omega) dL_keys_9 (fun H locs hP hD hS => ?_)
  have hP : va_P D cls [oO xo 5 [.ref lc, .ref lt, .ref bo, .ref yo, .ref no], oO lc 7 [.int m1, .ref ec, .int (nI nC)], aO D ec 10 (lsF cl nC), oO (cl c0) 0 [.int len, .ref ta, .ref (q 0), .ref (q 1)], aT D ta 4 (tkF t), oO (t j) 4 [.ref r1, .ref r2, .ref r3], oO r1 2 [.ref a1, .int (nI sz)], oO r2 2 [.ref a2, .int (nI sz)], oO r3 2 [.ref a3, .int (nI sz)], aI D a1 16 ft, aI D a2 16 fv, aI D a3 16 fe, aL D ou 1 (vp_updL wf 0 ((nI sz).toInt64))] H := hP
  have hD : va_D A [oO xo 5 [.ref lc, .ref lt, .ref bo, .ref yo, .ref no], oO lc 7 [.int m1, .ref ec, .int (nI nC)], aO D ec 10 (lsF cl nC), oO (cl c0) 0 [.int len, .ref ta, .ref (q 0), .ref (q 1)], aT D ta 4 (tkF t), oO (t j) 4 [.ref r1, .ref r2, .ref r3], oO r1 2 [.ref a1, .int (nI sz)], oO r2 2 [.ref a2, .int (nI sz)], oO r3 2 [.ref a3, .int (nI sz)], aI D a1 16 ft, aI D a2 16 fv, aI D a3 16 fe, aL D ou 1 (vp_updL wf 0 ((nI sz).toInt64))] := hD
  refine lv_goto (tgt := 17) hx hb dL_keys_10 (by decide) ?_
  refine lv_iconst (v := 0) hx hb dL_keys_17 (by decide) ?_
  refine Wi () hx hb hr hlk ?_ hP hD hS (Nat.le_of_ble_eq_true rfl) (by first | exact Nat.le_of_ble_eq_true rfl | exact Nat.le_of_eq (Nat.zero_add _)) dL_keys_18
  exact rfl
set_option maxHeartbeats 400000 in
set_option maxRecDepth 100000 in
theorem h_keyOf_1 (l : Launch) (D : va_G) (hns : l.stackTraces = false) {xo lc lt bo yo no : Nat} {ec nC : Nat} {m1 : Int32} {x p1 ix w : Int32} {ou : Nat} (hz0 : Nat) (hnC : nC ≤ 6) (hxx : x < 0 ∨ nI nC ≤ x) : Met l yL_keyOf (wsW_ yL_keyOf cL_keyOf 7 (some .int) [(0, 14, 17, 21)]) ({ frames := 7, cells := 1, slots := 6, locals := 127 } : Room) (va_Pc [.ref xo, .int x, .int p1, .int ix, .int w, .ref ou] (TW D [oO xo 5 [.ref lc, .ref lt, .ref bo, .ref yo, .ref no], oO lc 7 [.int m1, .ref ec, .int (nI nC)]] hz0)) (va_Qi (fun r (_ : Unit) => r = 1) (fun _ _ => True) (va_A [] hz0)) 1 6 (va_A [] hz0) := by
  refine va_MetW (hh := [(0, 14, 17, 21)]) (cc := cL_keyOf) (maxL := 7) (ret := (some .int)) (by decide +kernel) rfl ?_
  intro p e s m args below meth c s₁ B hml hv
  obtain ⟨rfl, hsz, hG, hP, hZ⟩ := hv
  subst hsz
  have hx := B.exec
  have hb := B.bytes
  have hr := B.returns
  have hts : ∀ w ∈ wsL_law, w.before _ s = true := fun w h => atoms_spec (ws := (wsW_ yL_keyOf cL_keyOf 7 (some .int) [(0, 14, 17, 21)])) B.pre w (List.mem_cons_of_mem _ (wsL2_in w h))
  have hk15 : (Cond.classLink RL 15 "java/lang/IllegalStateException").before _ s = true := atoms_spec (ws := (wsW_ yL_keyOf cL_keyOf 7 (some .int) [(0, 14, 17, 21)])) B.pre _ (List.mem_cons_of_mem _ List.mem_cons_self)
  have hown : s.vm.findClass RL = some m.cls := findClass_of_methodNamed B.named
  have hlk := B.notSynchronized
  have hC : CallFix p m c cL_keyOf 7 s _ wsL_law RL := ⟨hx, hb, hml, hown, hts⟩
  have hS : va_S (va_A [] s.heap.size) s.heap s.heap [] := va_S.rf
  have hl := lv_entry ([.ref xo, .int x, .int p1, .int ix, .int w, .ref ou]) (n := 7) (Nat.le_of_ble_eq_true rfl)
  rw [lg_entry_eq]
  generalize (lg_sl ([.ref xo, .int x, .int p1, .int ix, .int w, .ref ou]) ++ List.replicate (7 - (lg_sl ([.ref xo, .int x, .int p1, .int ix, .int w, .ref ou])).length) Slot.unset).toArray = ls at hl ⊢
  have hl : lv_has ls 7 [(0, .ref xo), (1, .int x), (2, .int p1), (3, .int ix), (4, .int w), (5, .ref ou)] := hl
  refine lv_aload hx hb dL_keyOf_0 (lv_at hl 5 rfl) ?_
  refine lv_iconst (v := 0) hx hb dL_keyOf_2 (by decide) ?_
  refine lv_aload_n hx hb dL_keyOf_3 rfl (lv_at hl 0 rfl) ?_
  refine lv_iload_n hx hb dL_keyOf_4 rfl (lv_at hl 1 rfl) ?_
  refine lv_iload_n hx hb dL_keyOf_5 rfl (lv_at hl 2 rfl) ?_
  refine lv_iload_n hx hb dL_keyOf_6 rfl (lv_at hl 3 rfl) ?_
  refine lv_iload hx hb dL_keyOf_7 (lv_at hl 4 rfl) ?_
  have hP9 := hP.sub (ws' := [oO xo 5 [.ref lc, .ref lt, .ref bo, .ref yo, .ref no], oO lc 7 [.int m1, .ref ec, .int (nI nC)]]) [0, 1] rfl
  refine vx_calli (A0 := va_A [] s.heap.size) (rX (rest := [.int 0, .ref ou]) (qc := (RX5, TX5, 5)) [.int x, .int p1, .int ix, .int w] 4 hC (t_keyOf_1 l D hns (xo := xo) (lc := lc) (lt := lt) (bo := bo) (yo := yo) (no := no) (ec := ec) (nC := nC) (m1 := m1) (x := x) (p1 := p1) (ix := ix) (w := w) (hz0 := s.heap.size) (hnC) (hxx)) rfl (hP 0 _ rfl) (gV mM_L_34 mI_X5_keyOf mS_X5_keyOf mN_X5 mC_X5_keyOf) (by decide +kernel) rfl rfl ⟨Nat.le_of_ble_eq_true rfl, Nat.le_of_ble_eq_true rfl⟩ hG hP9 hZ rfl hl.1 rfl (Nat.le_of_ble_eq_true rfl) dL_keyOf_9 ⟨Nat.le_of_ble_eq_true rfl, Nat.le_of_ble_eq_true rfl⟩) hS (fun q _ h => h) (fun q h => h) (fun q _ h => h) (fun E ce q9 u9 t H1 locs1 ht hvm hp9 hB hz hk hS1 hce hcv hcl => ?_) (fun r u t H1 locs1 ht hvm hp9 _ _ _ _ => hp9.elim)
  obtain rfl : E = "java/lang/IndexOutOfBoundsException" := hB
  have htb := vx_table (x := yL_keyOf) B (hts _ mW_L_keyOf)
  refine vx_catch (own := RL) (name := "java/lang/IndexOutOfBoundsException") (pc := 9) (rest := [.int 0, .ref ou]) hown [] ⟨0, 14, 17, 21⟩ [] (by rw [htb]; rfl) (fun z hz9 => absurd hz9 List.not_mem_nil) rfl (by decide) (hts _ mK_L_21) (va_Nw.use rfl (gkC hG 4 rfl)) hce hcv hcl ?_
  refine lv_astore (lv' := [(6, .ref q9), (0, .ref xo), (1, .int x), (2, .int p1), (3, .int ix), (4, .int w), (5, .ref ou)]) hx hb dL_keyOf_17 hl (by decide) rfl (fun ls hl => ?_)
  refine lv_iconst (v := 1) hx hb dL_keyOf_19 (by decide) ?_
  exact W.iret (v := 1) hx hb hr (fun t ht _ => ⟨⟨_, (), rfl, rfl, trivial⟩, hS1.F ht⟩) hS1.2.2 dL_keyOf_20 hlk
set_option maxHeartbeats 400000 in
set_option maxRecDepth 100000 in
theorem h_keyOf_2 (l : Launch) (D : va_G) (hns : l.stackTraces = false) {xo lc lt bo yo no : Nat} {ec nC c0 : Nat} {m1 : Int32} {cl : Nat → Nat} {ta : Nat} {len : Int32} {q t : Nat → Nat} {p1 ix w : Int32} {ou : Nat} (hz0 : Nat) (hnC : nC ≤ 6) (hc : c0 < nC) (hp : p1 < 0 ∨ 4 ≤ p1) : Met l yL_keyOf (wsW_ yL_keyOf cL_keyOf 7 (some .int) [(0, 14, 17, 21)]) ({ frames := 7, cells := 1, slots := 6, locals := 127 } : Room) (va_Pc [.ref xo, .int (nI c0), .int p1, .int ix, .int w, .ref ou] (TW D [oO xo 5 [.ref lc, .ref lt, .ref bo, .ref yo, .ref no], oO lc 7 [.int m1, .ref ec, .int (nI nC)], aO D ec 10 (lsF cl nC), oO (cl c0) 0 [.int len, .ref ta, .ref (q 0), .ref (q 1)], aT D ta 4 (tkF t)] hz0)) (va_Qi (fun r (_ : Unit) => r = 1) (fun _ _ => True) (va_A [] hz0)) 1 6 (va_A [] hz0) := by
  refine va_MetW (hh := [(0, 14, 17, 21)]) (cc := cL_keyOf) (maxL := 7) (ret := (some .int)) (by decide +kernel) rfl ?_
  intro p e s m args below meth c s₁ B hml hv
  obtain ⟨rfl, hsz, hG, hP, hZ⟩ := hv
  subst hsz
  have hx := B.exec
  have hb := B.bytes
  have hr := B.returns
  have hts : ∀ w ∈ wsL_law, w.before _ s = true := fun w h => atoms_spec (ws := (wsW_ yL_keyOf cL_keyOf 7 (some .int) [(0, 14, 17, 21)])) B.pre w (List.mem_cons_of_mem _ (wsL2_in w h))
  have hk15 : (Cond.classLink RL 15 "java/lang/IllegalStateException").before _ s = true := atoms_spec (ws := (wsW_ yL_keyOf cL_keyOf 7 (some .int) [(0, 14, 17, 21)])) B.pre _ (List.mem_cons_of_mem _ List.mem_cons_self)
  have hown : s.vm.findClass RL = some m.cls := findClass_of_methodNamed B.named
  have hlk := B.notSynchronized
  have hC : CallFix p m c cL_keyOf 7 s _ wsL_law RL := ⟨hx, hb, hml, hown, hts⟩
  have hS : va_S (va_A [] s.heap.size) s.heap s.heap [] := va_S.rf
  have hl := lv_entry ([.ref xo, .int (nI c0), .int p1, .int ix, .int w, .ref ou]) (n := 7) (Nat.le_of_ble_eq_true rfl)
  rw [lg_entry_eq]
  generalize (lg_sl ([.ref xo, .int (nI c0), .int p1, .int ix, .int w, .ref ou]) ++ List.replicate (7 - (lg_sl ([.ref xo, .int (nI c0), .int p1, .int ix, .int w, .ref ou])).length) Slot.unset).toArray = ls at hl ⊢
  have hl : lv_has ls 7 [(0, .ref xo), (1, .int (nI c0)), (2, .int p1), (3, .int ix), (4, .int w), (5, .ref ou)] := hl
  refine lv_aload hx hb dL_keyOf_0 (lv_at hl 5 rfl) ?_
  refine lv_iconst (v := 0) hx hb dL_keyOf_2 (by decide) ?_
  refine lv_aload_n hx hb dL_keyOf_3 rfl (lv_at hl 0 rfl) ?_
  refine lv_iload_n hx hb dL_keyOf_4 rfl (lv_at hl 1 rfl) ?_
  refine lv_iload_n hx hb dL_keyOf_5 rfl (lv_at hl 2 rfl) ?_
  refine lv_iload_n hx hb dL_keyOf_6 rfl (lv_at hl 3 rfl) ?_
  refine lv_iload hx hb dL_keyOf_7 (lv_at hl 4 rfl) ?_
  have hP9 := hP.sub (ws' := [oO xo 5 [.ref lc, .ref lt, .ref bo, .ref yo, .ref no], oO lc 7 [.int m1, .ref ec, .int (nI nC)], aO D ec 10 (lsF cl nC), oO (cl c0) 0 [.int len, .ref ta, .ref (q 0), .ref (q 1)], aT D ta 4 (tkF t)]) [0, 1, 2, 3, 4] rfl
  refine vx_calli (A0 := va_A [] s.heap.size) (rX (rest := [.int 0, .ref ou]) (qc := (RX5, TX5, 5)) [.int (nI c0), .int p1, .int ix, .int w] 4 hC (t_keyOf_2 l D hns (xo := xo) (lc := lc) (lt := lt) (bo := bo) (yo := yo) (no := no) (ec := ec) (nC := nC) (c0 := c0) (m1 := m1) (cl := cl) (ta := ta) (len := len) (q := q) (t := t) (p1 := p1) (ix := ix) (w := w) (hz0 := s.heap.size) (hnC) (hc) (hp)) rfl (hP 0 _ rfl) (gV mM_L_34 mI_X5_keyOf mS_X5_keyOf mN_X5 mC_X5_keyOf) (by decide +kernel) rfl rfl ⟨Nat.le_of_ble_eq_true rfl, Nat.le_of_ble_eq_true rfl⟩ hG hP9 hZ rfl hl.1 rfl (Nat.le_of_ble_eq_true rfl) dL_keyOf_9 ⟨Nat.le_of_ble_eq_true rfl, Nat.le_of_ble_eq_true rfl⟩) hS (fun q _ h => h) (fun q h => h) (fun q _ h => h) (fun E ce q9 u9 t H1 locs1 ht hvm hp9 hB hz hk hS1 hce hcv hcl => ?_) (fun r u t H1 locs1 ht hvm hp9 _ _ _ _ => hp9.elim)
  obtain rfl : E = "java/lang/IndexOutOfBoundsException" := hB
  have htb := vx_table (x := yL_keyOf) B (hts _ mW_L_keyOf)
  refine vx_catch (own := RL) (name := "java/lang/IndexOutOfBoundsException") (pc := 9) (rest := [.int 0, .ref ou]) hown [] ⟨0, 14, 17, 21⟩ [] (by rw [htb]; rfl) (fun z hz9 => absurd hz9 List.not_mem_nil) rfl (by decide) (hts _ mK_L_21) (va_Nw.use rfl (gkC hG 4 rfl)) hce hcv hcl ?_
  refine lv_astore (lv' := [(6, .ref q9), (0, .ref xo), (1, .int (nI c0)), (2, .int p1), (3, .int ix), (4, .int w), (5, .ref ou)]) hx hb dL_keyOf_17 hl (by decide) rfl (fun ls hl => ?_)
  refine lv_iconst (v := 1) hx hb dL_keyOf_19 (by decide) ?_
  exact W.iret (v := 1) hx hb hr (fun t ht _ => ⟨⟨_, (), rfl, rfl, trivial⟩, hS1.F ht⟩) hS1.2.2 dL_keyOf_20 hlk
set_option maxHeartbeats 400000 in
set_option maxRecDepth 100000 in
theorem h_keyOf_3 (l : Launch) (D : va_G) (hns : l.stackTraces = false) {xo lc lt bo yo no : Nat} {ec nC c0 : Nat} {m1 : Int32} {cl : Nat → Nat} {ta : Nat} {len : Int32} {q t : Nat → Nat} {j r1 r2 r3 a1 a2 a3 sz : Nat} {ft fv fe : Nat → Int32} {ix w : Int32} {ou : Nat} (hz0 : Nat) (hnC : nC ≤ 6) (hc : c0 < nC) (hj : j < 4) (hs : sz ≤ 16) (h : ¬ ((0 ≤ ix ∧ ix ≤ nI sz - 1) ∧ (0 ≤ w ∧ w ≤ 2))) : Met l yL_keyOf (wsW_ yL_keyOf cL_keyOf 7 (some .int) [(0, 14, 17, 21)]) ({ frames := 7, cells := 1, slots := 6, locals := 127 } : Room) (va_Pc [.ref xo, .int (nI c0), .int (nI j), .int ix, .int w, .ref ou] (TW D [oO xo 5 [.ref lc, .ref lt, .ref bo, .ref yo, .ref no], oO lc 7 [.int m1, .ref ec, .int (nI nC)], aO D ec 10 (lsF cl nC), oO (cl c0) 0 [.int len, .ref ta, .ref (q 0), .ref (q 1)], aT D ta 4 (tkF t), oO (t j) 4 [.ref r1, .ref r2, .ref r3], oO r1 2 [.ref a1, .int (nI sz)], oO r2 2 [.ref a2, .int (nI sz)], oO r3 2 [.ref a3, .int (nI sz)], aI D a1 16 ft, aI D a2 16 fv, aI D a3 16 fe] hz0)) (va_Qi (fun r (_ : Unit) => r = 1) (fun _ _ => True) (va_A [] hz0)) 1 6 (va_A [] hz0) := by
  refine va_MetW (hh := [(0, 14, 17, 21)]) (cc := cL_keyOf) (maxL := 7) (ret := (some .int)) (by decide +kernel) rfl ?_
  intro p e s m args below meth c s₁ B hml hv
  obtain ⟨rfl, hsz, hG, hP, hZ⟩ := hv
  subst hsz
  have hx := B.exec
  have hb := B.bytes
  have hr := B.returns
  have hts : ∀ w ∈ wsL_law, w.before _ s = true := fun w h => atoms_spec (ws := (wsW_ yL_keyOf cL_keyOf 7 (some .int) [(0, 14, 17, 21)])) B.pre w (List.mem_cons_of_mem _ (wsL2_in w h))
  have hk15 : (Cond.classLink RL 15 "java/lang/IllegalStateException").before _ s = true := atoms_spec (ws := (wsW_ yL_keyOf cL_keyOf 7 (some .int) [(0, 14, 17, 21)])) B.pre _ (List.mem_cons_of_mem _ List.mem_cons_self)
  have hown : s.vm.findClass RL = some m.cls := findClass_of_methodNamed B.named
  have hlk := B.notSynchronized
  have hC : CallFix p m c cL_keyOf 7 s _ wsL_law RL := ⟨hx, hb, hml, hown, hts⟩
  have hS : va_S (va_A [] s.heap.size) s.heap s.heap [] := va_S.rf
  have hl := lv_entry ([.ref xo, .int (nI c0), .int (nI j), .int ix, .int w, .ref ou]) (n := 7) (Nat.le_of_ble_eq_true rfl)
  rw [lg_entry_eq]
  generalize (lg_sl ([.ref xo, .int (nI c0), .int (nI j), .int ix, .int w, .ref ou]) ++ List.replicate (7 - (lg_sl ([.ref xo, .int (nI c0), .int (nI j), .int ix, .int w, .ref ou])).length) Slot.unset).toArray = ls at hl ⊢
  have hl : lv_has ls 7 [(0, .ref xo), (1, .int (nI c0)), (2, .int (nI j)), (3, .int ix), (4, .int w), (5, .ref ou)] := hl
  refine lv_aload hx hb dL_keyOf_0 (lv_at hl 5 rfl) ?_
  refine lv_iconst (v := 0) hx hb dL_keyOf_2 (by decide) ?_
  refine lv_aload_n hx hb dL_keyOf_3 rfl (lv_at hl 0 rfl) ?_
  refine lv_iload_n hx hb dL_keyOf_4 rfl (lv_at hl 1 rfl) ?_
  refine lv_iload_n hx hb dL_keyOf_5 rfl (lv_at hl 2 rfl) ?_
  refine lv_iload_n hx hb dL_keyOf_6 rfl (lv_at hl 3 rfl) ?_
  refine lv_iload hx hb dL_keyOf_7 (lv_at hl 4 rfl) ?_
  have hP9 := hP.sub (ws' := [oO xo 5 [.ref lc, .ref lt, .ref bo, .ref yo, .ref no], oO lc 7 [.int m1, .ref ec, .int (nI nC)], aO D ec 10 (lsF cl nC), oO (cl c0) 0 [.int len, .ref ta, .ref (q 0), .ref (q 1)], aT D ta 4 (tkF t), oO (t j) 4 [.ref r1, .ref r2, .ref r3], oO r1 2 [.ref a1, .int (nI sz)], oO r2 2 [.ref a2, .int (nI sz)], oO r3 2 [.ref a3, .int (nI sz)], aI D a1 16 ft, aI D a2 16 fv, aI D a3 16 fe]) [0, 1, 2, 3, 4, 5, 6, 7, 8, 9, 10, 11] rfl
  refine vx_calli (A0 := va_A [] s.heap.size) (rX (rest := [.int 0, .ref ou]) (qc := (RX5, TX5, 5)) [.int (nI c0), .int (nI j), .int ix, .int w] 4 hC (t_keyOf_3 l D hns (xo := xo) (lc := lc) (lt := lt) (bo := bo) (yo := yo) (no := no) (ec := ec) (nC := nC) (c0 := c0) (m1 := m1) (cl := cl) (ta := ta) (len := len) (q := q) (t := t) (j := j) (r1 := r1) (r2 := r2) (r3 := r3) (a1 := a1) (a2 := a2) (a3 := a3) (sz := sz) (ft := ft) (fv := fv) (fe := fe) (ix := ix) (w := w) (hz0 := s.heap.size) (hnC) (hc) (hj) (hs) (h)) rfl (hP 0 _ rfl) (gV mM_L_34 mI_X5_keyOf mS_X5_keyOf mN_X5 mC_X5_keyOf) (by decide +kernel) rfl rfl ⟨Nat.le_of_ble_eq_true rfl, Nat.le_of_ble_eq_true rfl⟩ hG hP9 hZ rfl hl.1 rfl (Nat.le_of_ble_eq_true rfl) dL_keyOf_9 ⟨Nat.le_of_ble_eq_true rfl, Nat.le_of_ble_eq_true rfl⟩) hS (fun q _ h => h) (fun q h => h) (fun q _ h => h) (fun E ce q9 u9 t H1 locs1 ht hvm hp9 hB hz hk hS1 hce hcv hcl => ?_) (fun r u t H1 locs1 ht hvm hp9 _ _ _ _ => hp9.elim)
  obtain rfl : E = "java/lang/IndexOutOfBoundsException" := hB
  have htb := vx_table (x := yL_keyOf) B (hts _ mW_L_keyOf)
  refine vx_catch (own := RL) (name := "java/lang/IndexOutOfBoundsException") (pc := 9) (rest := [.int 0, .ref ou]) hown [] ⟨0, 14, 17, 21⟩ [] (by rw [htb]; rfl) (fun z hz9 => absurd hz9 List.not_mem_nil) rfl (by decide) (hts _ mK_L_21) (va_Nw.use rfl (gkC hG 4 rfl)) hce hcv hcl ?_
  refine lv_astore (lv' := [(6, .ref q9), (0, .ref xo), (1, .int (nI c0)), (2, .int (nI j)), (3, .int ix), (4, .int w), (5, .ref ou)]) hx hb dL_keyOf_17 hl (by decide) rfl (fun ls hl => ?_)
  refine lv_iconst (v := 1) hx hb dL_keyOf_19 (by decide) ?_
  exact W.iret (v := 1) hx hb hr (fun t ht _ => ⟨⟨_, (), rfl, rfl, trivial⟩, hS1.F ht⟩) hS1.2.2 dL_keyOf_20 hlk
set_option maxHeartbeats 400000 in
set_option maxRecDepth 100000 in
theorem l_keyOf (l : Launch) (D : va_G) {xo lc lt bo yo no : Nat} {ec nC c0 : Nat} {m1 : Int32} {cl : Nat → Nat} {ta : Nat} {len : Int32} {q t : Nat → Nat} {j r1 r2 r3 a1 a2 a3 sz : Nat} {ft fv fe : Nat → Int32} {i : Nat} {w : Int32} {ou : Nat} {wf : Nat → Int64} (hz0 : Nat) (hnC : nC ≤ 6) (hc : c0 < nC) (hj : j < 4) (hs : sz ≤ 16) (hi : i < sz) (h : 0 ≤ w ∧ w ≤ 2) : Met l yL_keyOf (wsW_ yL_keyOf cL_keyOf 7 (some .int) [(0, 14, 17, 21)]) ({ frames := 7, cells := 0, slots := 0, locals := 127 } : Room) (va_Pc [.ref xo, .int (nI c0), .int (nI j), .int (nI i), .int w, .ref ou] (SW D [oO xo 5 [.ref lc, .ref lt, .ref bo, .ref yo, .ref no], oO lc 7 [.int m1, .ref ec, .int (nI nC)], aO D ec 10 (lsF cl nC), oO (cl c0) 0 [.int len, .ref ta, .ref (q 0), .ref (q 1)], aT D ta 4 (tkF t), oO (t j) 4 [.ref r1, .ref r2, .ref r3], oO r1 2 [.ref a1, .int (nI sz)], oO r2 2 [.ref a2, .int (nI sz)], oO r3 2 [.ref a3, .int (nI sz)], aI D a1 16 ft, aI D a2 16 fv, aI D a3 16 fe, aL D ou 1 wf] hz0)) (va_Qi (fun r _ => r = 0) (AT D (va_A [oO xo 5 [.ref lc, .ref lt, .ref bo, .ref yo, .ref no], oO lc 7 [.int m1, .ref ec, .int (nI nC)], aO D ec 10 (lsF cl nC), oO (cl c0) 0 [.int len, .ref ta, .ref (q 0), .ref (q 1)], aT D ta 4 (tkF t), oO (t j) 4 [.ref r1, .ref r2, .ref r3], oO r1 2 [.ref a1, .int (nI sz)], oO r2 2 [.ref a2, .int (nI sz)], oO r3 2 [.ref a3, .int (nI sz)], aI D a1 16 ft, aI D a2 16 fv, aI D a3 16 fe, aL D ou 1 wf] hz0) (fun _ : Unit => [oO xo 5 [.ref lc, .ref lt, .ref bo, .ref yo, .ref no], oO lc 7 [.int m1, .ref ec, .int (nI nC)], aO D ec 10 (lsF cl nC), oO (cl c0) 0 [.int len, .ref ta, .ref (q 0), .ref (q 1)], aT D ta 4 (tkF t), oO (t j) 4 [.ref r1, .ref r2, .ref r3], oO r1 2 [.ref a1, .int (nI sz)], oO r2 2 [.ref a2, .int (nI sz)], oO r3 2 [.ref a3, .int (nI sz)], aI D a1 16 ft, aI D a2 16 fv, aI D a3 16 fe, aL D ou 1 (vp_updL wf 0 (if w = 0 then ft i else if w = 1 then fv i else fe i).toInt64)])) (va_A [oO xo 5 [.ref lc, .ref lt, .ref bo, .ref yo, .ref no], oO lc 7 [.int m1, .ref ec, .int (nI nC)], aO D ec 10 (lsF cl nC), oO (cl c0) 0 [.int len, .ref ta, .ref (q 0), .ref (q 1)], aT D ta 4 (tkF t), oO (t j) 4 [.ref r1, .ref r2, .ref r3], oO r1 2 [.ref a1, .int (nI sz)], oO r2 2 [.ref a2, .int (nI sz)], oO r3 2 [.ref a3, .int (nI sz)], aI D a1 16 ft, aI D a2 16 fv, aI D a3 16 fe, aL D ou 1 wf] hz0)) 0 0 (va_A [oO xo 5 [.ref lc, .ref lt, .ref bo, .ref yo, .ref no], oO lc 7 [.int m1, .ref ec, .int (nI nC)], aO D ec 10 (lsF cl nC), oO (cl c0) 0 [.int len, .ref ta, .ref (q 0), .ref (q 1)], aT D ta 4 (tkF t), oO (t j) 4 [.ref r1, .ref r2, .ref r3], oO r1 2 [.ref a1, .int (nI sz)], oO r2 2 [.ref a2, .int (nI sz)], oO r3 2 [.ref a3, .int (nI sz)], aI D a1 16 ft, aI D a2 16 fv, aI D a3 16 fe, aL D ou 1 wf] hz0) := by
  refine va_MetW (hh := [(0, 14, 17, 21)]) (cc := cL_keyOf) (maxL := 7) (ret := (some .int)) (by decide +kernel) rfl ?_
  intro p e s m args below meth c s₁ B hml hv
  obtain ⟨rfl, hsz, hG, hP, hD0⟩ := hv
  have hx := B.exec
  have hb := B.bytes
  have hr := B.returns
  have hts : ∀ w ∈ wsL_law, w.before _ s = true := fun w h => atoms_spec (ws := (wsW_ yL_keyOf cL_keyOf 7 (some .int) [(0, 14, 17, 21)])) B.pre w (List.mem_cons_of_mem _ (wsL2_in w h))
  have hown : s.vm.findClass RL = some m.cls := findClass_of_methodNamed B.named
  have hlk := B.notSynchronized
  have hC : CallFix p m c cL_keyOf 7 s _ wsL_law RL := ⟨hx, hb, hml, hown, hts⟩
  subst hsz
  have hD := hD0.self (sz := s.heap.size)
  generalize hAe : va_A [oO xo 5 [.ref lc, .ref lt, .ref bo, .ref yo, .ref no], oO lc 7 [.int m1, .ref ec, .int (nI nC)], aO D ec 10 (lsF cl nC), oO (cl c0) 0 [.int len, .ref ta, .ref (q 0), .ref (q 1)], aT D ta 4 (tkF t), oO (t j) 4 [.ref r1, .ref r2, .ref r3], oO r1 2 [.ref a1, .int (nI sz)], oO r2 2 [.ref a2, .int (nI sz)], oO r3 2 [.ref a3, .int (nI sz)], aI D a1 16 ft, aI D a2 16 fv, aI D a3 16 fe, aL D ou 1 wf] s.heap.size = A at hD ⊢
  have hA : ∀ q : Nat, s.heap.size ≤ q → A q := fun q h => by rw [← hAe]; exact Or.inr h
  have hS : va_S A s.heap s.heap [] := va_S.rf
  obtain ⟨H, hHe⟩ : ∃ H, H = s.heap := ⟨_, rfl⟩
  rw [← hHe] at hP
  have hS : va_S A s.heap H [] := by rw [hHe]; exact hS
  have hl := lv_entry ([.ref xo, .int (nI c0), .int (nI j), .int (nI i), .int w, .ref ou]) (n := 7) (Nat.le_of_ble_eq_true rfl)
  rw [lg_entry_eq]
  generalize (lg_sl ([.ref xo, .int (nI c0), .int (nI j), .int (nI i), .int w, .ref ou]) ++ List.replicate (7 - (lg_sl ([.ref xo, .int (nI c0), .int (nI j), .int (nI i), .int w, .ref ou])).length) Slot.unset).toArray = ls at hl ⊢
  have hl : lv_has ls 7 [(0, .ref xo), (1, .int (nI c0)), (2, .int (nI j)), (3, .int (nI i)), (4, .int w), (5, .ref ou)] := hl
  rw [← hHe]
  refine lv_aload hx hb dL_keyOf_0 (lv_at hl 5 rfl) ?_
  refine lv_iconst (v := 0) hx hb dL_keyOf_2 (by decide) ?_
  refine lv_aload_n hx hb dL_keyOf_3 rfl (lv_at hl 0 rfl) ?_
  refine lv_iload_n hx hb dL_keyOf_4 rfl (lv_at hl 1 rfl) ?_
  refine lv_iload_n hx hb dL_keyOf_5 rfl (lv_at hl 2 rfl) ?_
  refine lv_iload_n hx hb dL_keyOf_6 rfl (lv_at hl 3 rfl) ?_
  refine lv_iload hx hb dL_keyOf_7 (lv_at hl 4 rfl) ?_
  have hP9 := hP.sub (ws' := [oO xo 5 [.ref lc, .ref lt, .ref bo, .ref yo, .ref no], oO lc 7 [.int m1, .ref ec, .int (nI nC)], aO D ec 10 (lsF cl nC), oO (cl c0) 0 [.int len, .ref ta, .ref (q 0), .ref (q 1)], aT D ta 4 (tkF t), oO (t j) 4 [.ref r1, .ref r2, .ref r3], oO r1 2 [.ref a1, .int (nI sz)], oO r2 2 [.ref a2, .int (nI sz)], oO r3 2 [.ref a3, .int (nI sz)], aI D a1 16 ft, aI D a2 16 fv, aI D a3 16 fe]) [0, 1, 2, 3, 4, 5, 6, 7, 8, 9, 10, 11] rfl
  refine vp_callSi (pV (rest := [.int 0, .ref ou]) (qc := (RX5, TX5, 5)) [.int (nI c0), .int (nI j), .int (nI i), .int w] 4 hC (c_keyOf l D (xo := xo) (lc := lc) (lt := lt) (bo := bo) (yo := yo) (no := no) (ec := ec) (nC := nC) (c0 := c0) (m1 := m1) (cl := cl) (ta := ta) (len := len) (q := q) (t := t) (j := j) (r1 := r1) (r2 := r2) (r3 := r3) (a1 := a1) (a2 := a2) (a3 := a3) (sz := sz) (ft := ft) (fv := fv) (fe := fe) (i := i) (w := w) (hnC) (hc) (hj) (hs) (hi) (h)) rfl (hP 0 _ rfl) (gV mM_L_34 mI_X5_keyOf mS_X5_keyOf mN_X5 mC_X5_keyOf) (by decide +kernel) rfl rfl ⟨Nat.le_of_ble_eq_true rfl, Nat.le_of_ble_eq_true rfl⟩ hG hP9 rfl hl.1 rfl (Nat.le_of_ble_eq_true rfl) dL_keyOf_9 ⟨Nat.le_of_ble_eq_true rfl, Nat.le_of_ble_eq_true rfl⟩) (fun r9 h9 => ?_)
  obtain rfl : r9 = (if w = 0 then ft i else if w = 1 then fv i else fe i) := h9
  refine lv_i2l hx hb dL_keyOf_12 rfl ?_
  refine lst (n := 1) (j := 0) hx hb hG hP hD hS 12 rfl (by omega) (by omega) dL_keyOf_13 (fun H locs hP hD hS => ?_)
  have hP : va_P D cls [oO xo 5 [.ref lc, .ref lt, .ref bo, .ref yo, .ref no], oO lc 7 [.int m1, .ref ec, .int (nI nC)], aO D ec 10 (lsF cl nC), oO (cl c0) 0 [.int len, .ref ta, .ref (q 0), .ref (q 1)], aT D ta 4 (tkF t), oO (t j) 4 [.ref r1, .ref r2, .ref r3], oO r1 2 [.ref a1, .int (nI sz)], oO r2 2 [.ref a2, .int (nI sz)], oO r3 2 [.ref a3, .int (nI sz)], aI D a1 16 ft, aI D a2 16 fv, aI D a3 16 fe, aL D ou 1 (vp_updL wf 0 ((if w = 0 then ft i else if w = 1 then fv i else fe i).toInt64))] H := hP
  have hD : va_D A [oO xo 5 [.ref lc, .ref lt, .ref bo, .ref yo, .ref no], oO lc 7 [.int m1, .ref ec, .int (nI nC)], aO D ec 10 (lsF cl nC), oO (cl c0) 0 [.int len, .ref ta, .ref (q 0), .ref (q 1)], aT D ta 4 (tkF t), oO (t j) 4 [.ref r1, .ref r2, .ref r3], oO r1 2 [.ref a1, .int (nI sz)], oO r2 2 [.ref a2, .int (nI sz)], oO r3 2 [.ref a3, .int (nI sz)], aI D a1 16 ft, aI D a2 16 fv, aI D a3 16 fe, aL D ou 1 (vp_updL wf 0 ((if w = 0 then ft i else if w = 1 then fv i else fe i).toInt64))] := hD
  refine lv_goto (tgt := 21) hx hb dL_keyOf_14 (by decide) ?_
  refine lv_iconst (v := 0) hx hb dL_keyOf_21 (by decide) ?_
  refine Wi () hx hb hr hlk ?_ hP hD hS (Nat.le_of_ble_eq_true rfl) (by first | exact Nat.le_of_ble_eq_true rfl | exact Nat.le_of_eq (Nat.zero_add _)) dL_keyOf_22
  exact rfl
set_option maxHeartbeats 400000 in
set_option maxRecDepth 100000 in
theorem h_trackAt_1 (l : Launch) (D : va_G) (hns : l.stackTraces = false) {xo lc lt bo yo no : Nat} {ec nC : Nat} {m1 : Int32} {x p1 ix : Int32} {ou : Nat} (hz0 : Nat) (hnC : nC ≤ 6) (hxx : x < 0 ∨ nI nC ≤ x) : Met l yL_trackAt (wsW_ yL_trackAt cL_trackAt 6 (some .int) [(0, 12, 15, 21), (0, 12, 19, 13), (0, 12, 23, 15)]) ({ frames := 7, cells := 1, slots := 6, locals := 127 } : Room) (va_Pc [.ref xo, .int x, .int p1, .int ix, .ref ou] (TW D [oO xo 5 [.ref lc, .ref lt, .ref bo, .ref yo, .ref no], oO lc 7 [.int m1, .ref ec, .int (nI nC)]] hz0)) (va_Qi (fun r (_ : Unit) => r = 1) (fun _ _ => True) (va_A [] hz0)) 1 6 (va_A [] hz0) := by
  refine va_MetW (hh := [(0, 12, 15, 21), (0, 12, 19, 13), (0, 12, 23, 15)]) (cc := cL_trackAt) (maxL := 6) (ret := (some .int)) (by decide +kernel) rfl ?_
  intro p e s m args below meth c s₁ B hml hv
  obtain ⟨rfl, hsz, hG, hP, hZ⟩ := hv
  subst hsz
  have hx := B.exec
  have hb := B.bytes
  have hr := B.returns
  have hts : ∀ w ∈ wsL_law, w.before _ s = true := fun w h => atoms_spec (ws := (wsW_ yL_trackAt cL_trackAt 6 (some .int) [(0, 12, 15, 21), (0, 12, 19, 13), (0, 12, 23, 15)])) B.pre w (List.mem_cons_of_mem _ (wsL2_in w h))
  have hk15 : (Cond.classLink RL 15 "java/lang/IllegalStateException").before _ s = true := atoms_spec (ws := (wsW_ yL_trackAt cL_trackAt 6 (some .int) [(0, 12, 15, 21), (0, 12, 19, 13), (0, 12, 23, 15)])) B.pre _ (List.mem_cons_of_mem _ List.mem_cons_self)
  have hown : s.vm.findClass RL = some m.cls := findClass_of_methodNamed B.named
  have hlk := B.notSynchronized
  have hC : CallFix p m c cL_trackAt 6 s _ wsL_law RL := ⟨hx, hb, hml, hown, hts⟩
  have hS : va_S (va_A [] s.heap.size) s.heap s.heap [] := va_S.rf
  have hl := lv_entry ([.ref xo, .int x, .int p1, .int ix, .ref ou]) (n := 6) (Nat.le_of_ble_eq_true rfl)
  rw [lg_entry_eq]
  generalize (lg_sl ([.ref xo, .int x, .int p1, .int ix, .ref ou]) ++ List.replicate (6 - (lg_sl ([.ref xo, .int x, .int p1, .int ix, .ref ou])).length) Slot.unset).toArray = ls at hl ⊢
  have hl : lv_has ls 6 [(0, .ref xo), (1, .int x), (2, .int p1), (3, .int ix), (4, .ref ou)] := hl
  refine lv_aload hx hb dL_trackAt_0 (lv_at hl 4 rfl) ?_
  refine lv_iconst (v := 0) hx hb dL_trackAt_2 (by decide) ?_
  refine lv_aload_n hx hb dL_trackAt_3 rfl (lv_at hl 0 rfl) ?_
  refine lv_iload_n hx hb dL_trackAt_4 rfl (lv_at hl 1 rfl) ?_
  refine lv_iload_n hx hb dL_trackAt_5 rfl (lv_at hl 2 rfl) ?_
  refine lv_iload_n hx hb dL_trackAt_6 rfl (lv_at hl 3 rfl) ?_
  have hP9 := hP.sub (ws' := [oO xo 5 [.ref lc, .ref lt, .ref bo, .ref yo, .ref no], oO lc 7 [.int m1, .ref ec, .int (nI nC)]]) [0, 1] rfl
  refine vx_calli (A0 := va_A [] s.heap.size) (rX (rest := [.int 0, .ref ou]) (qc := (RX5, TX5, 5)) [.int x, .int p1, .int ix] 3 hC (t_trackAt_1 l D hns (xo := xo) (lc := lc) (lt := lt) (bo := bo) (yo := yo) (no := no) (ec := ec) (nC := nC) (m1 := m1) (x := x) (p1 := p1) (ix := ix) (hz0 := s.heap.size) (hnC) (hxx)) rfl (hP 0 _ rfl) (gV mM_L_38 mI_X5_trackAt mS_X5_trackAt mN_X5 mC_X5_trackAt) (by decide +kernel) rfl rfl ⟨Nat.le_of_ble_eq_true rfl, Nat.le_of_ble_eq_true rfl⟩ hG hP9 hZ rfl hl.1 rfl (Nat.le_of_ble_eq_true rfl) dL_trackAt_7 ⟨Nat.le_of_ble_eq_true rfl, Nat.le_of_ble_eq_true rfl⟩) hS (fun q _ h => h) (fun q h => h) (fun q _ h => h) (fun E ce q9 u9 t H1 locs1 ht hvm hp9 hB hz hk hS1 hce hcv hcl => ?_) (fun r u t H1 locs1 ht hvm hp9 _ _ _ _ => hp9.elim)
  obtain rfl : E = "java/lang/IndexOutOfBoundsException" := hB
  have htb := vx_table (x := yL_trackAt) B (hts _ mW_L_trackAt)
  refine vx_catch (own := RL) (name := "java/lang/IndexOutOfBoundsException") (pc := 7) (rest := [.int 0, .ref ou]) hown [] ⟨0, 12, 15, 21⟩ [⟨0, 12, 19, 13⟩, ⟨0, 12, 23, 15⟩] (by rw [htb]; rfl) (fun z hz9 => absurd hz9 List.not_mem_nil) rfl (by decide) (hts _ mK_L_21) (va_Nw.use rfl (gkC hG 4 rfl)) hce hcv hcl ?_
  refine lv_astore (lv' := [(5, .ref q9), (0, .ref xo), (1, .int x), (2, .int p1), (3, .int ix), (4, .ref ou)]) hx hb dL_trackAt_15 hl (by decide) rfl (fun ls hl => ?_)
  refine lv_iconst (v := 1) hx hb dL_trackAt_17 (by decide) ?_
  exact W.iret (v := 1) hx hb hr (fun t ht _ => ⟨⟨_, (), rfl, rfl, trivial⟩, hS1.F ht⟩) hS1.2.2 dL_trackAt_18 hlk
set_option maxHeartbeats 400000 in
set_option maxRecDepth 100000 in
theorem h_trackAt_2 (l : Launch) (D : va_G) (hns : l.stackTraces = false) {xo lc lt bo yo no : Nat} {ec nC c0 : Nat} {m1 : Int32} {cl : Nat → Nat} {ta : Nat} {len : Int32} {q t : Nat → Nat} {p1 ix : Int32} {ou : Nat} (hz0 : Nat) (hnC : nC ≤ 6) (hc : c0 < nC) (hp : p1 < 0 ∨ 4 ≤ p1) : Met l yL_trackAt (wsW_ yL_trackAt cL_trackAt 6 (some .int) [(0, 12, 15, 21), (0, 12, 19, 13), (0, 12, 23, 15)]) ({ frames := 7, cells := 1, slots := 6, locals := 127 } : Room) (va_Pc [.ref xo, .int (nI c0), .int p1, .int ix, .ref ou] (TW D [oO xo 5 [.ref lc, .ref lt, .ref bo, .ref yo, .ref no], oO lc 7 [.int m1, .ref ec, .int (nI nC)], aO D ec 10 (lsF cl nC), oO (cl c0) 0 [.int len, .ref ta, .ref (q 0), .ref (q 1)], aT D ta 4 (tkF t)] hz0)) (va_Qi (fun r (_ : Unit) => r = 1) (fun _ _ => True) (va_A [] hz0)) 1 6 (va_A [] hz0) := by
  refine va_MetW (hh := [(0, 12, 15, 21), (0, 12, 19, 13), (0, 12, 23, 15)]) (cc := cL_trackAt) (maxL := 6) (ret := (some .int)) (by decide +kernel) rfl ?_
  intro p e s m args below meth c s₁ B hml hv
  obtain ⟨rfl, hsz, hG, hP, hZ⟩ := hv
  subst hsz
  have hx := B.exec
  have hb := B.bytes
  have hr := B.returns
  have hts : ∀ w ∈ wsL_law, w.before _ s = true := fun w h => atoms_spec (ws := (wsW_ yL_trackAt cL_trackAt 6 (some .int) [(0, 12, 15, 21), (0, 12, 19, 13), (0, 12, 23, 15)])) B.pre w (List.mem_cons_of_mem _ (wsL2_in w h))
  have hk15 : (Cond.classLink RL 15 "java/lang/IllegalStateException").before _ s = true := atoms_spec (ws := (wsW_ yL_trackAt cL_trackAt 6 (some .int) [(0, 12, 15, 21), (0, 12, 19, 13), (0, 12, 23, 15)])) B.pre _ (List.mem_cons_of_mem _ List.mem_cons_self)
  have hown : s.vm.findClass RL = some m.cls := findClass_of_methodNamed B.named
  have hlk := B.notSynchronized
  have hC : CallFix p m c cL_trackAt 6 s _ wsL_law RL := ⟨hx, hb, hml, hown, hts⟩
  have hS : va_S (va_A [] s.heap.size) s.heap s.heap [] := va_S.rf
  have hl := lv_entry ([.ref xo, .int (nI c0), .int p1, .int ix, .ref ou]) (n := 6) (Nat.le_of_ble_eq_true rfl)
  rw [lg_entry_eq]
  generalize (lg_sl ([.ref xo, .int (nI c0), .int p1, .int ix, .ref ou]) ++ List.replicate (6 - (lg_sl ([.ref xo, .int (nI c0), .int p1, .int ix, .ref ou])).length) Slot.unset).toArray = ls at hl ⊢
  have hl : lv_has ls 6 [(0, .ref xo), (1, .int (nI c0)), (2, .int p1), (3, .int ix), (4, .ref ou)] := hl
  refine lv_aload hx hb dL_trackAt_0 (lv_at hl 4 rfl) ?_
  refine lv_iconst (v := 0) hx hb dL_trackAt_2 (by decide) ?_
  refine lv_aload_n hx hb dL_trackAt_3 rfl (lv_at hl 0 rfl) ?_
  refine lv_iload_n hx hb dL_trackAt_4 rfl (lv_at hl 1 rfl) ?_
  refine lv_iload_n hx hb dL_trackAt_5 rfl (lv_at hl 2 rfl) ?_
  refine lv_iload_n hx hb dL_trackAt_6 rfl (lv_at hl 3 rfl) ?_
  have hP9 := hP.sub (ws' := [oO xo 5 [.ref lc, .ref lt, .ref bo, .ref yo, .ref no], oO lc 7 [.int m1, .ref ec, .int (nI nC)], aO D ec 10 (lsF cl nC), oO (cl c0) 0 [.int len, .ref ta, .ref (q 0), .ref (q 1)], aT D ta 4 (tkF t)]) [0, 1, 2, 3, 4] rfl
  refine vx_calli (A0 := va_A [] s.heap.size) (rX (rest := [.int 0, .ref ou]) (qc := (RX5, TX5, 5)) [.int (nI c0), .int p1, .int ix] 3 hC (t_trackAt_2 l D hns (xo := xo) (lc := lc) (lt := lt) (bo := bo) (yo := yo) (no := no) (ec := ec) (nC := nC) (c0 := c0) (m1 := m1) (cl := cl) (ta := ta) (len := len) (q := q) (t := t) (p1 := p1) (ix := ix) (hz0 := s.heap.size) (hnC) (hc) (hp)) rfl (hP 0 _ rfl) (gV mM_L_38 mI_X5_trackAt mS_X5_trackAt mN_X5 mC_X5_trackAt) (by decide +kernel) rfl rfl ⟨Nat.le_of_ble_eq_true rfl, Nat.le_of_ble_eq_true rfl⟩ hG hP9 hZ rfl hl.1 rfl (Nat.le_of_ble_eq_true rfl) dL_trackAt_7 ⟨Nat.le_of_ble_eq_true rfl, Nat.le_of_ble_eq_true rfl⟩) hS (fun q _ h => h) (fun q h => h) (fun q _ h => h) (fun E ce q9 u9 t H1 locs1 ht hvm hp9 hB hz hk hS1 hce hcv hcl => ?_) (fun r u t H1 locs1 ht hvm hp9 _ _ _ _ => hp9.elim)
  obtain rfl : E = "java/lang/IndexOutOfBoundsException" := hB
  have htb := vx_table (x := yL_trackAt) B (hts _ mW_L_trackAt)
  refine vx_catch (own := RL) (name := "java/lang/IndexOutOfBoundsException") (pc := 7) (rest := [.int 0, .ref ou]) hown [] ⟨0, 12, 15, 21⟩ [⟨0, 12, 19, 13⟩, ⟨0, 12, 23, 15⟩] (by rw [htb]; rfl) (fun z hz9 => absurd hz9 List.not_mem_nil) rfl (by decide) (hts _ mK_L_21) (va_Nw.use rfl (gkC hG 4 rfl)) hce hcv hcl ?_
  refine lv_astore (lv' := [(5, .ref q9), (0, .ref xo), (1, .int (nI c0)), (2, .int p1), (3, .int ix), (4, .ref ou)]) hx hb dL_trackAt_15 hl (by decide) rfl (fun ls hl => ?_)
  refine lv_iconst (v := 1) hx hb dL_trackAt_17 (by decide) ?_
  exact W.iret (v := 1) hx hb hr (fun t ht _ => ⟨⟨_, (), rfl, rfl, trivial⟩, hS1.F ht⟩) hS1.2.2 dL_trackAt_18 hlk
set_option maxHeartbeats 400000 in
set_option maxRecDepth 100000 in
theorem h_trackAt_3 (l : Launch) (D : va_G) (hns : l.stackTraces = false) {xo lc lt bo yo no : Nat} {ec nC c0 : Nat} {m1 : Int32} {cl : Nat → Nat} {ta : Nat} {len : Int32} {q t : Nat → Nat} {j : Nat} {ix : Int32} {ou : Nat} (hz0 : Nat) (hnC : nC ≤ 6) (hc : c0 < nC) (hj : j < 4) (h : ¬ (0 ≤ ix ∧ ix ≤ len)) : Met l yL_trackAt (wsW_ yL_trackAt cL_trackAt 6 (some .int) [(0, 12, 15, 21), (0, 12, 19, 13), (0, 12, 23, 15)]) ({ frames := 7, cells := 1, slots := 6, locals := 127 } : Room) (va_Pc [.ref xo, .int (nI c0), .int (nI j), .int ix, .ref ou] (TW D [oO xo 5 [.ref lc, .ref lt, .ref bo, .ref yo, .ref no], oO lc 7 [.int m1, .ref ec, .int (nI nC)], aO D ec 10 (lsF cl nC), oO (cl c0) 0 [.int len, .ref ta, .ref (q 0), .ref (q 1)], aT D ta 4 (tkF t)] hz0)) (va_Qi (fun r (_ : Unit) => r = 2) (fun _ _ => True) (va_A [] hz0)) 1 6 (va_A [] hz0) := by
  refine va_MetW (hh := [(0, 12, 15, 21), (0, 12, 19, 13), (0, 12, 23, 15)]) (cc := cL_trackAt) (maxL := 6) (ret := (some .int)) (by decide +kernel) rfl ?_
  intro p e s m args below meth c s₁ B hml hv
  obtain ⟨rfl, hsz, hG, hP, hZ⟩ := hv
  subst hsz
  have hx := B.exec
  have hb := B.bytes
  have hr := B.returns
  have hts : ∀ w ∈ wsL_law, w.before _ s = true := fun w h => atoms_spec (ws := (wsW_ yL_trackAt cL_trackAt 6 (some .int) [(0, 12, 15, 21), (0, 12, 19, 13), (0, 12, 23, 15)])) B.pre w (List.mem_cons_of_mem _ (wsL2_in w h))
  have hk15 : (Cond.classLink RL 15 "java/lang/IllegalStateException").before _ s = true := atoms_spec (ws := (wsW_ yL_trackAt cL_trackAt 6 (some .int) [(0, 12, 15, 21), (0, 12, 19, 13), (0, 12, 23, 15)])) B.pre _ (List.mem_cons_of_mem _ List.mem_cons_self)
  have hown : s.vm.findClass RL = some m.cls := findClass_of_methodNamed B.named
  have hlk := B.notSynchronized
  have hC : CallFix p m c cL_trackAt 6 s _ wsL_law RL := ⟨hx, hb, hml, hown, hts⟩
  have hS : va_S (va_A [] s.heap.size) s.heap s.heap [] := va_S.rf
  have hl := lv_entry ([.ref xo, .int (nI c0), .int (nI j), .int ix, .ref ou]) (n := 6) (Nat.le_of_ble_eq_true rfl)
  rw [lg_entry_eq]
  generalize (lg_sl ([.ref xo, .int (nI c0), .int (nI j), .int ix, .ref ou]) ++ List.replicate (6 - (lg_sl ([.ref xo, .int (nI c0), .int (nI j), .int ix, .ref ou])).length) Slot.unset).toArray = ls at hl ⊢
  have hl : lv_has ls 6 [(0, .ref xo), (1, .int (nI c0)), (2, .int (nI j)), (3, .int ix), (4, .ref ou)] := hl
  refine lv_aload hx hb dL_trackAt_0 (lv_at hl 4 rfl) ?_
  refine lv_iconst (v := 0) hx hb dL_trackAt_2 (by decide) ?_
  refine lv_aload_n hx hb dL_trackAt_3 rfl (lv_at hl 0 rfl) ?_
  refine lv_iload_n hx hb dL_trackAt_4 rfl (lv_at hl 1 rfl) ?_
  refine lv_iload_n hx hb dL_trackAt_5 rfl (lv_at hl 2 rfl) ?_
  refine lv_iload_n hx hb dL_trackAt_6 rfl (lv_at hl 3 rfl) ?_
  have hP9 := hP.sub (ws' := [oO xo 5 [.ref lc, .ref lt, .ref bo, .ref yo, .ref no], oO lc 7 [.int m1, .ref ec, .int (nI nC)], aO D ec 10 (lsF cl nC), oO (cl c0) 0 [.int len, .ref ta, .ref (q 0), .ref (q 1)], aT D ta 4 (tkF t)]) [0, 1, 2, 3, 4] rfl
  refine vx_calli (A0 := va_A [] s.heap.size) (rX (rest := [.int 0, .ref ou]) (qc := (RX5, TX5, 5)) [.int (nI c0), .int (nI j), .int ix] 3 hC (t_trackAt_3 l D hns (xo := xo) (lc := lc) (lt := lt) (bo := bo) (yo := yo) (no := no) (ec := ec) (nC := nC) (c0 := c0) (m1 := m1) (cl := cl) (ta := ta) (len := len) (q := q) (t := t) (j := j) (ix := ix) (hz0 := s.heap.size) (hnC) (hc) (hj) (h)) rfl (hP 0 _ rfl) (gV mM_L_38 mI_X5_trackAt mS_X5_trackAt mN_X5 mC_X5_trackAt) (by decide +kernel) rfl rfl ⟨Nat.le_of_ble_eq_true rfl, Nat.le_of_ble_eq_true rfl⟩ hG hP9 hZ rfl hl.1 rfl (Nat.le_of_ble_eq_true rfl) dL_trackAt_7 ⟨Nat.le_of_ble_eq_true rfl, Nat.le_of_ble_eq_true rfl⟩) hS (fun q _ h => h) (fun q h => h) (fun q _ h => h) (fun E ce q9 u9 t H1 locs1 ht hvm hp9 hB hz hk hS1 hce hcv hcl => ?_) (fun r u t H1 locs1 ht hvm hp9 _ _ _ _ => hp9.elim)
  obtain rfl : E = "java/lang/IllegalArgumentException" := hB
  have htb := vx_table (x := yL_trackAt) B (hts _ mW_L_trackAt)
  refine vx_catch (own := RL) (name := "java/lang/IllegalArgumentException") (pc := 7) (rest := [.int 0, .ref ou]) hown [⟨0, 12, 15, 21⟩] ⟨0, 12, 19, 13⟩ [⟨0, 12, 23, 15⟩] (by rw [htb]; rfl) (fun z hz9 => by
    simp only [List.mem_cons, List.not_mem_nil, or_false] at hz9
    rcases hz9 with rfl
    · exact Or.inr ⟨by decide, _, hts _ mK_L_21, gkN hG 1 rfl⟩) rfl (by decide) (hts _ mK_L_13) (va_Nw.use rfl (gkC hG 2 rfl)) hce hcv hcl ?_
  refine lv_astore (lv' := [(5, .ref q9), (0, .ref xo), (1, .int (nI c0)), (2, .int (nI j)), (3, .int ix), (4, .ref ou)]) hx hb dL_trackAt_19 hl (by decide) rfl (fun ls hl => ?_)
  refine lv_iconst (v := 2) hx hb dL_trackAt_21 (by decide) ?_
  exact W.iret (v := 2) hx hb hr (fun t ht _ => ⟨⟨_, (), rfl, rfl, trivial⟩, hS1.F ht⟩) hS1.2.2 dL_trackAt_22 hlk
set_option maxHeartbeats 400000 in
set_option maxRecDepth 100000 in
theorem h_trackAt_4 (l : Launch) (D : va_G) (hns : l.stackTraces = false) {xo lc lt bo yo no : Nat} {ec nC c0 : Nat} {m1 : Int32} {cl : Nat → Nat} {ta : Nat} {len : Int32} {q t : Nat → Nat} {j r1 r2 r3 a1 a2 a3 sz : Nat} {ft fv fe : Nat → Int32} {ix : Int32} {ou : Nat} (hz0 : Nat) (hnC : nC ≤ 6) (hc : c0 < nC) (hj : j < 4) (h : 0 ≤ ix ∧ ix ≤ len) (hz : sz = 0) : Met l yL_trackAt (wsW_ yL_trackAt cL_trackAt 6 (some .int) [(0, 12, 15, 21), (0, 12, 19, 13), (0, 12, 23, 15)]) ({ frames := 7, cells := 1, slots := 6, locals := 127 } : Room) (va_Pc [.ref xo, .int (nI c0), .int (nI j), .int ix, .ref ou] (TW D [oO xo 5 [.ref lc, .ref lt, .ref bo, .ref yo, .ref no], oO lc 7 [.int m1, .ref ec, .int (nI nC)], aO D ec 10 (lsF cl nC), oO (cl c0) 0 [.int len, .ref ta, .ref (q 0), .ref (q 1)], aT D ta 4 (tkF t), oO (t j) 4 [.ref r1, .ref r2, .ref r3], oO r1 2 [.ref a1, .int (nI sz)], oO r2 2 [.ref a2, .int (nI sz)], oO r3 2 [.ref a3, .int (nI sz)], aI D a1 16 ft, aI D a2 16 fv, aI D a3 16 fe] hz0)) (va_Qi (fun r (_ : Unit) => r = 3) (fun _ _ => True) (va_A [] hz0)) 1 6 (va_A [] hz0) := by
  refine va_MetW (hh := [(0, 12, 15, 21), (0, 12, 19, 13), (0, 12, 23, 15)]) (cc := cL_trackAt) (maxL := 6) (ret := (some .int)) (by decide +kernel) rfl ?_
  intro p e s m args below meth c s₁ B hml hv
  obtain ⟨rfl, hsz, hG, hP, hZ⟩ := hv
  subst hsz
  have hx := B.exec
  have hb := B.bytes
  have hr := B.returns
  have hts : ∀ w ∈ wsL_law, w.before _ s = true := fun w h => atoms_spec (ws := (wsW_ yL_trackAt cL_trackAt 6 (some .int) [(0, 12, 15, 21), (0, 12, 19, 13), (0, 12, 23, 15)])) B.pre w (List.mem_cons_of_mem _ (wsL2_in w h))
  have hk15 : (Cond.classLink RL 15 "java/lang/IllegalStateException").before _ s = true := atoms_spec (ws := (wsW_ yL_trackAt cL_trackAt 6 (some .int) [(0, 12, 15, 21), (0, 12, 19, 13), (0, 12, 23, 15)])) B.pre _ (List.mem_cons_of_mem _ List.mem_cons_self)
  have hown : s.vm.findClass RL = some m.cls := findClass_of_methodNamed B.named
  have hlk := B.notSynchronized
  have hC : CallFix p m c cL_trackAt 6 s _ wsL_law RL := ⟨hx, hb, hml, hown, hts⟩
  have hS : va_S (va_A [] s.heap.size) s.heap s.heap [] := va_S.rf
  have hl := lv_entry ([.ref xo, .int (nI c0), .int (nI j), .int ix, .ref ou]) (n := 6) (Nat.le_of_ble_eq_true rfl)
  rw [lg_entry_eq]
  generalize (lg_sl ([.ref xo, .int (nI c0), .int (nI j), .int ix, .ref ou]) ++ List.replicate (6 - (lg_sl ([.ref xo, .int (nI c0), .int (nI j), .int ix, .ref ou])).length) Slot.unset).toArray = ls at hl ⊢
  have hl : lv_has ls 6 [(0, .ref xo), (1, .int (nI c0)), (2, .int (nI j)), (3, .int ix), (4, .ref ou)] := hl
  refine lv_aload hx hb dL_trackAt_0 (lv_at hl 4 rfl) ?_
  refine lv_iconst (v := 0) hx hb dL_trackAt_2 (by decide) ?_
  refine lv_aload_n hx hb dL_trackAt_3 rfl (lv_at hl 0 rfl) ?_
  refine lv_iload_n hx hb dL_trackAt_4 rfl (lv_at hl 1 rfl) ?_
  refine lv_iload_n hx hb dL_trackAt_5 rfl (lv_at hl 2 rfl) ?_
  refine lv_iload_n hx hb dL_trackAt_6 rfl (lv_at hl 3 rfl) ?_
  have hP9 := hP.sub (ws' := [oO xo 5 [.ref lc, .ref lt, .ref bo, .ref yo, .ref no], oO lc 7 [.int m1, .ref ec, .int (nI nC)], aO D ec 10 (lsF cl nC), oO (cl c0) 0 [.int len, .ref ta, .ref (q 0), .ref (q 1)], aT D ta 4 (tkF t), oO (t j) 4 [.ref r1, .ref r2, .ref r3], oO r1 2 [.ref a1, .int (nI sz)], oO r2 2 [.ref a2, .int (nI sz)], oO r3 2 [.ref a3, .int (nI sz)], aI D a1 16 ft, aI D a2 16 fv, aI D a3 16 fe]) [0, 1, 2, 3, 4, 5, 6, 7, 8, 9, 10, 11] rfl
  refine vx_calli (A0 := va_A [] s.heap.size) (rX (rest := [.int 0, .ref ou]) (qc := (RX5, TX5, 5)) [.int (nI c0), .int (nI j), .int ix] 3 hC (t_trackAt_4 l D hns (xo := xo) (lc := lc) (lt := lt) (bo := bo) (yo := yo) (no := no) (ec := ec) (nC := nC) (c0 := c0) (m1 := m1) (cl := cl) (ta := ta) (len := len) (q := q) (t := t) (j := j) (r1 := r1) (r2 := r2) (r3 := r3) (a1 := a1) (a2 := a2) (a3 := a3) (sz := sz) (ft := ft) (fv := fv) (fe := fe) (ix := ix) (hz0 := s.heap.size) (hnC) (hc) (hj) (h) (hz)) rfl (hP 0 _ rfl) (gV mM_L_38 mI_X5_trackAt mS_X5_trackAt mN_X5 mC_X5_trackAt) (by decide +kernel) rfl rfl ⟨Nat.le_of_ble_eq_true rfl, Nat.le_of_ble_eq_true rfl⟩ hG hP9 hZ rfl hl.1 rfl (Nat.le_of_ble_eq_true rfl) dL_trackAt_7 ⟨Nat.le_of_ble_eq_true rfl, Nat.le_of_ble_eq_true rfl⟩) hS (fun q _ h => h) (fun q h => h) (fun q _ h => h) (fun E ce q9 u9 t H1 locs1 ht hvm hp9 hB hz hk hS1 hce hcv hcl => ?_) (fun r u t H1 locs1 ht hvm hp9 _ _ _ _ => hp9.elim)
  obtain rfl : E = "java/lang/IllegalStateException" := hB
  have htb := vx_table (x := yL_trackAt) B (hts _ mW_L_trackAt)
  refine vx_catch (own := RL) (name := "java/lang/IllegalStateException") (pc := 7) (rest := [.int 0, .ref ou]) hown [⟨0, 12, 15, 21⟩, ⟨0, 12, 19, 13⟩] ⟨0, 12, 23, 15⟩ [] (by rw [htb]; rfl) (fun z hz9 => by
    simp only [List.mem_cons, List.not_mem_nil, or_false] at hz9
    rcases hz9 with rfl | rfl
    · exact Or.inr ⟨by decide, _, hts _ mK_L_21, gkN hG 3 rfl⟩
    · exact Or.inr ⟨by decide, _, hts _ mK_L_13, gkN hG 2 rfl⟩) rfl (by decide) (hk15) (va_Nw.use rfl (gkC hG 3 rfl)) hce hcv hcl ?_
  refine lv_astore (lv' := [(5, .ref q9), (0, .ref xo), (1, .int (nI c0)), (2, .int (nI j)), (3, .int ix), (4, .ref ou)]) hx hb dL_trackAt_23 hl (by decide) rfl (fun ls hl => ?_)
  refine lv_iconst (v := 3) hx hb dL_trackAt_25 (by decide) ?_
  exact W.iret (v := 3) hx hb hr (fun t ht _ => ⟨⟨_, (), rfl, rfl, trivial⟩, hS1.F ht⟩) hS1.2.2 dL_trackAt_26 hlk
set_option maxHeartbeats 400000 in
set_option maxRecDepth 100000 in
theorem l_trackAt (l : Launch) (D : va_G) {xo lc lt bo yo no : Nat} {ec nC c0 : Nat} {m1 : Int32} {cl : Nat → Nat} {ta : Nat} {len : Int32} {q t : Nat → Nat} {j r1 r2 r3 a1 a2 a3 sz : Nat} {ft fv fe : Nat → Int32} {ix : Int32} {ou : Nat} {wf : Nat → Int64} (hz0 : Nat) (hnC : nC ≤ 6) (hc : c0 < nC) (hj : j < 4) (h : 0 ≤ ix ∧ ix ≤ len) (hs : sz ≤ 16) (hz : 0 < sz) (hT : tOK ft sz) : Met l yL_trackAt (wsW_ yL_trackAt cL_trackAt 6 (some .int) [(0, 12, 15, 21), (0, 12, 19, 13), (0, 12, 23, 15)]) ({ frames := 7, cells := 0, slots := 0, locals := 127 } : Room) (va_Pc [.ref xo, .int (nI c0), .int (nI j), .int ix, .ref ou] (SW D [oO xo 5 [.ref lc, .ref lt, .ref bo, .ref yo, .ref no], oO lc 7 [.int m1, .ref ec, .int (nI nC)], aO D ec 10 (lsF cl nC), oO (cl c0) 0 [.int len, .ref ta, .ref (q 0), .ref (q 1)], aT D ta 4 (tkF t), oO (t j) 4 [.ref r1, .ref r2, .ref r3], oO r1 2 [.ref a1, .int (nI sz)], oO r2 2 [.ref a2, .int (nI sz)], oO r3 2 [.ref a3, .int (nI sz)], aI D a1 16 ft, aI D a2 16 fv, aI D a3 16 fe, aL D ou 1 wf] hz0)) (va_Qi (fun r _ => r = 0) (AT D (va_A [oO xo 5 [.ref lc, .ref lt, .ref bo, .ref yo, .ref no], oO lc 7 [.int m1, .ref ec, .int (nI nC)], aO D ec 10 (lsF cl nC), oO (cl c0) 0 [.int len, .ref ta, .ref (q 0), .ref (q 1)], aT D ta 4 (tkF t), oO (t j) 4 [.ref r1, .ref r2, .ref r3], oO r1 2 [.ref a1, .int (nI sz)], oO r2 2 [.ref a2, .int (nI sz)], oO r3 2 [.ref a3, .int (nI sz)], aI D a1 16 ft, aI D a2 16 fv, aI D a3 16 fe, aL D ou 1 wf] hz0) (fun _ : Unit => [oO xo 5 [.ref lc, .ref lt, .ref bo, .ref yo, .ref no], oO lc 7 [.int m1, .ref ec, .int (nI nC)], aO D ec 10 (lsF cl nC), oO (cl c0) 0 [.int len, .ref ta, .ref (q 0), .ref (q 1)], aT D ta 4 (tkF t), oO (t j) 4 [.ref r1, .ref r2, .ref r3], oO r1 2 [.ref a1, .int (nI sz)], oO r2 2 [.ref a2, .int (nI sz)], oO r3 2 [.ref a3, .int (nI sz)], aI D a1 16 ft, aI D a2 16 fv, aI D a3 16 fe, aL D ou 1 (vp_updL wf 0 (evT sz ft fv fe ix).toInt64)])) (va_A [oO xo 5 [.ref lc, .ref lt, .ref bo, .ref yo, .ref no], oO lc 7 [.int m1, .ref ec, .int (nI nC)], aO D ec 10 (lsF cl nC), oO (cl c0) 0 [.int len, .ref ta, .ref (q 0), .ref (q 1)], aT D ta 4 (tkF t), oO (t j) 4 [.ref r1, .ref r2, .ref r3], oO r1 2 [.ref a1, .int (nI sz)], oO r2 2 [.ref a2, .int (nI sz)], oO r3 2 [.ref a3, .int (nI sz)], aI D a1 16 ft, aI D a2 16 fv, aI D a3 16 fe, aL D ou 1 wf] hz0)) 0 0 (va_A [oO xo 5 [.ref lc, .ref lt, .ref bo, .ref yo, .ref no], oO lc 7 [.int m1, .ref ec, .int (nI nC)], aO D ec 10 (lsF cl nC), oO (cl c0) 0 [.int len, .ref ta, .ref (q 0), .ref (q 1)], aT D ta 4 (tkF t), oO (t j) 4 [.ref r1, .ref r2, .ref r3], oO r1 2 [.ref a1, .int (nI sz)], oO r2 2 [.ref a2, .int (nI sz)], oO r3 2 [.ref a3, .int (nI sz)], aI D a1 16 ft, aI D a2 16 fv, aI D a3 16 fe, aL D ou 1 wf] hz0) := by
  refine va_MetW (hh := [(0, 12, 15, 21), (0, 12, 19, 13), (0, 12, 23, 15)]) (cc := cL_trackAt) (maxL := 6) (ret := (some .int)) (by decide +kernel) rfl ?_
  intro p e s m args below meth c s₁ B hml hv
  obtain ⟨rfl, hsz, hG, hP, hD0⟩ := hv
  have hx := B.exec
  have hb := B.bytes
  have hr := B.returns
  have hts : ∀ w ∈ wsL_law, w.before _ s = true := fun w h => atoms_spec (ws := (wsW_ yL_trackAt cL_trackAt 6 (some .int) [(0, 12, 15, 21), (0, 12, 19, 13), (0, 12, 23, 15)])) B.pre w (List.mem_cons_of_mem _ (wsL2_in w h))
  have hown : s.vm.findClass RL = some m.cls := findClass_of_methodNamed B.named
  have hlk := B.notSynchronized
  have hC : CallFix p m c cL_trackAt 6 s _ wsL_law RL := ⟨hx, hb, hml, hown, hts⟩
  subst hsz
  have hD := hD0.self (sz := s.heap.size)
  generalize hAe : va_A [oO xo 5 [.ref lc, .ref lt, .ref bo, .ref yo, .ref no], oO lc 7 [.int m1, .ref ec, .int (nI nC)], aO D ec 10 (lsF cl nC), oO (cl c0) 0 [.int len, .ref ta, .ref (q 0), .ref (q 1)], aT D ta 4 (tkF t), oO (t j) 4 [.ref r1, .ref r2, .ref r3], oO r1 2 [.ref a1, .int (nI sz)], oO r2 2 [.ref a2, .int (nI sz)], oO r3 2 [.ref a3, .int (nI sz)], aI D a1 16 ft, aI D a2 16 fv, aI D a3 16 fe, aL D ou 1 wf] s.heap.size = A at hD ⊢
  have hA : ∀ q : Nat, s.heap.size ≤ q → A q := fun q h => by rw [← hAe]; exact Or.inr h
  have hS : va_S A s.heap s.heap [] := va_S.rf
  obtain ⟨H, hHe⟩ : ∃ H, H = s.heap := ⟨_, rfl⟩
  rw [← hHe] at hP
  have hS : va_S A s.heap H [] := by rw [hHe]; exact hS
  have hl := lv_entry ([.ref xo, .int (nI c0), .int (nI j), .int ix, .ref ou]) (n := 6) (Nat.le_of_ble_eq_true rfl)
  rw [lg_entry_eq]
  generalize (lg_sl ([.ref xo, .int (nI c0), .int (nI j), .int ix, .ref ou]) ++ List.replicate (6 - (lg_sl ([.ref xo, .int (nI c0), .int (nI j), .int ix, .ref ou])).length) Slot.unset).toArray = ls at hl ⊢
  have hl : lv_has ls 6 [(0, .ref xo), (1, .int (nI c0)), (2, .int (nI j)), (3, .int ix), (4, .ref ou)] := hl
  rw [← hHe]
  refine lv_aload hx hb dL_trackAt_0 (lv_at hl 4 rfl) ?_
  refine lv_iconst (v := 0) hx hb dL_trackAt_2 (by decide) ?_
  refine lv_aload_n hx hb dL_trackAt_3 rfl (lv_at hl 0 rfl) ?_
  refine lv_iload_n hx hb dL_trackAt_4 rfl (lv_at hl 1 rfl) ?_
  refine lv_iload_n hx hb dL_trackAt_5 rfl (lv_at hl 2 rfl) ?_
  refine lv_iload_n hx hb dL_trackAt_6 rfl (lv_at hl 3 rfl) ?_
  have hP9 := hP.sub (ws' := [oO xo 5 [.ref lc, .ref lt, .ref bo, .ref yo, .ref no], oO lc 7 [.int m1, .ref ec, .int (nI nC)], aO D ec 10 (lsF cl nC), oO (cl c0) 0 [.int len, .ref ta, .ref (q 0), .ref (q 1)], aT D ta 4 (tkF t), oO (t j) 4 [.ref r1, .ref r2, .ref r3], oO r1 2 [.ref a1, .int (nI sz)], oO r2 2 [.ref a2, .int (nI sz)], oO r3 2 [.ref a3, .int (nI sz)], aI D a1 16 ft, aI D a2 16 fv, aI D a3 16 fe]) [0, 1, 2, 3, 4, 5, 6, 7, 8, 9, 10, 11] rfl
  refine vp_callSi (pV (rest := [.int 0, .ref ou]) (qc := (RX5, TX5, 5)) [.int (nI c0), .int (nI j), .int ix] 3 hC (c_trackAt l D (xo := xo) (lc := lc) (lt := lt) (bo := bo) (yo := yo) (no := no) (ec := ec) (nC := nC) (c0 := c0) (m1 := m1) (cl := cl) (ta := ta) (len := len) (q := q) (t := t) (j := j) (r1 := r1) (r2 := r2) (r3 := r3) (a1 := a1) (a2 := a2) (a3 := a3) (sz := sz) (ft := ft) (fv := fv) (fe := fe) (ix := ix) (hnC) (hc) (hj) (h) (hs) (hz) (hT)) rfl (hP 0 _ rfl) (gV mM_L_38 mI_X5_trackAt mS_X5_trackAt mN_X5 mC_X5_trackAt) (by decide +kernel) rfl rfl ⟨Nat.le_of_ble_eq_true rfl, Nat.le_of_ble_eq_true rfl⟩ hG hP9 rfl hl.1 rfl (Nat.le_of_ble_eq_true rfl) dL_trackAt_7 ⟨Nat.le_of_ble_eq_true rfl, Nat.le_of_ble_eq_true rfl⟩) (fun r7 h7 => ?_)
  obtain rfl : r7 = (evT sz ft fv fe ix) := h7
  refine lv_i2l hx hb dL_trackAt_10 rfl ?_
  refine lst (n := 1) (j := 0) hx hb hG hP hD hS 12 rfl (by omega) (by omega) dL_trackAt_11 (fun H locs hP hD hS => ?_)
  have hP : va_P D cls [oO xo 5 [.ref lc, .ref lt, .ref bo, .ref yo, .ref no], oO lc 7 [.int m1, .ref ec, .int (nI nC)], aO D ec 10 (lsF cl nC), oO (cl c0) 0 [.int len, .ref ta, .ref (q 0), .ref (q 1)], aT D ta 4 (tkF t), oO (t j) 4 [.ref r1, .ref r2, .ref r3], oO r1 2 [.ref a1, .int (nI sz)], oO r2 2 [.ref a2, .int (nI sz)], oO r3 2 [.ref a3, .int (nI sz)], aI D a1 16 ft, aI D a2 16 fv, aI D a3 16 fe, aL D ou 1 (vp_updL wf 0 ((evT sz ft fv fe ix).toInt64))] H := hP
  have hD : va_D A [oO xo 5 [.ref lc, .ref lt, .ref bo, .ref yo, .ref no], oO lc 7 [.int m1, .ref ec, .int (nI nC)], aO D ec 10 (lsF cl nC), oO (cl c0) 0 [.int len, .ref ta, .ref (q 0), .ref (q 1)], aT D ta 4 (tkF t), oO (t j) 4 [.ref r1, .ref r2, .ref r3], oO r1 2 [.ref a1, .int (nI sz)], oO r2 2 [.ref a2, .int (nI sz)], oO r3 2 [.ref a3, .int (nI sz)], aI D a1 16 ft, aI D a2 16 fv, aI D a3 16 fe, aL D ou 1 (vp_updL wf 0 ((evT sz ft fv fe ix).toInt64))] := hD
  refine lv_goto (tgt := 27) hx hb dL_trackAt_12 (by decide) ?_
  refine lv_iconst (v := 0) hx hb dL_trackAt_27 (by decide) ?_
  refine Wi () hx hb hr hlk ?_ hP hD hS (Nat.le_of_ble_eq_true rfl) (by first | exact Nat.le_of_ble_eq_true rfl | exact Nat.le_of_eq (Nat.zero_add _)) dL_trackAt_28
  exact rfl
set_option maxHeartbeats 400000 in
set_option maxRecDepth 100000 in
theorem h_cue_1 (l : Launch) (D : va_G) (hns : l.stackTraces = false) {xo lc lt bo yo no : Nat} {ec nC : Nat} {m1 : Int32} {x ix w : Int32} {ou : Nat} (hz0 : Nat) (hnC : nC ≤ 6) (hxx : x < 0 ∨ nI nC ≤ x) : Met l yL_cue (wsW_ yL_cue cL_cue 6 (some .int) [(0, 12, 15, 21), (0, 12, 19, 13), (0, 12, 23, 15)]) ({ frames := 7, cells := 1, slots := 6, locals := 126 } : Room) (va_Pc [.ref xo, .int x, .int ix, .int w, .ref ou] (TW D [oO xo 5 [.ref lc, .ref lt, .ref bo, .ref yo, .ref no], oO lc 7 [.int m1, .ref ec, .int (nI nC)]] hz0)) (va_Qi (fun r (_ : Unit) => r = 1) (fun _ _ => True) (va_A [] hz0)) 1 6 (va_A [] hz0) := by
  refine va_MetW (hh := [(0, 12, 15, 21), (0, 12, 19, 13), (0, 12, 23, 15)]) (cc := cL_cue) (maxL := 6) (ret := (some .int)) (by decide +kernel) rfl ?_
  intro p e s m args below meth c s₁ B hml hv
  obtain ⟨rfl, hsz, hG, hP, hZ⟩ := hv
  subst hsz
  have hx := B.exec
  have hb := B.bytes
  have hr := B.returns
  have hts : ∀ w ∈ wsL_law, w.before _ s = true := fun w h => atoms_spec (ws := (wsW_ yL_cue cL_cue 6 (some .int) [(0, 12, 15, 21), (0, 12, 19, 13), (0, 12, 23, 15)])) B.pre w (List.mem_cons_of_mem _ (wsL2_in w h))
  have hk15 : (Cond.classLink RL 15 "java/lang/IllegalStateException").before _ s = true := atoms_spec (ws := (wsW_ yL_cue cL_cue 6 (some .int) [(0, 12, 15, 21), (0, 12, 19, 13), (0, 12, 23, 15)])) B.pre _ (List.mem_cons_of_mem _ List.mem_cons_self)
  have hown : s.vm.findClass RL = some m.cls := findClass_of_methodNamed B.named
  have hlk := B.notSynchronized
  have hC : CallFix p m c cL_cue 6 s _ wsL_law RL := ⟨hx, hb, hml, hown, hts⟩
  have hS : va_S (va_A [] s.heap.size) s.heap s.heap [] := va_S.rf
  have hl := lv_entry ([.ref xo, .int x, .int ix, .int w, .ref ou]) (n := 6) (Nat.le_of_ble_eq_true rfl)
  rw [lg_entry_eq]
  generalize (lg_sl ([.ref xo, .int x, .int ix, .int w, .ref ou]) ++ List.replicate (6 - (lg_sl ([.ref xo, .int x, .int ix, .int w, .ref ou])).length) Slot.unset).toArray = ls at hl ⊢
  have hl : lv_has ls 6 [(0, .ref xo), (1, .int x), (2, .int ix), (3, .int w), (4, .ref ou)] := hl
  refine lv_aload hx hb dL_cue_0 (lv_at hl 4 rfl) ?_
  refine lv_iconst (v := 0) hx hb dL_cue_2 (by decide) ?_
  refine lv_aload_n hx hb dL_cue_3 rfl (lv_at hl 0 rfl) ?_
  refine lv_iload_n hx hb dL_cue_4 rfl (lv_at hl 1 rfl) ?_
  refine lv_iload_n hx hb dL_cue_5 rfl (lv_at hl 2 rfl) ?_
  refine lv_iload_n hx hb dL_cue_6 rfl (lv_at hl 3 rfl) ?_
  have hP9 := hP.sub (ws' := [oO xo 5 [.ref lc, .ref lt, .ref bo, .ref yo, .ref no], oO lc 7 [.int m1, .ref ec, .int (nI nC)]]) [0, 1] rfl
  refine vx_calli (A0 := va_A [] s.heap.size) (rX (rest := [.int 0, .ref ou]) (qc := (RX5, TX5, 5)) [.int x, .int ix, .int w] 3 hC (t_cue_1 l D hns (xo := xo) (lc := lc) (lt := lt) (bo := bo) (yo := yo) (no := no) (ec := ec) (nC := nC) (m1 := m1) (x := x) (ix := ix) (w := w) (hz0 := s.heap.size) (hnC) (hxx)) rfl (hP 0 _ rfl) (gV mM_L_41 mI_X5_cue mS_X5_cue mN_X5 mC_X5_cue) (by decide +kernel) rfl rfl ⟨Nat.le_of_ble_eq_true rfl, Nat.le_of_ble_eq_true rfl⟩ hG hP9 hZ rfl hl.1 rfl (Nat.le_of_ble_eq_true rfl) dL_cue_7 ⟨Nat.le_of_ble_eq_true rfl, Nat.le_of_ble_eq_true rfl⟩) hS (fun q _ h => h) (fun q h => h) (fun q _ h => h) (fun E ce q9 u9 t H1 locs1 ht hvm hp9 hB hz hk hS1 hce hcv hcl => ?_) (fun r u t H1 locs1 ht hvm hp9 _ _ _ _ => hp9.elim)
  obtain rfl : E = "java/lang/IndexOutOfBoundsException" := hB
  have htb := vx_table (x := yL_cue) B (hts _ mW_L_cue)
  refine vx_catch (own := RL) (name := "java/lang/IndexOutOfBoundsException") (pc := 7) (rest := [.int 0, .ref ou]) hown [] ⟨0, 12, 15, 21⟩ [⟨0, 12, 19, 13⟩, ⟨0, 12, 23, 15⟩] (by rw [htb]; rfl) (fun z hz9 => absurd hz9 List.not_mem_nil) rfl (by decide) (hts _ mK_L_21) (va_Nw.use rfl (gkC hG 4 rfl)) hce hcv hcl ?_
  refine lv_astore (lv' := [(5, .ref q9), (0, .ref xo), (1, .int x), (2, .int ix), (3, .int w), (4, .ref ou)]) hx hb dL_cue_15 hl (by decide) rfl (fun ls hl => ?_)
  refine lv_iconst (v := 1) hx hb dL_cue_17 (by decide) ?_
  exact W.iret (v := 1) hx hb hr (fun t ht _ => ⟨⟨_, (), rfl, rfl, trivial⟩, hS1.F ht⟩) hS1.2.2 dL_cue_18 hlk
set_option maxHeartbeats 400000 in
set_option maxRecDepth 100000 in
theorem h_cue_2 (l : Launch) (D : va_G) (hns : l.stackTraces = false) {xo lc lt bo yo no : Nat} {ec nC c0 : Nat} {m1 : Int32} {cl : Nat → Nat} {ta : Nat} {len : Int32} {q t : Nat → Nat} {ix w : Int32} {ou : Nat} (hz0 : Nat) (hnC : nC ≤ 6) (hc : c0 < nC) (h : ¬ ((0 ≤ ix ∧ ix ≤ len) ∧ (0 ≤ w ∧ w ≤ 99))) : Met l yL_cue (wsW_ yL_cue cL_cue 6 (some .int) [(0, 12, 15, 21), (0, 12, 19, 13), (0, 12, 23, 15)]) ({ frames := 7, cells := 1, slots := 6, locals := 126 } : Room) (va_Pc [.ref xo, .int (nI c0), .int ix, .int w, .ref ou] (TW D [oO xo 5 [.ref lc, .ref lt, .ref bo, .ref yo, .ref no], oO lc 7 [.int m1, .ref ec, .int (nI nC)], aO D ec 10 (lsF cl nC), oO (cl c0) 0 [.int len, .ref ta, .ref (q 0), .ref (q 1)]] hz0)) (va_Qi (fun r (_ : Unit) => r = 2) (fun _ _ => True) (va_A [] hz0)) 1 6 (va_A [] hz0) := by
  refine va_MetW (hh := [(0, 12, 15, 21), (0, 12, 19, 13), (0, 12, 23, 15)]) (cc := cL_cue) (maxL := 6) (ret := (some .int)) (by decide +kernel) rfl ?_
  intro p e s m args below meth c s₁ B hml hv
  obtain ⟨rfl, hsz, hG, hP, hZ⟩ := hv
  subst hsz
  have hx := B.exec
  have hb := B.bytes
  have hr := B.returns
  have hts : ∀ w ∈ wsL_law, w.before _ s = true := fun w h => atoms_spec (ws := (wsW_ yL_cue cL_cue 6 (some .int) [(0, 12, 15, 21), (0, 12, 19, 13), (0, 12, 23, 15)])) B.pre w (List.mem_cons_of_mem _ (wsL2_in w h))
  have hk15 : (Cond.classLink RL 15 "java/lang/IllegalStateException").before _ s = true := atoms_spec (ws := (wsW_ yL_cue cL_cue 6 (some .int) [(0, 12, 15, 21), (0, 12, 19, 13), (0, 12, 23, 15)])) B.pre _ (List.mem_cons_of_mem _ List.mem_cons_self)
  have hown : s.vm.findClass RL = some m.cls := findClass_of_methodNamed B.named
  have hlk := B.notSynchronized
  have hC : CallFix p m c cL_cue 6 s _ wsL_law RL := ⟨hx, hb, hml, hown, hts⟩
  have hS : va_S (va_A [] s.heap.size) s.heap s.heap [] := va_S.rf
  have hl := lv_entry ([.ref xo, .int (nI c0), .int ix, .int w, .ref ou]) (n := 6) (Nat.le_of_ble_eq_true rfl)
  rw [lg_entry_eq]
  generalize (lg_sl ([.ref xo, .int (nI c0), .int ix, .int w, .ref ou]) ++ List.replicate (6 - (lg_sl ([.ref xo, .int (nI c0), .int ix, .int w, .ref ou])).length) Slot.unset).toArray = ls at hl ⊢
  have hl : lv_has ls 6 [(0, .ref xo), (1, .int (nI c0)), (2, .int ix), (3, .int w), (4, .ref ou)] := hl
  refine lv_aload hx hb dL_cue_0 (lv_at hl 4 rfl) ?_
  refine lv_iconst (v := 0) hx hb dL_cue_2 (by decide) ?_
  refine lv_aload_n hx hb dL_cue_3 rfl (lv_at hl 0 rfl) ?_
  refine lv_iload_n hx hb dL_cue_4 rfl (lv_at hl 1 rfl) ?_
  refine lv_iload_n hx hb dL_cue_5 rfl (lv_at hl 2 rfl) ?_
  refine lv_iload_n hx hb dL_cue_6 rfl (lv_at hl 3 rfl) ?_
  have hP9 := hP.sub (ws' := [oO xo 5 [.ref lc, .ref lt, .ref bo, .ref yo, .ref no], oO lc 7 [.int m1, .ref ec, .int (nI nC)], aO D ec 10 (lsF cl nC), oO (cl c0) 0 [.int len, .ref ta, .ref (q 0), .ref (q 1)]]) [0, 1, 2, 3] rfl
  refine vx_calli (A0 := va_A [] s.heap.size) (rX (rest := [.int 0, .ref ou]) (qc := (RX5, TX5, 5)) [.int (nI c0), .int ix, .int w] 3 hC (t_cue_2 l D hns (xo := xo) (lc := lc) (lt := lt) (bo := bo) (yo := yo) (no := no) (ec := ec) (nC := nC) (c0 := c0) (m1 := m1) (cl := cl) (ta := ta) (len := len) (q := q) (t := t) (ix := ix) (w := w) (hz0 := s.heap.size) (hnC) (hc) (h)) rfl (hP 0 _ rfl) (gV mM_L_41 mI_X5_cue mS_X5_cue mN_X5 mC_X5_cue) (by decide +kernel) rfl rfl ⟨Nat.le_of_ble_eq_true rfl, Nat.le_of_ble_eq_true rfl⟩ hG hP9 hZ rfl hl.1 rfl (Nat.le_of_ble_eq_true rfl) dL_cue_7 ⟨Nat.le_of_ble_eq_true rfl, Nat.le_of_ble_eq_true rfl⟩) hS (fun q _ h => h) (fun q h => h) (fun q _ h => h) (fun E ce q9 u9 t H1 locs1 ht hvm hp9 hB hz hk hS1 hce hcv hcl => ?_) (fun r u t H1 locs1 ht hvm hp9 _ _ _ _ => hp9.elim)
  obtain rfl : E = "java/lang/IllegalArgumentException" := hB
  have htb := vx_table (x := yL_cue) B (hts _ mW_L_cue)
  refine vx_catch (own := RL) (name := "java/lang/IllegalArgumentException") (pc := 7) (rest := [.int 0, .ref ou]) hown [⟨0, 12, 15, 21⟩] ⟨0, 12, 19, 13⟩ [⟨0, 12, 23, 15⟩] (by rw [htb]; rfl) (fun z hz9 => by
    simp only [List.mem_cons, List.not_mem_nil, or_false] at hz9
    rcases hz9 with rfl
    · exact Or.inr ⟨by decide, _, hts _ mK_L_21, gkN hG 1 rfl⟩) rfl (by decide) (hts _ mK_L_13) (va_Nw.use rfl (gkC hG 2 rfl)) hce hcv hcl ?_
  refine lv_astore (lv' := [(5, .ref q9), (0, .ref xo), (1, .int (nI c0)), (2, .int ix), (3, .int w), (4, .ref ou)]) hx hb dL_cue_19 hl (by decide) rfl (fun ls hl => ?_)
  refine lv_iconst (v := 2) hx hb dL_cue_21 (by decide) ?_
  exact W.iret (v := 2) hx hb hr (fun t ht _ => ⟨⟨_, (), rfl, rfl, trivial⟩, hS1.F ht⟩) hS1.2.2 dL_cue_22 hlk
set_option maxHeartbeats 400000 in
set_option maxRecDepth 100000 in
theorem h_cue_3 (l : Launch) (D : va_G) (hns : l.stackTraces = false) {xo lc lt bo yo no : Nat} {ec nC c0 : Nat} {m1 : Int32} {cl : Nat → Nat} {ta nc : Nat} {len : Int32} {q b t : Nat → Nat} {ct cn : Nat → Int32} {ix w : Int32} {ou : Nat} (hz0 : Nat) (hnC : nC ≤ 6) (hc : c0 < nC) (h : (0 ≤ ix ∧ ix ≤ len) ∧ (0 ≤ w ∧ w ≤ 99)) (hn : nc = 8) : Met l yL_cue (wsW_ yL_cue cL_cue 6 (some .int) [(0, 12, 15, 21), (0, 12, 19, 13), (0, 12, 23, 15)]) ({ frames := 7, cells := 1, slots := 6, locals := 126 } : Room) (va_Pc [.ref xo, .int (nI c0), .int ix, .int w, .ref ou] (TW D [oO xo 5 [.ref lc, .ref lt, .ref bo, .ref yo, .ref no], oO lc 7 [.int m1, .ref ec, .int (nI nC)], aO D ec 10 (lsF cl nC), oO (cl c0) 0 [.int len, .ref ta, .ref (q 0), .ref (q 1)], aT D ta 4 (tkF t), oO (q 0) 2 [.ref (b 0), .int (nI nc)], oO (q 1) 2 [.ref (b 1), .int (nI nc)], aI D (b 0) 8 ct, aI D (b 1) 8 cn] hz0)) (va_Qi (fun r (_ : Unit) => r = 3) (fun _ _ => True) (va_A [] hz0)) 1 6 (va_A [] hz0) := by
  refine va_MetW (hh := [(0, 12, 15, 21), (0, 12, 19, 13), (0, 12, 23, 15)]) (cc := cL_cue) (maxL := 6) (ret := (some .int)) (by decide +kernel) rfl ?_
  intro p e s m args below meth c s₁ B hml hv
  obtain ⟨rfl, hsz, hG, hP, hZ⟩ := hv
  subst hsz
  have hx := B.exec
  have hb := B.bytes
  have hr := B.returns
  have hts : ∀ w ∈ wsL_law, w.before _ s = true := fun w h => atoms_spec (ws := (wsW_ yL_cue cL_cue 6 (some .int) [(0, 12, 15, 21), (0, 12, 19, 13), (0, 12, 23, 15)])) B.pre w (List.mem_cons_of_mem _ (wsL2_in w h))
  have hk15 : (Cond.classLink RL 15 "java/lang/IllegalStateException").before _ s = true := atoms_spec (ws := (wsW_ yL_cue cL_cue 6 (some .int) [(0, 12, 15, 21), (0, 12, 19, 13), (0, 12, 23, 15)])) B.pre _ (List.mem_cons_of_mem _ List.mem_cons_self)
  have hown : s.vm.findClass RL = some m.cls := findClass_of_methodNamed B.named
  have hlk := B.notSynchronized
  have hC : CallFix p m c cL_cue 6 s _ wsL_law RL := ⟨hx, hb, hml, hown, hts⟩
  have hS : va_S (va_A [] s.heap.size) s.heap s.heap [] := va_S.rf
  have hl := lv_entry ([.ref xo, .int (nI c0), .int ix, .int w, .ref ou]) (n := 6) (Nat.le_of_ble_eq_true rfl)
  rw [lg_entry_eq]
  generalize (lg_sl ([.ref xo, .int (nI c0), .int ix, .int w, .ref ou]) ++ List.replicate (6 - (lg_sl ([.ref xo, .int (nI c0), .int ix, .int w, .ref ou])).length) Slot.unset).toArray = ls at hl ⊢
  have hl : lv_has ls 6 [(0, .ref xo), (1, .int (nI c0)), (2, .int ix), (3, .int w), (4, .ref ou)] := hl
  refine lv_aload hx hb dL_cue_0 (lv_at hl 4 rfl) ?_
  refine lv_iconst (v := 0) hx hb dL_cue_2 (by decide) ?_
  refine lv_aload_n hx hb dL_cue_3 rfl (lv_at hl 0 rfl) ?_
  refine lv_iload_n hx hb dL_cue_4 rfl (lv_at hl 1 rfl) ?_
  refine lv_iload_n hx hb dL_cue_5 rfl (lv_at hl 2 rfl) ?_
  refine lv_iload_n hx hb dL_cue_6 rfl (lv_at hl 3 rfl) ?_
  have hP9 := hP.sub (ws' := [oO xo 5 [.ref lc, .ref lt, .ref bo, .ref yo, .ref no], oO lc 7 [.int m1, .ref ec, .int (nI nC)], aO D ec 10 (lsF cl nC), oO (cl c0) 0 [.int len, .ref ta, .ref (q 0), .ref (q 1)], aT D ta 4 (tkF t), oO (q 0) 2 [.ref (b 0), .int (nI nc)], oO (q 1) 2 [.ref (b 1), .int (nI nc)], aI D (b 0) 8 ct, aI D (b 1) 8 cn]) [0, 1, 2, 3, 4, 5, 6, 7, 8] rfl
  refine vx_calli (A0 := va_A [] s.heap.size) (rX (rest := [.int 0, .ref ou]) (qc := (RX5, TX5, 5)) [.int (nI c0), .int ix, .int w] 3 hC (t_cue_3 l D hns (xo := xo) (lc := lc) (lt := lt) (bo := bo) (yo := yo) (no := no) (ec := ec) (nC := nC) (c0 := c0) (m1 := m1) (cl := cl) (ta := ta) (nc := nc) (len := len) (q := q) (b := b) (t := t) (ct := ct) (cn := cn) (ix := ix) (w := w) (hz0 := s.heap.size) (hnC) (hc) (h) (hn)) rfl (hP 0 _ rfl) (gV mM_L_41 mI_X5_cue mS_X5_cue mN_X5 mC_X5_cue) (by decide +kernel) rfl rfl ⟨Nat.le_of_ble_eq_true rfl, Nat.le_of_ble_eq_true rfl⟩ hG hP9 hZ rfl hl.1 rfl (Nat.le_of_ble_eq_true rfl) dL_cue_7 ⟨Nat.le_of_ble_eq_true rfl, Nat.le_of_ble_eq_true rfl⟩) hS (fun q _ h => h) (fun q h => h) (fun q _ h => h) (fun E ce q9 u9 t H1 locs1 ht hvm hp9 hB hz hk hS1 hce hcv hcl => ?_) (fun r u t H1 locs1 ht hvm hp9 _ _ _ _ => hp9.elim)
  obtain rfl : E = "java/lang/IllegalStateException" := hB
  have htb := vx_table (x := yL_cue) B (hts _ mW_L_cue)
  refine vx_catch (own := RL) (name := "java/lang/IllegalStateException") (pc := 7) (rest := [.int 0, .ref ou]) hown [⟨0, 12, 15, 21⟩, ⟨0, 12, 19, 13⟩] ⟨0, 12, 23, 15⟩ [] (by rw [htb]; rfl) (fun z hz9 => by
    simp only [List.mem_cons, List.not_mem_nil, or_false] at hz9
    rcases hz9 with rfl | rfl
    · exact Or.inr ⟨by decide, _, hts _ mK_L_21, gkN hG 3 rfl⟩
    · exact Or.inr ⟨by decide, _, hts _ mK_L_13, gkN hG 2 rfl⟩) rfl (by decide) (hk15) (va_Nw.use rfl (gkC hG 3 rfl)) hce hcv hcl ?_
  refine lv_astore (lv' := [(5, .ref q9), (0, .ref xo), (1, .int (nI c0)), (2, .int ix), (3, .int w), (4, .ref ou)]) hx hb dL_cue_23 hl (by decide) rfl (fun ls hl => ?_)
  refine lv_iconst (v := 3) hx hb dL_cue_25 (by decide) ?_
  exact W.iret (v := 3) hx hb hr (fun t ht _ => ⟨⟨_, (), rfl, rfl, trivial⟩, hS1.F ht⟩) hS1.2.2 dL_cue_26 hlk
set_option maxHeartbeats 400000 in
set_option maxRecDepth 100000 in
theorem l_cue (l : Launch) (D : va_G) {xo lc lt bo yo no : Nat} {ec nC c0 : Nat} {m1 : Int32} {cl : Nat → Nat} {ta nc : Nat} {len : Int32} {q b t : Nat → Nat} {ct cn : Nat → Int32} {ix w : Int32} {ou : Nat} {wf : Nat → Int64} (hz0 : Nat) (hnC : nC ≤ 6) (hc : c0 < nC) (h : (0 ≤ ix ∧ ix ≤ len) ∧ (0 ≤ w ∧ w ≤ 99)) (hn : nc < 8) : Met l yL_cue (wsW_ yL_cue cL_cue 6 (some .int) [(0, 12, 15, 21), (0, 12, 19, 13), (0, 12, 23, 15)]) ({ frames := 7, cells := 0, slots := 0, locals := 126 } : Room) (va_Pc [.ref xo, .int (nI c0), .int ix, .int w, .ref ou] (SW D [oO xo 5 [.ref lc, .ref lt, .ref bo, .ref yo, .ref no], oO lc 7 [.int m1, .ref ec, .int (nI nC)], aO D ec 10 (lsF cl nC), oO (cl c0) 0 [.int len, .ref ta, .ref (q 0), .ref (q 1)], aT D ta 4 (tkF t), oO (q 0) 2 [.ref (b 0), .int (nI nc)], oO (q 1) 2 [.ref (b 1), .int (nI nc)], aI D (b 0) 8 ct, aI D (b 1) 8 cn, aL D ou 1 wf] hz0)) (va_Qi (fun r _ => r = 0) (AT D (va_A [oO xo 5 [.ref lc, .ref lt, .ref bo, .ref yo, .ref no], oO lc 7 [.int m1, .ref ec, .int (nI nC)], aO D ec 10 (lsF cl nC), oO (cl c0) 0 [.int len, .ref ta, .ref (q 0), .ref (q 1)], aT D ta 4 (tkF t), oO (q 0) 2 [.ref (b 0), .int (nI nc)], oO (q 1) 2 [.ref (b 1), .int (nI nc)], aI D (b 0) 8 ct, aI D (b 1) 8 cn, aL D ou 1 wf] hz0) (fun _ : Unit => [oO xo 5 [.ref lc, .ref lt, .ref bo, .ref yo, .ref no], oO lc 7 [.int m1, .ref ec, .int (nI nC)], aO D ec 10 (lsF cl nC), oO (cl c0) 0 [.int len, .ref ta, .ref (q 0), .ref (q 1)], aT D ta 4 (tkF t), oO (q 0) 2 [.ref (b 0), .int (nI (nc + 1))], oO (q 1) 2 [.ref (b 1), .int (nI (nc + 1))], aI D (b 0) 8 (insF ct (cntLe ct ix nc) nc ix), aI D (b 1) 8 (insF cn (cntLe ct ix nc) nc w), aL D ou 1 (vp_updL wf 0 (nI (nc + 1)).toInt64)])) (va_A [oO xo 5 [.ref lc, .ref lt, .ref bo, .ref yo, .ref no], oO lc 7 [.int m1, .ref ec, .int (nI nC)], aO D ec 10 (lsF cl nC), oO (cl c0) 0 [.int len, .ref ta, .ref (q 0), .ref (q 1)], aT D ta 4 (tkF t), oO (q 0) 2 [.ref (b 0), .int (nI nc)], oO (q 1) 2 [.ref (b 1), .int (nI nc)], aI D (b 0) 8 ct, aI D (b 1) 8 cn, aL D ou 1 wf] hz0)) 0 0 (va_A [oO xo 5 [.ref lc, .ref lt, .ref bo, .ref yo, .ref no], oO lc 7 [.int m1, .ref ec, .int (nI nC)], aO D ec 10 (lsF cl nC), oO (cl c0) 0 [.int len, .ref ta, .ref (q 0), .ref (q 1)], aT D ta 4 (tkF t), oO (q 0) 2 [.ref (b 0), .int (nI nc)], oO (q 1) 2 [.ref (b 1), .int (nI nc)], aI D (b 0) 8 ct, aI D (b 1) 8 cn, aL D ou 1 wf] hz0) := by
  refine va_MetW (hh := [(0, 12, 15, 21), (0, 12, 19, 13), (0, 12, 23, 15)]) (cc := cL_cue) (maxL := 6) (ret := (some .int)) (by decide +kernel) rfl ?_
  intro p e s m args below meth c s₁ B hml hv
  obtain ⟨rfl, hsz, hG, hP, hD0⟩ := hv
  have hx := B.exec
  have hb := B.bytes
  have hr := B.returns
  have hts : ∀ w ∈ wsL_law, w.before _ s = true := fun w h => atoms_spec (ws := (wsW_ yL_cue cL_cue 6 (some .int) [(0, 12, 15, 21), (0, 12, 19, 13), (0, 12, 23, 15)])) B.pre w (List.mem_cons_of_mem _ (wsL2_in w h))
  have hown : s.vm.findClass RL = some m.cls := findClass_of_methodNamed B.named
  have hlk := B.notSynchronized
  have hC : CallFix p m c cL_cue 6 s _ wsL_law RL := ⟨hx, hb, hml, hown, hts⟩
  subst hsz
  have hD := hD0.self (sz := s.heap.size)
  generalize hAe : va_A [oO xo 5 [.ref lc, .ref lt, .ref bo, .ref yo, .ref no], oO lc 7 [.int m1, .ref ec, .int (nI nC)], aO D ec 10 (lsF cl nC), oO (cl c0) 0 [.int len, .ref ta, .ref (q 0), .ref (q 1)], aT D ta 4 (tkF t), oO (q 0) 2 [.ref (b 0), .int (nI nc)], oO (q 1) 2 [.ref (b 1), .int (nI nc)], aI D (b 0) 8 ct, aI D (b 1) 8 cn, aL D ou 1 wf] s.heap.size = A at hD ⊢
  have hA : ∀ q : Nat, s.heap.size ≤ q → A q := fun q h => by rw [← hAe]; exact Or.inr h
  have hS : va_S A s.heap s.heap [] := va_S.rf
  obtain ⟨H, hHe⟩ : ∃ H, H = s.heap := ⟨_, rfl⟩
  rw [← hHe] at hP
  have hS : va_S A s.heap H [] := by rw [hHe]; exact hS
  have hl := lv_entry ([.ref xo, .int (nI c0), .int ix, .int w, .ref ou]) (n := 6) (Nat.le_of_ble_eq_true rfl)
  rw [lg_entry_eq]
  generalize (lg_sl ([.ref xo, .int (nI c0), .int ix, .int w, .ref ou]) ++ List.replicate (6 - (lg_sl ([.ref xo, .int (nI c0), .int ix, .int w, .ref ou])).length) Slot.unset).toArray = ls at hl ⊢
  have hl : lv_has ls 6 [(0, .ref xo), (1, .int (nI c0)), (2, .int ix), (3, .int w), (4, .ref ou)] := hl
  rw [← hHe]
  refine lv_aload hx hb dL_cue_0 (lv_at hl 4 rfl) ?_
  refine lv_iconst (v := 0) hx hb dL_cue_2 (by decide) ?_
  refine lv_aload_n hx hb dL_cue_3 rfl (lv_at hl 0 rfl) ?_
  refine lv_iload_n hx hb dL_cue_4 rfl (lv_at hl 1 rfl) ?_
  refine lv_iload_n hx hb dL_cue_5 rfl (lv_at hl 2 rfl) ?_
  refine lv_iload_n hx hb dL_cue_6 rfl (lv_at hl 3 rfl) ?_
  have hP9 := hP.sub (ws' := [oO xo 5 [.ref lc, .ref lt, .ref bo, .ref yo, .ref no], oO lc 7 [.int m1, .ref ec, .int (nI nC)], aO D ec 10 (lsF cl nC), oO (cl c0) 0 [.int len, .ref ta, .ref (q 0), .ref (q 1)], aT D ta 4 (tkF t), oO (q 0) 2 [.ref (b 0), .int (nI nc)], oO (q 1) 2 [.ref (b 1), .int (nI nc)], aI D (b 0) 8 ct, aI D (b 1) 8 cn]) [0, 1, 2, 3, 4, 5, 6, 7, 8] rfl
  have hD9 := (hD.sub (ws' := [oO xo 5 [.ref lc, .ref lt, .ref bo, .ref yo, .ref no], oO lc 7 [.int m1, .ref ec, .int (nI nC)], aO D ec 10 (lsF cl nC), oO (cl c0) 0 [.int len, .ref ta, .ref (q 0), .ref (q 1)], aT D ta 4 (tkF t), oO (q 0) 2 [.ref (b 0), .int (nI nc)], oO (q 1) 2 [.ref (b 1), .int (nI nc)], aI D (b 0) 8 ct, aI D (b 1) 8 cn]) [0, 1, 2, 3, 4, 5, 6, 7, 8] (by decide) rfl).weaken (B := fun _ => True) (fun _ _ _ _ => trivial)
  refine ki (wr := [aL D ou 1 wf]) (rV (rest := [.int 0, .ref ou]) (qc := (RX5, TX5, 5)) [.int (nI c0), .int ix, .int w] 3 0 0 hC (c_cue l D (xo := xo) (lc := lc) (lt := lt) (bo := bo) (yo := yo) (no := no) (ec := ec) (nC := nC) (c0 := c0) (m1 := m1) (cl := cl) (ta := ta) (nc := nc) (len := len) (q := q) (b := b) (t := t) (ct := ct) (cn := cn) (ix := ix) (w := w) (hz0 := H.size) (hnC) (hc) (h) (hn)) rfl (hP 0 _ rfl) (gV mM_L_41 mI_X5_cue mS_X5_cue mN_X5 mC_X5_cue) (by decide +kernel) rfl rfl ⟨Nat.le_of_ble_eq_true rfl, Nat.le_of_ble_eq_true rfl⟩ hG hP9 hD9 rfl hl.1 rfl (Nat.le_of_ble_eq_true rfl) dL_cue_7 ⟨Nat.le_of_ble_eq_true rfl, Nat.le_of_ble_eq_true rfl⟩) hP hD hS hA [0, 1, 2, 3, 4, 5, 6, 7, 8] [9] rfl rfl (by decide) (by decide) (fun r7 u7 H locs h7 hP hD hS hz hfr => ?_)
  have hP : va_P D cls [aL D ou 1 wf, oO xo 5 [.ref lc, .ref lt, .ref bo, .ref yo, .ref no], oO lc 7 [.int m1, .ref ec, .int (nI nC)], aO D ec 10 (lsF cl nC), oO (cl c0) 0 [.int len, .ref ta, .ref (q 0), .ref (q 1)], aT D ta 4 (tkF t), oO (q 0) 2 [.ref (b 0), .int (nI (nc + 1))], oO (q 1) 2 [.ref (b 1), .int (nI (nc + 1))], aI D (b 0) 8 (insF ct (cntLe ct ix nc) nc ix), aI D (b 1) 8 (insF cn (cntLe ct ix nc) nc w)] H := hP
  have hD : va_D A [aL D ou 1 wf, oO xo 5 [.ref lc, .ref lt, .ref bo, .ref yo, .ref no], oO lc 7 [.int m1, .ref ec, .int (nI nC)], aO D ec 10 (lsF cl nC), oO (cl c0) 0 [.int len, .ref ta, .ref (q 0), .ref (q 1)], aT D ta 4 (tkF t), oO (q 0) 2 [.ref (b 0), .int (nI (nc + 1))], oO (q 1) 2 [.ref (b 1), .int (nI (nc + 1))], aI D (b 0) 8 (insF ct (cntLe ct ix nc) nc ix), aI D (b 1) 8 (insF cn (cntLe ct ix nc) nc w)] := hD
  obtain rfl : r7 = (nI (nc + 1)) := h7
  refine lv_i2l hx hb dL_cue_10 rfl ?_
  refine lst (n := 1) (j := 0) hx hb hG hP hD hS 0 rfl (by omega) (by omega) dL_cue_11 (fun H locs hP hD hS => ?_)
  have hP : va_P D cls [aL D ou 1 (vp_updL wf 0 ((nI (nc + 1)).toInt64)), oO xo 5 [.ref lc, .ref lt, .ref bo, .ref yo, .ref no], oO lc 7 [.int m1, .ref ec, .int (nI nC)], aO D ec 10 (lsF cl nC), oO (cl c0) 0 [.int len, .ref ta, .ref (q 0), .ref (q 1)], aT D ta 4 (tkF t), oO (q 0) 2 [.ref (b 0), .int (nI (nc + 1))], oO (q 1) 2 [.ref (b 1), .int (nI (nc + 1))], aI D (b 0) 8 (insF ct (cntLe ct ix nc) nc ix), aI D (b 1) 8 (insF cn (cntLe ct ix nc) nc w)] H := hP
  have hD : va_D A [aL D ou 1 (vp_updL wf 0 ((nI (nc + 1)).toInt64)), oO xo 5 [.ref lc, .ref lt, .ref bo, .ref yo, .ref no], oO lc 7 [.int m1, .ref ec, .int (nI nC)], aO D ec 10 (lsF cl nC), oO (cl c0) 0 [.int len, .ref ta, .ref (q 0), .ref (q 1)], aT D ta 4 (tkF t), oO (q 0) 2 [.ref (b 0), .int (nI (nc + 1))], oO (q 1) 2 [.ref (b 1), .int (nI (nc + 1))], aI D (b 0) 8 (insF ct (cntLe ct ix nc) nc ix), aI D (b 1) 8 (insF cn (cntLe ct ix nc) nc w)] := hD
  refine lv_goto (tgt := 27) hx hb dL_cue_12 (by decide) ?_
  refine lv_iconst (v := 0) hx hb dL_cue_27 (by decide) ?_
  refine Wi () hx hb hr hlk ?_ (hP.sub [1, 2, 3, 4, 5, 6, 7, 8, 9, 0] rfl) (hD.sub [1, 2, 3, 4, 5, 6, 7, 8, 9, 0] (by decide) rfl) hS (Nat.le_of_ble_eq_true rfl) (by first | exact Nat.le_of_ble_eq_true rfl | exact Nat.le_of_eq (Nat.zero_add _)) dL_cue_28
  exact rfl
set_option maxHeartbeats 400000 in
set_option maxRecDepth 100000 in
theorem h_cueOf_1 (l : Launch) (D : va_G) (hns : l.stackTraces = false) {xo lc lt bo yo no : Nat} {ec nC : Nat} {m1 : Int32} {x ix w : Int32} {ou : Nat} (hz0 : Nat) (hnC : nC ≤ 6) (hxx : x < 0 ∨ nI nC ≤ x) : Met l yL_cueOf (wsW_ yL_cueOf cL_cueOf 6 (some .int) [(0, 12, 15, 21)]) ({ frames := 7, cells := 1, slots := 6, locals := 126 } : Room) (va_Pc [.ref xo, .int x, .int ix, .int w, .ref ou] (TW D [oO xo 5 [.ref lc, .ref lt, .ref bo, .ref yo, .ref no], oO lc 7 [.int m1, .ref ec, .int (nI nC)]] hz0)) (va_Qi (fun r (_ : Unit) => r = 1) (fun _ _ => True) (va_A [] hz0)) 1 6 (va_A [] hz0) := by
  refine va_MetW (hh := [(0, 12, 15, 21)]) (cc := cL_cueOf) (maxL := 6) (ret := (some .int)) (by decide +kernel) rfl ?_
  intro p e s m args below meth c s₁ B hml hv
  obtain ⟨rfl, hsz, hG, hP, hZ⟩ := hv
  subst hsz
  have hx := B.exec
  have hb := B.bytes
  have hr := B.returns
  have hts : ∀ w ∈ wsL_law, w.before _ s = true := fun w h => atoms_spec (ws := (wsW_ yL_cueOf cL_cueOf 6 (some .int) [(0, 12, 15, 21)])) B.pre w (List.mem_cons_of_mem _ (wsL2_in w h))
  have hk15 : (Cond.classLink RL 15 "java/lang/IllegalStateException").before _ s = true := atoms_spec (ws := (wsW_ yL_cueOf cL_cueOf 6 (some .int) [(0, 12, 15, 21)])) B.pre _ (List.mem_cons_of_mem _ List.mem_cons_self)
  have hown : s.vm.findClass RL = some m.cls := findClass_of_methodNamed B.named
  have hlk := B.notSynchronized
  have hC : CallFix p m c cL_cueOf 6 s _ wsL_law RL := ⟨hx, hb, hml, hown, hts⟩
  have hS : va_S (va_A [] s.heap.size) s.heap s.heap [] := va_S.rf
  have hl := lv_entry ([.ref xo, .int x, .int ix, .int w, .ref ou]) (n := 6) (Nat.le_of_ble_eq_true rfl)
  rw [lg_entry_eq]
  generalize (lg_sl ([.ref xo, .int x, .int ix, .int w, .ref ou]) ++ List.replicate (6 - (lg_sl ([.ref xo, .int x, .int ix, .int w, .ref ou])).length) Slot.unset).toArray = ls at hl ⊢
  have hl : lv_has ls 6 [(0, .ref xo), (1, .int x), (2, .int ix), (3, .int w), (4, .ref ou)] := hl
  refine lv_aload hx hb dL_cueOf_0 (lv_at hl 4 rfl) ?_
  refine lv_iconst (v := 0) hx hb dL_cueOf_2 (by decide) ?_
  refine lv_aload_n hx hb dL_cueOf_3 rfl (lv_at hl 0 rfl) ?_
  refine lv_iload_n hx hb dL_cueOf_4 rfl (lv_at hl 1 rfl) ?_
  refine lv_iload_n hx hb dL_cueOf_5 rfl (lv_at hl 2 rfl) ?_
  refine lv_iload_n hx hb dL_cueOf_6 rfl (lv_at hl 3 rfl) ?_
  have hP9 := hP.sub (ws' := [oO xo 5 [.ref lc, .ref lt, .ref bo, .ref yo, .ref no], oO lc 7 [.int m1, .ref ec, .int (nI nC)]]) [0, 1] rfl
  refine vx_calli (A0 := va_A [] s.heap.size) (rX (rest := [.int 0, .ref ou]) (qc := (RX5, TX5, 5)) [.int x, .int ix, .int w] 3 hC (t_cueOf_1 l D hns (xo := xo) (lc := lc) (lt := lt) (bo := bo) (yo := yo) (no := no) (ec := ec) (nC := nC) (m1 := m1) (x := x) (ix := ix) (w := w) (hz0 := s.heap.size) (hnC) (hxx)) rfl (hP 0 _ rfl) (gV mM_L_44 mI_X5_cueOf mS_X5_cueOf mN_X5 mC_X5_cueOf) (by decide +kernel) rfl rfl ⟨Nat.le_of_ble_eq_true rfl, Nat.le_of_ble_eq_true rfl⟩ hG hP9 hZ rfl hl.1 rfl (Nat.le_of_ble_eq_true rfl) dL_cueOf_7 ⟨Nat.le_of_ble_eq_true rfl, Nat.le_of_ble_eq_true rfl⟩) hS (fun q _ h => h) (fun q h => h) (fun q _ h => h) (fun E ce q9 u9 t H1 locs1 ht hvm hp9 hB hz hk hS1 hce hcv hcl => ?_) (fun r u t H1 locs1 ht hvm hp9 _ _ _ _ => hp9.elim)
  obtain rfl : E = "java/lang/IndexOutOfBoundsException" := hB
  have htb := vx_table (x := yL_cueOf) B (hts _ mW_L_cueOf)
  refine vx_catch (own := RL) (name := "java/lang/IndexOutOfBoundsException") (pc := 7) (rest := [.int 0, .ref ou]) hown [] ⟨0, 12, 15, 21⟩ [] (by rw [htb]; rfl) (fun z hz9 => absurd hz9 List.not_mem_nil) rfl (by decide) (hts _ mK_L_21) (va_Nw.use rfl (gkC hG 4 rfl)) hce hcv hcl ?_
  refine lv_astore (lv' := [(5, .ref q9), (0, .ref xo), (1, .int x), (2, .int ix), (3, .int w), (4, .ref ou)]) hx hb dL_cueOf_15 hl (by decide) rfl (fun ls hl => ?_)
  refine lv_iconst (v := 1) hx hb dL_cueOf_17 (by decide) ?_
  exact W.iret (v := 1) hx hb hr (fun t ht _ => ⟨⟨_, (), rfl, rfl, trivial⟩, hS1.F ht⟩) hS1.2.2 dL_cueOf_18 hlk
set_option maxHeartbeats 400000 in
set_option maxRecDepth 100000 in
theorem h_cueOf_2 (l : Launch) (D : va_G) (hns : l.stackTraces = false) {xo lc lt bo yo no : Nat} {ec nC c0 : Nat} {m1 : Int32} {cl : Nat → Nat} {ta nc : Nat} {len : Int32} {q b t : Nat → Nat} {ct cn : Nat → Int32} {ix w : Int32} {ou : Nat} (hz0 : Nat) (hnC : nC ≤ 6) (hc : c0 < nC) (hn : nc ≤ 8) (h : ¬ ((0 ≤ ix ∧ ix ≤ nI nc - 1) ∧ (0 ≤ w ∧ w ≤ 1))) : Met l yL_cueOf (wsW_ yL_cueOf cL_cueOf 6 (some .int) [(0, 12, 15, 21)]) ({ frames := 7, cells := 1, slots := 6, locals := 126 } : Room) (va_Pc [.ref xo, .int (nI c0), .int ix, .int w, .ref ou] (TW D [oO xo 5 [.ref lc, .ref lt, .ref bo, .ref yo, .ref no], oO lc 7 [.int m1, .ref ec, .int (nI nC)], aO D ec 10 (lsF cl nC), oO (cl c0) 0 [.int len, .ref ta, .ref (q 0), .ref (q 1)], aT D ta 4 (tkF t), oO (q 0) 2 [.ref (b 0), .int (nI nc)], oO (q 1) 2 [.ref (b 1), .int (nI nc)], aI D (b 0) 8 ct, aI D (b 1) 8 cn] hz0)) (va_Qi (fun r (_ : Unit) => r = 1) (fun _ _ => True) (va_A [] hz0)) 1 6 (va_A [] hz0) := by
  refine va_MetW (hh := [(0, 12, 15, 21)]) (cc := cL_cueOf) (maxL := 6) (ret := (some .int)) (by decide +kernel) rfl ?_
  intro p e s m args below meth c s₁ B hml hv
  obtain ⟨rfl, hsz, hG, hP, hZ⟩ := hv
  subst hsz
  have hx := B.exec
  have hb := B.bytes
  have hr := B.returns
  have hts : ∀ w ∈ wsL_law, w.before _ s = true := fun w h => atoms_spec (ws := (wsW_ yL_cueOf cL_cueOf 6 (some .int) [(0, 12, 15, 21)])) B.pre w (List.mem_cons_of_mem _ (wsL2_in w h))
  have hk15 : (Cond.classLink RL 15 "java/lang/IllegalStateException").before _ s = true := atoms_spec (ws := (wsW_ yL_cueOf cL_cueOf 6 (some .int) [(0, 12, 15, 21)])) B.pre _ (List.mem_cons_of_mem _ List.mem_cons_self)
  have hown : s.vm.findClass RL = some m.cls := findClass_of_methodNamed B.named
  have hlk := B.notSynchronized
  have hC : CallFix p m c cL_cueOf 6 s _ wsL_law RL := ⟨hx, hb, hml, hown, hts⟩
  have hS : va_S (va_A [] s.heap.size) s.heap s.heap [] := va_S.rf
  have hl := lv_entry ([.ref xo, .int (nI c0), .int ix, .int w, .ref ou]) (n := 6) (Nat.le_of_ble_eq_true rfl)
  rw [lg_entry_eq]
  generalize (lg_sl ([.ref xo, .int (nI c0), .int ix, .int w, .ref ou]) ++ List.replicate (6 - (lg_sl ([.ref xo, .int (nI c0), .int ix, .int w, .ref ou])).length) Slot.unset).toArray = ls at hl ⊢
  have hl : lv_has ls 6 [(0, .ref xo), (1, .int (nI c0)), (2, .int ix), (3, .int w), (4, .ref ou)] := hl
  refine lv_aload hx hb dL_cueOf_0 (lv_at hl 4 rfl) ?_
  refine lv_iconst (v := 0) hx hb dL_cueOf_2 (by decide) ?_
  refine lv_aload_n hx hb dL_cueOf_3 rfl (lv_at hl 0 rfl) ?_
  refine lv_iload_n hx hb dL_cueOf_4 rfl (lv_at hl 1 rfl) ?_
  refine lv_iload_n hx hb dL_cueOf_5 rfl (lv_at hl 2 rfl) ?_
  refine lv_iload_n hx hb dL_cueOf_6 rfl (lv_at hl 3 rfl) ?_
  have hP9 := hP.sub (ws' := [oO xo 5 [.ref lc, .ref lt, .ref bo, .ref yo, .ref no], oO lc 7 [.int m1, .ref ec, .int (nI nC)], aO D ec 10 (lsF cl nC), oO (cl c0) 0 [.int len, .ref ta, .ref (q 0), .ref (q 1)], aT D ta 4 (tkF t), oO (q 0) 2 [.ref (b 0), .int (nI nc)], oO (q 1) 2 [.ref (b 1), .int (nI nc)], aI D (b 0) 8 ct, aI D (b 1) 8 cn]) [0, 1, 2, 3, 4, 5, 6, 7, 8] rfl
  refine vx_calli (A0 := va_A [] s.heap.size) (rX (rest := [.int 0, .ref ou]) (qc := (RX5, TX5, 5)) [.int (nI c0), .int ix, .int w] 3 hC (t_cueOf_2 l D hns (xo := xo) (lc := lc) (lt := lt) (bo := bo) (yo := yo) (no := no) (ec := ec) (nC := nC) (c0 := c0) (m1 := m1) (cl := cl) (ta := ta) (nc := nc) (len := len) (q := q) (b := b) (t := t) (ct := ct) (cn := cn) (ix := ix) (w := w) (hz0 := s.heap.size) (hnC) (hc) (hn) (h)) rfl (hP 0 _ rfl) (gV mM_L_44 mI_X5_cueOf mS_X5_cueOf mN_X5 mC_X5_cueOf) (by decide +kernel) rfl rfl ⟨Nat.le_of_ble_eq_true rfl, Nat.le_of_ble_eq_true rfl⟩ hG hP9 hZ rfl hl.1 rfl (Nat.le_of_ble_eq_true rfl) dL_cueOf_7 ⟨Nat.le_of_ble_eq_true rfl, Nat.le_of_ble_eq_true rfl⟩) hS (fun q _ h => h) (fun q h => h) (fun q _ h => h) (fun E ce q9 u9 t H1 locs1 ht hvm hp9 hB hz hk hS1 hce hcv hcl => ?_) (fun r u t H1 locs1 ht hvm hp9 _ _ _ _ => hp9.elim)
  obtain rfl : E = "java/lang/IndexOutOfBoundsException" := hB
  have htb := vx_table (x := yL_cueOf) B (hts _ mW_L_cueOf)
  refine vx_catch (own := RL) (name := "java/lang/IndexOutOfBoundsException") (pc := 7) (rest := [.int 0, .ref ou]) hown [] ⟨0, 12, 15, 21⟩ [] (by rw [htb]; rfl) (fun z hz9 => absurd hz9 List.not_mem_nil) rfl (by decide) (hts _ mK_L_21) (va_Nw.use rfl (gkC hG 4 rfl)) hce hcv hcl ?_
  refine lv_astore (lv' := [(5, .ref q9), (0, .ref xo), (1, .int (nI c0)), (2, .int ix), (3, .int w), (4, .ref ou)]) hx hb dL_cueOf_15 hl (by decide) rfl (fun ls hl => ?_)
  refine lv_iconst (v := 1) hx hb dL_cueOf_17 (by decide) ?_
  exact W.iret (v := 1) hx hb hr (fun t ht _ => ⟨⟨_, (), rfl, rfl, trivial⟩, hS1.F ht⟩) hS1.2.2 dL_cueOf_18 hlk
set_option maxHeartbeats 400000 in
set_option maxRecDepth 100000 in
theorem l_cueOf (l : Launch) (D : va_G) {xo lc lt bo yo no : Nat} {ec nC c0 : Nat} {m1 : Int32} {cl : Nat → Nat} {ta nc : Nat} {len : Int32} {q b t : Nat → Nat} {ct cn : Nat → Int32} {i : Nat} {w : Int32} {ou : Nat} {wf : Nat → Int64} (hz0 : Nat) (hnC : nC ≤ 6) (hc : c0 < nC) (hn : nc ≤ 8) (hi : i < nc) (h : 0 ≤ w ∧ w ≤ 1) : Met l yL_cueOf (wsW_ yL_cueOf cL_cueOf 6 (some .int) [(0, 12, 15, 21)]) ({ frames := 7, cells := 0, slots := 0, locals := 126 } : Room) (va_Pc [.ref xo, .int (nI c0), .int (nI i), .int w, .ref ou] (SW D [oO xo 5 [.ref lc, .ref lt, .ref bo, .ref yo, .ref no], oO lc 7 [.int m1, .ref ec, .int (nI nC)], aO D ec 10 (lsF cl nC), oO (cl c0) 0 [.int len, .ref ta, .ref (q 0), .ref (q 1)], aT D ta 4 (tkF t), oO (q 0) 2 [.ref (b 0), .int (nI nc)], oO (q 1) 2 [.ref (b 1), .int (nI nc)], aI D (b 0) 8 ct, aI D (b 1) 8 cn, aL D ou 1 wf] hz0)) (va_Qi (fun r _ => r = 0) (AT D (va_A [oO xo 5 [.ref lc, .ref lt, .ref bo, .ref yo, .ref no], oO lc 7 [.int m1, .ref ec, .int (nI nC)], aO D ec 10 (lsF cl nC), oO (cl c0) 0 [.int len, .ref ta, .ref (q 0), .ref (q 1)], aT D ta 4 (tkF t), oO (q 0) 2 [.ref (b 0), .int (nI nc)], oO (q 1) 2 [.ref (b 1), .int (nI nc)], aI D (b 0) 8 ct, aI D (b 1) 8 cn, aL D ou 1 wf] hz0) (fun _ : Unit => [oO xo 5 [.ref lc, .ref lt, .ref bo, .ref yo, .ref no], oO lc 7 [.int m1, .ref ec, .int (nI nC)], aO D ec 10 (lsF cl nC), oO (cl c0) 0 [.int len, .ref ta, .ref (q 0), .ref (q 1)], aT D ta 4 (tkF t), oO (q 0) 2 [.ref (b 0), .int (nI nc)], oO (q 1) 2 [.ref (b 1), .int (nI nc)], aI D (b 0) 8 ct, aI D (b 1) 8 cn, aL D ou 1 (vp_updL wf 0 (if w = 0 then ct i else cn i).toInt64)])) (va_A [oO xo 5 [.ref lc, .ref lt, .ref bo, .ref yo, .ref no], oO lc 7 [.int m1, .ref ec, .int (nI nC)], aO D ec 10 (lsF cl nC), oO (cl c0) 0 [.int len, .ref ta, .ref (q 0), .ref (q 1)], aT D ta 4 (tkF t), oO (q 0) 2 [.ref (b 0), .int (nI nc)], oO (q 1) 2 [.ref (b 1), .int (nI nc)], aI D (b 0) 8 ct, aI D (b 1) 8 cn, aL D ou 1 wf] hz0)) 0 0 (va_A [oO xo 5 [.ref lc, .ref lt, .ref bo, .ref yo, .ref no], oO lc 7 [.int m1, .ref ec, .int (nI nC)], aO D ec 10 (lsF cl nC), oO (cl c0) 0 [.int len, .ref ta, .ref (q 0), .ref (q 1)], aT D ta 4 (tkF t), oO (q 0) 2 [.ref (b 0), .int (nI nc)], oO (q 1) 2 [.ref (b 1), .int (nI nc)], aI D (b 0) 8 ct, aI D (b 1) 8 cn, aL D ou 1 wf] hz0) := by
  refine va_MetW (hh := [(0, 12, 15, 21)]) (cc := cL_cueOf) (maxL := 6) (ret := (some .int)) (by decide +kernel) rfl ?_
  intro p e s m args below meth c s₁ B hml hv
  obtain ⟨rfl, hsz, hG, hP, hD0⟩ := hv
  have hx := B.exec
  have hb := B.bytes
  have hr := B.returns
  have hts : ∀ w ∈ wsL_law, w.before _ s = true := fun w h => atoms_spec (ws := (wsW_ yL_cueOf cL_cueOf 6 (some .int) [(0, 12, 15, 21)])) B.pre w (List.mem_cons_of_mem _ (wsL2_in w h))
  have hown : s.vm.findClass RL = some m.cls := findClass_of_methodNamed B.named
  have hlk := B.notSynchronized
  have hC : CallFix p m c cL_cueOf 6 s _ wsL_law RL := ⟨hx, hb, hml, hown, hts⟩
  subst hsz
  have hD := hD0.self (sz := s.heap.size)
  generalize hAe : va_A [oO xo 5 [.ref lc, .ref lt, .ref bo, .ref yo, .ref no], oO lc 7 [.int m1, .ref ec, .int (nI nC)], aO D ec 10 (lsF cl nC), oO (cl c0) 0 [.int len, .ref ta, .ref (q 0), .ref (q 1)], aT D ta 4 (tkF t), oO (q 0) 2 [.ref (b 0), .int (nI nc)], oO (q 1) 2 [.ref (b 1), .int (nI nc)], aI D (b 0) 8 ct, aI D (b 1) 8 cn, aL D ou 1 wf] s.heap.size = A at hD ⊢
  have hA : ∀ q : Nat, s.heap.size ≤ q → A q := fun q h => by rw [← hAe]; exact Or.inr h
  have hS : va_S A s.heap s.heap [] := va_S.rf
  obtain ⟨H, hHe⟩ : ∃ H, H = s.heap := ⟨_, rfl⟩
  rw [← hHe] at hP
  have hS : va_S A s.heap H [] := by rw [hHe]; exact hS
  have hl := lv_entry ([.ref xo, .int (nI c0), .int (nI i), .int w, .ref ou]) (n := 6) (Nat.le_of_ble_eq_true rfl)
  rw [lg_entry_eq]
  generalize (lg_sl ([.ref xo, .int (nI c0), .int (nI i), .int w, .ref ou]) ++ List.replicate (6 - (lg_sl ([.ref xo, .int (nI c0), .int (nI i), .int w, .ref ou])).length) Slot.unset).toArray = ls at hl ⊢
  have hl : lv_has ls 6 [(0, .ref xo), (1, .int (nI c0)), (2, .int (nI i)), (3, .int w), (4, .ref ou)] := hl
  rw [← hHe]
  refine lv_aload hx hb dL_cueOf_0 (lv_at hl 4 rfl) ?_
  refine lv_iconst (v := 0) hx hb dL_cueOf_2 (by decide) ?_
  refine lv_aload_n hx hb dL_cueOf_3 rfl (lv_at hl 0 rfl) ?_
  refine lv_iload_n hx hb dL_cueOf_4 rfl (lv_at hl 1 rfl) ?_
  refine lv_iload_n hx hb dL_cueOf_5 rfl (lv_at hl 2 rfl) ?_
  refine lv_iload_n hx hb dL_cueOf_6 rfl (lv_at hl 3 rfl) ?_
  have hP9 := hP.sub (ws' := [oO xo 5 [.ref lc, .ref lt, .ref bo, .ref yo, .ref no], oO lc 7 [.int m1, .ref ec, .int (nI nC)], aO D ec 10 (lsF cl nC), oO (cl c0) 0 [.int len, .ref ta, .ref (q 0), .ref (q 1)], aT D ta 4 (tkF t), oO (q 0) 2 [.ref (b 0), .int (nI nc)], oO (q 1) 2 [.ref (b 1), .int (nI nc)], aI D (b 0) 8 ct, aI D (b 1) 8 cn]) [0, 1, 2, 3, 4, 5, 6, 7, 8] rfl
  refine vp_callSi (pV (rest := [.int 0, .ref ou]) (qc := (RX5, TX5, 5)) [.int (nI c0), .int (nI i), .int w] 3 hC (c_cueOf l D (xo := xo) (lc := lc) (lt := lt) (bo := bo) (yo := yo) (no := no) (ec := ec) (nC := nC) (c0 := c0) (m1 := m1) (cl := cl) (ta := ta) (nc := nc) (len := len) (q := q) (b := b) (t := t) (ct := ct) (cn := cn) (i := i) (w := w) (hnC) (hc) (hn) (hi) (h)) rfl (hP 0 _ rfl) (gV mM_L_44 mI_X5_cueOf mS_X5_cueOf mN_X5 mC_X5_cueOf) (by decide +kernel) rfl rfl ⟨Nat.le_of_ble_eq_true rfl, Nat.le_of_ble_eq_true rfl⟩ hG hP9 rfl hl.1 rfl (Nat.le_of_ble_eq_true rfl) dL_cueOf_7 ⟨Nat.le_of_ble_eq_true rfl, Nat.le_of_ble_eq_true rfl⟩) (fun r7 h7 => ?_)
  obtain rfl : r7 = (if w = 0 then ct i else cn i) := h7
  refine lv_i2l hx hb dL_cueOf_10 rfl ?_
  refine lst (n := 1) (j := 0) hx hb hG hP hD hS 9 rfl (by omega) (by omega) dL_cueOf_11 (fun H locs hP hD hS => ?_)
  have hP : va_P D cls [oO xo 5 [.ref lc, .ref lt, .ref bo, .ref yo, .ref no], oO lc 7 [.int m1, .ref ec, .int (nI nC)], aO D ec 10 (lsF cl nC), oO (cl c0) 0 [.int len, .ref ta, .ref (q 0), .ref (q 1)], aT D ta 4 (tkF t), oO (q 0) 2 [.ref (b 0), .int (nI nc)], oO (q 1) 2 [.ref (b 1), .int (nI nc)], aI D (b 0) 8 ct, aI D (b 1) 8 cn, aL D ou 1 (vp_updL wf 0 ((if w = 0 then ct i else cn i).toInt64))] H := hP
  have hD : va_D A [oO xo 5 [.ref lc, .ref lt, .ref bo, .ref yo, .ref no], oO lc 7 [.int m1, .ref ec, .int (nI nC)], aO D ec 10 (lsF cl nC), oO (cl c0) 0 [.int len, .ref ta, .ref (q 0), .ref (q 1)], aT D ta 4 (tkF t), oO (q 0) 2 [.ref (b 0), .int (nI nc)], oO (q 1) 2 [.ref (b 1), .int (nI nc)], aI D (b 0) 8 ct, aI D (b 1) 8 cn, aL D ou 1 (vp_updL wf 0 ((if w = 0 then ct i else cn i).toInt64))] := hD
  refine lv_goto (tgt := 19) hx hb dL_cueOf_12 (by decide) ?_
  refine lv_iconst (v := 0) hx hb dL_cueOf_19 (by decide) ?_
  refine Wi () hx hb hr hlk ?_ hP hD hS (Nat.le_of_ble_eq_true rfl) (by first | exact Nat.le_of_ble_eq_true rfl | exact Nat.le_of_eq (Nat.zero_add _)) dL_cueOf_20
  exact rfl
set_option maxHeartbeats 400000 in
set_option maxRecDepth 100000 in
theorem h_mirror_1 (l : Launch) (D : va_G) (hns : l.stackTraces = false) {xo lc lt bo yo no : Nat} {ec nC : Nat} {m1 : Int32} {x : Int32} {ou : Nat} (hz0 : Nat) (hnC : nC ≤ 6) (hxx : x < 0 ∨ nI nC ≤ x) : Met l yL_mirror (wsW_ yL_mirror cL_mirror 4 (some .int) [(0, 9, 12, 21)]) ({ frames := 7, cells := 1, slots := 6, locals := 156 } : Room) (va_Pc [.ref xo, .int x, .ref ou] (TW D [oO xo 5 [.ref lc, .ref lt, .ref bo, .ref yo, .ref no], oO lc 7 [.int m1, .ref ec, .int (nI nC)]] hz0)) (va_Qi (fun r (_ : Unit) => r = 1) (fun _ _ => True) (va_A [] hz0)) 1 6 (va_A [] hz0) := by
  refine va_MetW (hh := [(0, 9, 12, 21)]) (cc := cL_mirror) (maxL := 4) (ret := (some .int)) (by decide +kernel) rfl ?_
  intro p e s m args below meth c s₁ B hml hv
  obtain ⟨rfl, hsz, hG, hP, hZ⟩ := hv
  subst hsz
  have hx := B.exec
  have hb := B.bytes
  have hr := B.returns
  have hts : ∀ w ∈ wsL_law, w.before _ s = true := fun w h => atoms_spec (ws := (wsW_ yL_mirror cL_mirror 4 (some .int) [(0, 9, 12, 21)])) B.pre w (List.mem_cons_of_mem _ (wsL2_in w h))
  have hk15 : (Cond.classLink RL 15 "java/lang/IllegalStateException").before _ s = true := atoms_spec (ws := (wsW_ yL_mirror cL_mirror 4 (some .int) [(0, 9, 12, 21)])) B.pre _ (List.mem_cons_of_mem _ List.mem_cons_self)
  have hown : s.vm.findClass RL = some m.cls := findClass_of_methodNamed B.named
  have hlk := B.notSynchronized
  have hC : CallFix p m c cL_mirror 4 s _ wsL_law RL := ⟨hx, hb, hml, hown, hts⟩
  have hS : va_S (va_A [] s.heap.size) s.heap s.heap [] := va_S.rf
  have hl := lv_entry ([.ref xo, .int x, .ref ou]) (n := 4) (Nat.le_of_ble_eq_true rfl)
  rw [lg_entry_eq]
  generalize (lg_sl ([.ref xo, .int x, .ref ou]) ++ List.replicate (4 - (lg_sl ([.ref xo, .int x, .ref ou])).length) Slot.unset).toArray = ls at hl ⊢
  have hl : lv_has ls 4 [(0, .ref xo), (1, .int x), (2, .ref ou)] := hl
  refine lv_aload_n hx hb dL_mirror_0 rfl (lv_at hl 2 rfl) ?_
  refine lv_iconst (v := 0) hx hb dL_mirror_1 (by decide) ?_
  refine lv_aload_n hx hb dL_mirror_2 rfl (lv_at hl 0 rfl) ?_
  refine lv_iload_n hx hb dL_mirror_3 rfl (lv_at hl 1 rfl) ?_
  have hP9 := hP.sub (ws' := [oO xo 5 [.ref lc, .ref lt, .ref bo, .ref yo, .ref no], oO lc 7 [.int m1, .ref ec, .int (nI nC)]]) [0, 1] rfl
  refine vx_calli (A0 := va_A [] s.heap.size) (rX (rest := [.int 0, .ref ou]) (qc := (RX5, TX5, 5)) [.int x] 1 hC (t_mirror_1 l D hns (xo := xo) (lc := lc) (lt := lt) (bo := bo) (yo := yo) (no := no) (ec := ec) (nC := nC) (m1 := m1) (x := x) (hz0 := s.heap.size) (hnC) (hxx)) rfl (hP 0 _ rfl) (gV mM_L_47 mI_X5_mirror mS_X5_mirror mN_X5 mC_X5_mirror) (by decide +kernel) rfl rfl ⟨Nat.le_of_ble_eq_true rfl, Nat.le_of_ble_eq_true rfl⟩ hG hP9 hZ rfl hl.1 rfl (Nat.le_of_ble_eq_true rfl) dL_mirror_4 ⟨Nat.le_of_ble_eq_true rfl, Nat.le_of_ble_eq_true rfl⟩) hS (fun q _ h => h) (fun q h => h) (fun q _ h => h) (fun E ce q9 u9 t H1 locs1 ht hvm hp9 hB hz hk hS1 hce hcv hcl => ?_) (fun r u t H1 locs1 ht hvm hp9 _ _ _ _ => hp9.elim)
  obtain rfl : E = "java/lang/IndexOutOfBoundsException" := hB
  have htb := vx_table (x := yL_mirror) B (hts _ mW_L_mirror)
  refine vx_catch (own := RL) (name := "java/lang/IndexOutOfBoundsException") (pc := 4) (rest := [.int 0, .ref ou]) hown [] ⟨0, 9, 12, 21⟩ [] (by rw [htb]; rfl) (fun z hz9 => absurd hz9 List.not_mem_nil) rfl (by decide) (hts _ mK_L_21) (va_Nw.use rfl (gkC hG 4 rfl)) hce hcv hcl ?_
  refine lv_astore_n (lv' := [(3, .ref q9), (0, .ref xo), (1, .int x), (2, .ref ou)]) hx hb dL_mirror_12 rfl hl (by decide) rfl (fun ls hl => ?_)
  refine lv_iconst (v := 1) hx hb dL_mirror_13 (by decide) ?_
  exact W.iret (v := 1) hx hb hr (fun t ht _ => ⟨⟨_, (), rfl, rfl, trivial⟩, hS1.F ht⟩) hS1.2.2 dL_mirror_14 hlk
set_option maxHeartbeats 400000 in
set_option maxRecDepth 100000 in
theorem l_mirror (l : Launch) (D : va_G) {xo lc lt bo yo no : Nat} {ec nC c0 : Nat} {m1 : Int32} {cl : Nat → Nat} {ta nc : Nat} {len : Int32} {q b t r a sz : Nat → Nat} {ct cn : Nat → Int32} {f : Nat → Nat → Int32} {ou : Nat} {wf : Nat → Int64} (hz0 : Nat) (hnC : nC ≤ 6) (hc : c0 < nC) (hs0 : sz 0 ≤ 16) (hs1 : sz 1 ≤ 16) (hs2 : sz 2 ≤ 16) (hs3 : sz 3 ≤ 16) (hn : nc ≤ 8) : Met l yL_mirror (wsW_ yL_mirror cL_mirror 4 (some .int) [(0, 9, 12, 21)]) ({ frames := 7, cells := 0, slots := 0, locals := 156 } : Room) (va_Pc [.ref xo, .int (nI c0), .ref ou] (SW D [oO xo 5 [.ref lc, .ref lt, .ref bo, .ref yo, .ref no], oO lc 7 [.int m1, .ref ec, .int (nI nC)], aO D ec 10 (lsF cl nC), oO (cl c0) 0 [.int len, .ref ta, .ref (q 0), .ref (q 1)], aT D ta 4 (tkF t), oO (q 0) 2 [.ref (b 0), .int (nI nc)], oO (q 1) 2 [.ref (b 1), .int (nI nc)], aI D (b 0) 8 ct, aI D (b 1) 8 cn, oO (t 0) 4 [.ref (r 0), .ref (r 1), .ref (r 2)], oO (r 0) 2 [.ref (a 0), .int (nI (sz 0))], oO (r 1) 2 [.ref (a 1), .int (nI (sz 0))], oO (r 2) 2 [.ref (a 2), .int (nI (sz 0))], aI D (a 0) 16 (f 0), aI D (a 1) 16 (f 1), aI D (a 2) 16 (f 2), oO (t 1) 4 [.ref (r 3), .ref (r 4), .ref (r 5)], oO (r 3) 2 [.ref (a 3), .int (nI (sz 1))], oO (r 4) 2 [.ref (a 4), .int (nI (sz 1))], oO (r 5) 2 [.ref (a 5), .int (nI (sz 1))], aI D (a 3) 16 (f 3), aI D (a 4) 16 (f 4), aI D (a 5) 16 (f 5), oO (t 2) 4 [.ref (r 6), .ref (r 7), .ref (r 8)], oO (r 6) 2 [.ref (a 6), .int (nI (sz 2))], oO (r 7) 2 [.ref (a 7), .int (nI (sz 2))], oO (r 8) 2 [.ref (a 8), .int (nI (sz 2))], aI D (a 6) 16 (f 6), aI D (a 7) 16 (f 7), aI D (a 8) 16 (f 8), oO (t 3) 4 [.ref (r 9), .ref (r 10), .ref (r 11)], oO (r 9) 2 [.ref (a 9), .int (nI (sz 3))], oO (r 10) 2 [.ref (a 10), .int (nI (sz 3))], oO (r 11) 2 [.ref (a 11), .int (nI (sz 3))], aI D (a 9) 16 (f 9), aI D (a 10) 16 (f 10), aI D (a 11) 16 (f 11), aL D ou 1 wf] hz0)) (va_Qi (fun r _ => r = 0) (AT D (va_A [oO xo 5 [.ref lc, .ref lt, .ref bo, .ref yo, .ref no], oO lc 7 [.int m1, .ref ec, .int (nI nC)], aO D ec 10 (lsF cl nC), oO (cl c0) 0 [.int len, .ref ta, .ref (q 0), .ref (q 1)], aT D ta 4 (tkF t), oO (q 0) 2 [.ref (b 0), .int (nI nc)], oO (q 1) 2 [.ref (b 1), .int (nI nc)], aI D (b 0) 8 ct, aI D (b 1) 8 cn, oO (t 0) 4 [.ref (r 0), .ref (r 1), .ref (r 2)], oO (r 0) 2 [.ref (a 0), .int (nI (sz 0))], oO (r 1) 2 [.ref (a 1), .int (nI (sz 0))], oO (r 2) 2 [.ref (a 2), .int (nI (sz 0))], aI D (a 0) 16 (f 0), aI D (a 1) 16 (f 1), aI D (a 2) 16 (f 2), oO (t 1) 4 [.ref (r 3), .ref (r 4), .ref (r 5)], oO (r 3) 2 [.ref (a 3), .int (nI (sz 1))], oO (r 4) 2 [.ref (a 4), .int (nI (sz 1))], oO (r 5) 2 [.ref (a 5), .int (nI (sz 1))], aI D (a 3) 16 (f 3), aI D (a 4) 16 (f 4), aI D (a 5) 16 (f 5), oO (t 2) 4 [.ref (r 6), .ref (r 7), .ref (r 8)], oO (r 6) 2 [.ref (a 6), .int (nI (sz 2))], oO (r 7) 2 [.ref (a 7), .int (nI (sz 2))], oO (r 8) 2 [.ref (a 8), .int (nI (sz 2))], aI D (a 6) 16 (f 6), aI D (a 7) 16 (f 7), aI D (a 8) 16 (f 8), oO (t 3) 4 [.ref (r 9), .ref (r 10), .ref (r 11)], oO (r 9) 2 [.ref (a 9), .int (nI (sz 3))], oO (r 10) 2 [.ref (a 10), .int (nI (sz 3))], oO (r 11) 2 [.ref (a 11), .int (nI (sz 3))], aI D (a 9) 16 (f 9), aI D (a 10) 16 (f 10), aI D (a 11) 16 (f 11), aL D ou 1 wf] hz0) (fun _ : Unit => [oO xo 5 [.ref lc, .ref lt, .ref bo, .ref yo, .ref no], oO lc 7 [.int m1, .ref ec, .int (nI nC)], aO D ec 10 (lsF cl nC), oO (cl c0) 0 [.int len, .ref ta, .ref (q 0), .ref (q 1)], aT D ta 4 (tkF t), oO (q 0) 2 [.ref (b 0), .int (nI nc)], oO (q 1) 2 [.ref (b 1), .int (nI nc)], aI D (b 0) 8 (rvF (mpF (fun z => len - z) ct nc) nc), aI D (b 1) 8 (rvF cn nc), oO (t 0) 4 [.ref (r 0), .ref (r 1), .ref (r 2)], oO (r 0) 2 [.ref (a 0), .int (nI (sz 0))], oO (r 1) 2 [.ref (a 1), .int (nI (sz 0))], oO (r 2) 2 [.ref (a 2), .int (nI (sz 0))], aI D (a 0) 16 (rvF (mpF (fun z => len - z) (f 0) (sz 0)) (sz 0)), aI D (a 1) 16 (rvF (f 1) (sz 0)), aI D (a 2) 16 (teF (f 2) (sz 0)), oO (t 1) 4 [.ref (r 3), .ref (r 4), .ref (r 5)], oO (r 3) 2 [.ref (a 3), .int (nI (sz 1))], oO (r 4) 2 [.ref (a 4), .int (nI (sz 1))], oO (r 5) 2 [.ref (a 5), .int (nI (sz 1))], aI D (a 3) 16 (rvF (mpF (fun z => len - z) (f 3) (sz 1)) (sz 1)), aI D (a 4) 16 (rvF (f 4) (sz 1)), aI D (a 5) 16 (teF (f 5) (sz 1)), oO (t 2) 4 [.ref (r 6), .ref (r 7), .ref (r 8)], oO (r 6) 2 [.ref (a 6), .int (nI (sz 2))], oO (r 7) 2 [.ref (a 7), .int (nI (sz 2))], oO (r 8) 2 [.ref (a 8), .int (nI (sz 2))], aI D (a 6) 16 (rvF (mpF (fun z => len - z) (f 6) (sz 2)) (sz 2)), aI D (a 7) 16 (rvF (f 7) (sz 2)), aI D (a 8) 16 (teF (f 8) (sz 2)), oO (t 3) 4 [.ref (r 9), .ref (r 10), .ref (r 11)], oO (r 9) 2 [.ref (a 9), .int (nI (sz 3))], oO (r 10) 2 [.ref (a 10), .int (nI (sz 3))], oO (r 11) 2 [.ref (a 11), .int (nI (sz 3))], aI D (a 9) 16 (rvF (mpF (fun z => len - z) (f 9) (sz 3)) (sz 3)), aI D (a 10) 16 (rvF (f 10) (sz 3)), aI D (a 11) 16 (teF (f 11) (sz 3)), aL D ou 1 (vp_updL wf 0 (len).toInt64)])) (va_A [oO xo 5 [.ref lc, .ref lt, .ref bo, .ref yo, .ref no], oO lc 7 [.int m1, .ref ec, .int (nI nC)], aO D ec 10 (lsF cl nC), oO (cl c0) 0 [.int len, .ref ta, .ref (q 0), .ref (q 1)], aT D ta 4 (tkF t), oO (q 0) 2 [.ref (b 0), .int (nI nc)], oO (q 1) 2 [.ref (b 1), .int (nI nc)], aI D (b 0) 8 ct, aI D (b 1) 8 cn, oO (t 0) 4 [.ref (r 0), .ref (r 1), .ref (r 2)], oO (r 0) 2 [.ref (a 0), .int (nI (sz 0))], oO (r 1) 2 [.ref (a 1), .int (nI (sz 0))], oO (r 2) 2 [.ref (a 2), .int (nI (sz 0))], aI D (a 0) 16 (f 0), aI D (a 1) 16 (f 1), aI D (a 2) 16 (f 2), oO (t 1) 4 [.ref (r 3), .ref (r 4), .ref (r 5)], oO (r 3) 2 [.ref (a 3), .int (nI (sz 1))], oO (r 4) 2 [.ref (a 4), .int (nI (sz 1))], oO (r 5) 2 [.ref (a 5), .int (nI (sz 1))], aI D (a 3) 16 (f 3), aI D (a 4) 16 (f 4), aI D (a 5) 16 (f 5), oO (t 2) 4 [.ref (r 6), .ref (r 7), .ref (r 8)], oO (r 6) 2 [.ref (a 6), .int (nI (sz 2))], oO (r 7) 2 [.ref (a 7), .int (nI (sz 2))], oO (r 8) 2 [.ref (a 8), .int (nI (sz 2))], aI D (a 6) 16 (f 6), aI D (a 7) 16 (f 7), aI D (a 8) 16 (f 8), oO (t 3) 4 [.ref (r 9), .ref (r 10), .ref (r 11)], oO (r 9) 2 [.ref (a 9), .int (nI (sz 3))], oO (r 10) 2 [.ref (a 10), .int (nI (sz 3))], oO (r 11) 2 [.ref (a 11), .int (nI (sz 3))], aI D (a 9) 16 (f 9), aI D (a 10) 16 (f 10), aI D (a 11) 16 (f 11), aL D ou 1 wf] hz0)) 0 0 (va_A [oO xo 5 [.ref lc, .ref lt, .ref bo, .ref yo, .ref no], oO lc 7 [.int m1, .ref ec, .int (nI nC)], aO D ec 10 (lsF cl nC), oO (cl c0) 0 [.int len, .ref ta, .ref (q 0), .ref (q 1)], aT D ta 4 (tkF t), oO (q 0) 2 [.ref (b 0), .int (nI nc)], oO (q 1) 2 [.ref (b 1), .int (nI nc)], aI D (b 0) 8 ct, aI D (b 1) 8 cn, oO (t 0) 4 [.ref (r 0), .ref (r 1), .ref (r 2)], oO (r 0) 2 [.ref (a 0), .int (nI (sz 0))], oO (r 1) 2 [.ref (a 1), .int (nI (sz 0))], oO (r 2) 2 [.ref (a 2), .int (nI (sz 0))], aI D (a 0) 16 (f 0), aI D (a 1) 16 (f 1), aI D (a 2) 16 (f 2), oO (t 1) 4 [.ref (r 3), .ref (r 4), .ref (r 5)], oO (r 3) 2 [.ref (a 3), .int (nI (sz 1))], oO (r 4) 2 [.ref (a 4), .int (nI (sz 1))], oO (r 5) 2 [.ref (a 5), .int (nI (sz 1))], aI D (a 3) 16 (f 3), aI D (a 4) 16 (f 4), aI D (a 5) 16 (f 5), oO (t 2) 4 [.ref (r 6), .ref (r 7), .ref (r 8)], oO (r 6) 2 [.ref (a 6), .int (nI (sz 2))], oO (r 7) 2 [.ref (a 7), .int (nI (sz 2))], oO (r 8) 2 [.ref (a 8), .int (nI (sz 2))], aI D (a 6) 16 (f 6), aI D (a 7) 16 (f 7), aI D (a 8) 16 (f 8), oO (t 3) 4 [.ref (r 9), .ref (r 10), .ref (r 11)], oO (r 9) 2 [.ref (a 9), .int (nI (sz 3))], oO (r 10) 2 [.ref (a 10), .int (nI (sz 3))], oO (r 11) 2 [.ref (a 11), .int (nI (sz 3))], aI D (a 9) 16 (f 9), aI D (a 10) 16 (f 10), aI D (a 11) 16 (f 11), aL D ou 1 wf] hz0) := by
  refine va_MetW (hh := [(0, 9, 12, 21)]) (cc := cL_mirror) (maxL := 4) (ret := (some .int)) (by decide +kernel) rfl ?_
  intro p e s m args below meth c s₁ B hml hv
  obtain ⟨rfl, hsz, hG, hP, hD0⟩ := hv
  have hx := B.exec
  have hb := B.bytes
  have hr := B.returns
  have hts : ∀ w ∈ wsL_law, w.before _ s = true := fun w h => atoms_spec (ws := (wsW_ yL_mirror cL_mirror 4 (some .int) [(0, 9, 12, 21)])) B.pre w (List.mem_cons_of_mem _ (wsL2_in w h))
  have hown : s.vm.findClass RL = some m.cls := findClass_of_methodNamed B.named
  have hlk := B.notSynchronized
  have hC : CallFix p m c cL_mirror 4 s _ wsL_law RL := ⟨hx, hb, hml, hown, hts⟩
  subst hsz
  have hD := hD0.self (sz := s.heap.size)
  generalize hAe : va_A [oO xo 5 [.ref lc, .ref lt, .ref bo, .ref yo, .ref no], oO lc 7 [.int m1, .ref ec, .int (nI nC)], aO D ec 10 (lsF cl nC), oO (cl c0) 0 [.int len, .ref ta, .ref (q 0), .ref (q 1)], aT D ta 4 (tkF t), oO (q 0) 2 [.ref (b 0), .int (nI nc)], oO (q 1) 2 [.ref (b 1), .int (nI nc)], aI D (b 0) 8 ct, aI D (b 1) 8 cn, oO (t 0) 4 [.ref (r 0), .ref (r 1), .ref (r 2)], oO (r 0) 2 [.ref (a 0), .int (nI (sz 0))], oO (r 1) 2 [.ref (a 1), .int (nI (sz 0))], oO (r 2) 2 [.ref (a 2), .int (nI (sz 0))], aI D (a 0) 16 (f 0), aI D (a 1) 16 (f 1), aI D (a 2) 16 (f 2), oO (t 1) 4 [.ref (r 3), .ref (r 4), .ref (r 5)], oO (r 3) 2 [.ref (a 3), .int (nI (sz 1))], oO (r 4) 2 [.ref (a 4), .int (nI (sz 1))], oO (r 5) 2 [.ref (a 5), .int (nI (sz 1))], aI D (a 3) 16 (f 3), aI D (a 4) 16 (f 4), aI D (a 5) 16 (f 5), oO (t 2) 4 [.ref (r 6), .ref (r 7), .ref (r 8)], oO (r 6) 2 [.ref (a 6), .int (nI (sz 2))], oO (r 7) 2 [.ref (a 7), .int (nI (sz 2))], oO (r 8) 2 [.ref (a 8), .int (nI (sz 2))], aI D (a 6) 16 (f 6), aI D (a 7) 16 (f 7), aI D (a 8) 16 (f 8), oO (t 3) 4 [.ref (r 9), .ref (r 10), .ref (r 11)], oO (r 9) 2 [.ref (a 9), .int (nI (sz 3))], oO (r 10) 2 [.ref (a 10), .int (nI (sz 3))], oO (r 11) 2 [.ref (a 11), .int (nI (sz 3))], aI D (a 9) 16 (f 9), aI D (a 10) 16 (f 10), aI D (a 11) 16 (f 11), aL D ou 1 wf] s.heap.size = A at hD ⊢
  have hA : ∀ q : Nat, s.heap.size ≤ q → A q := fun q h => by rw [← hAe]; exact Or.inr h
  have hS : va_S A s.heap s.heap [] := va_S.rf
  obtain ⟨H, hHe⟩ : ∃ H, H = s.heap := ⟨_, rfl⟩
  rw [← hHe] at hP
  have hS : va_S A s.heap H [] := by rw [hHe]; exact hS
  have hl := lv_entry ([.ref xo, .int (nI c0), .ref ou]) (n := 4) (Nat.le_of_ble_eq_true rfl)
  rw [lg_entry_eq]
  generalize (lg_sl ([.ref xo, .int (nI c0), .ref ou]) ++ List.replicate (4 - (lg_sl ([.ref xo, .int (nI c0), .ref ou])).length) Slot.unset).toArray = ls at hl ⊢
  have hl : lv_has ls 4 [(0, .ref xo), (1, .int (nI c0)), (2, .ref ou)] := hl
  rw [← hHe]
  refine lv_aload_n hx hb dL_mirror_0 rfl (lv_at hl 2 rfl) ?_
  refine lv_iconst (v := 0) hx hb dL_mirror_1 (by decide) ?_
  refine lv_aload_n hx hb dL_mirror_2 rfl (lv_at hl 0 rfl) ?_
  refine lv_iload_n hx hb dL_mirror_3 rfl (lv_at hl 1 rfl) ?_
  have hP9 := hP.sub (ws' := [oO xo 5 [.ref lc, .ref lt, .ref bo, .ref yo, .ref no], oO lc 7 [.int m1, .ref ec, .int (nI nC)], aO D ec 10 (lsF cl nC), oO (cl c0) 0 [.int len, .ref ta, .ref (q 0), .ref (q 1)], aT D ta 4 (tkF t), oO (q 0) 2 [.ref (b 0), .int (nI nc)], oO (q 1) 2 [.ref (b 1), .int (nI nc)], aI D (b 0) 8 ct, aI D (b 1) 8 cn, oO (t 0) 4 [.ref (r 0), .ref (r 1), .ref (r 2)], oO (r 0) 2 [.ref (a 0), .int (nI (sz 0))], oO (r 1) 2 [.ref (a 1), .int (nI (sz 0))], oO (r 2) 2 [.ref (a 2), .int (nI (sz 0))], aI D (a 0) 16 (f 0), aI D (a 1) 16 (f 1), aI D (a 2) 16 (f 2), oO (t 1) 4 [.ref (r 3), .ref (r 4), .ref (r 5)], oO (r 3) 2 [.ref (a 3), .int (nI (sz 1))], oO (r 4) 2 [.ref (a 4), .int (nI (sz 1))], oO (r 5) 2 [.ref (a 5), .int (nI (sz 1))], aI D (a 3) 16 (f 3), aI D (a 4) 16 (f 4), aI D (a 5) 16 (f 5), oO (t 2) 4 [.ref (r 6), .ref (r 7), .ref (r 8)], oO (r 6) 2 [.ref (a 6), .int (nI (sz 2))], oO (r 7) 2 [.ref (a 7), .int (nI (sz 2))], oO (r 8) 2 [.ref (a 8), .int (nI (sz 2))], aI D (a 6) 16 (f 6), aI D (a 7) 16 (f 7), aI D (a 8) 16 (f 8), oO (t 3) 4 [.ref (r 9), .ref (r 10), .ref (r 11)], oO (r 9) 2 [.ref (a 9), .int (nI (sz 3))], oO (r 10) 2 [.ref (a 10), .int (nI (sz 3))], oO (r 11) 2 [.ref (a 11), .int (nI (sz 3))], aI D (a 9) 16 (f 9), aI D (a 10) 16 (f 10), aI D (a 11) 16 (f 11)]) [0, 1, 2, 3, 4, 5, 6, 7, 8, 9, 10, 11, 12, 13, 14, 15, 16, 17, 18, 19, 20, 21, 22, 23, 24, 25, 26, 27, 28, 29, 30, 31, 32, 33, 34, 35, 36] rfl
  have hD9 := (hD.sub (ws' := [oO xo 5 [.ref lc, .ref lt, .ref bo, .ref yo, .ref no], oO lc 7 [.int m1, .ref ec, .int (nI nC)], aO D ec 10 (lsF cl nC), oO (cl c0) 0 [.int len, .ref ta, .ref (q 0), .ref (q 1)], aT D ta 4 (tkF t), oO (q 0) 2 [.ref (b 0), .int (nI nc)], oO (q 1) 2 [.ref (b 1), .int (nI nc)], aI D (b 0) 8 ct, aI D (b 1) 8 cn, oO (t 0) 4 [.ref (r 0), .ref (r 1), .ref (r 2)], oO (r 0) 2 [.ref (a 0), .int (nI (sz 0))], oO (r 1) 2 [.ref (a 1), .int (nI (sz 0))], oO (r 2) 2 [.ref (a 2), .int (nI (sz 0))], aI D (a 0) 16 (f 0), aI D (a 1) 16 (f 1), aI D (a 2) 16 (f 2), oO (t 1) 4 [.ref (r 3), .ref (r 4), .ref (r 5)], oO (r 3) 2 [.ref (a 3), .int (nI (sz 1))], oO (r 4) 2 [.ref (a 4), .int (nI (sz 1))], oO (r 5) 2 [.ref (a 5), .int (nI (sz 1))], aI D (a 3) 16 (f 3), aI D (a 4) 16 (f 4), aI D (a 5) 16 (f 5), oO (t 2) 4 [.ref (r 6), .ref (r 7), .ref (r 8)], oO (r 6) 2 [.ref (a 6), .int (nI (sz 2))], oO (r 7) 2 [.ref (a 7), .int (nI (sz 2))], oO (r 8) 2 [.ref (a 8), .int (nI (sz 2))], aI D (a 6) 16 (f 6), aI D (a 7) 16 (f 7), aI D (a 8) 16 (f 8), oO (t 3) 4 [.ref (r 9), .ref (r 10), .ref (r 11)], oO (r 9) 2 [.ref (a 9), .int (nI (sz 3))], oO (r 10) 2 [.ref (a 10), .int (nI (sz 3))], oO (r 11) 2 [.ref (a 11), .int (nI (sz 3))], aI D (a 9) 16 (f 9), aI D (a 10) 16 (f 10), aI D (a 11) 16 (f 11)]) [0, 1, 2, 3, 4, 5, 6, 7, 8, 9, 10, 11, 12, 13, 14, 15, 16, 17, 18, 19, 20, 21, 22, 23, 24, 25, 26, 27, 28, 29, 30, 31, 32, 33, 34, 35, 36] (by decide) rfl).weaken (B := fun _ => True) (fun _ _ _ _ => trivial)
  refine ki (wr := [aL D ou 1 wf]) (rV (rest := [.int 0, .ref ou]) (qc := (RX5, TX5, 5)) [.int (nI c0)] 1 0 0 hC (c_mirror l D (xo := xo) (lc := lc) (lt := lt) (bo := bo) (yo := yo) (no := no) (ec := ec) (nC := nC) (c0 := c0) (m1 := m1) (cl := cl) (ta := ta) (nc := nc) (len := len) (q := q) (b := b) (t := t) (r := r) (a := a) (sz := sz) (ct := ct) (cn := cn) (f := f) (hz0 := H.size) (hnC) (hc) (hs0) (hs1) (hs2) (hs3) (hn)) rfl (hP 0 _ rfl) (gV mM_L_47 mI_X5_mirror mS_X5_mirror mN_X5 mC_X5_mirror) (by decide +kernel) rfl rfl ⟨Nat.le_of_ble_eq_true rfl, Nat.le_of_ble_eq_true rfl⟩ hG hP9 hD9 rfl hl.1 rfl (Nat.le_of_ble_eq_true rfl) dL_mirror_4 ⟨Nat.le_of_ble_eq_true rfl, Nat.le_of_ble_eq_true rfl⟩) hP hD hS hA [0, 1, 2, 3, 4, 5, 6, 7, 8, 9, 10, 11, 12, 13, 14, 15, 16, 17, 18, 19, 20, 21, 22, 23, 24, 25, 26, 27, 28, 29, 30, 31, 32, 33, 34, 35, 36] [37] rfl rfl (by decide) (by decide) (fun r4 u4 H locs h4 hP hD hS hz hfr => ?_)
  have hP : va_P D cls [aL D ou 1 wf, oO xo 5 [.ref lc, .ref lt, .ref bo, .ref yo, .ref no], oO lc 7 [.int m1, .ref ec, .int (nI nC)], aO D ec 10 (lsF cl nC), oO (cl c0) 0 [.int len, .ref ta, .ref (q 0), .ref (q 1)], aT D ta 4 (tkF t), oO (q 0) 2 [.ref (b 0), .int (nI nc)], oO (q 1) 2 [.ref (b 1), .int (nI nc)], aI D (b 0) 8 (rvF (mpF (fun z => len - z) ct nc) nc), aI D (b 1) 8 (rvF cn nc), oO (t 0) 4 [.ref (r 0), .ref (r 1), .ref (r 2)], oO (r 0) 2 [.ref (a 0), .int (nI (sz 0))], oO (r 1) 2 [.ref (a 1), .int (nI (sz 0))], oO (r 2) 2 [.ref (a 2), .int (nI (sz 0))], aI D (a 0) 16 (rvF (mpF (fun z => len - z) (f 0) (sz 0)) (sz 0)), aI D (a 1) 16 (rvF (f 1) (sz 0)), aI D (a 2) 16 (teF (f 2) (sz 0)), oO (t 1) 4 [.ref (r 3), .ref (r 4), .ref (r 5)], oO (r 3) 2 [.ref (a 3), .int (nI (sz 1))], oO (r 4) 2 [.ref (a 4), .int (nI (sz 1))], oO (r 5) 2 [.ref (a 5), .int (nI (sz 1))], aI D (a 3) 16 (rvF (mpF (fun z => len - z) (f 3) (sz 1)) (sz 1)), aI D (a 4) 16 (rvF (f 4) (sz 1)), aI D (a 5) 16 (teF (f 5) (sz 1)), oO (t 2) 4 [.ref (r 6), .ref (r 7), .ref (r 8)], oO (r 6) 2 [.ref (a 6), .int (nI (sz 2))], oO (r 7) 2 [.ref (a 7), .int (nI (sz 2))], oO (r 8) 2 [.ref (a 8), .int (nI (sz 2))], aI D (a 6) 16 (rvF (mpF (fun z => len - z) (f 6) (sz 2)) (sz 2)), aI D (a 7) 16 (rvF (f 7) (sz 2)), aI D (a 8) 16 (teF (f 8) (sz 2)), oO (t 3) 4 [.ref (r 9), .ref (r 10), .ref (r 11)], oO (r 9) 2 [.ref (a 9), .int (nI (sz 3))], oO (r 10) 2 [.ref (a 10), .int (nI (sz 3))], oO (r 11) 2 [.ref (a 11), .int (nI (sz 3))], aI D (a 9) 16 (rvF (mpF (fun z => len - z) (f 9) (sz 3)) (sz 3)), aI D (a 10) 16 (rvF (f 10) (sz 3)), aI D (a 11) 16 (teF (f 11) (sz 3))] H := hP
  have hD : va_D A [aL D ou 1 wf, oO xo 5 [.ref lc, .ref lt, .ref bo, .ref yo, .ref no], oO lc 7 [.int m1, .ref ec, .int (nI nC)], aO D ec 10 (lsF cl nC), oO (cl c0) 0 [.int len, .ref ta, .ref (q 0), .ref (q 1)], aT D ta 4 (tkF t), oO (q 0) 2 [.ref (b 0), .int (nI nc)], oO (q 1) 2 [.ref (b 1), .int (nI nc)], aI D (b 0) 8 (rvF (mpF (fun z => len - z) ct nc) nc), aI D (b 1) 8 (rvF cn nc), oO (t 0) 4 [.ref (r 0), .ref (r 1), .ref (r 2)], oO (r 0) 2 [.ref (a 0), .int (nI (sz 0))], oO (r 1) 2 [.ref (a 1), .int (nI (sz 0))], oO (r 2) 2 [.ref (a 2), .int (nI (sz 0))], aI D (a 0) 16 (rvF (mpF (fun z => len - z) (f 0) (sz 0)) (sz 0)), aI D (a 1) 16 (rvF (f 1) (sz 0)), aI D (a 2) 16 (teF (f 2) (sz 0)), oO (t 1) 4 [.ref (r 3), .ref (r 4), .ref (r 5)], oO (r 3) 2 [.ref (a 3), .int (nI (sz 1))], oO (r 4) 2 [.ref (a 4), .int (nI (sz 1))], oO (r 5) 2 [.ref (a 5), .int (nI (sz 1))], aI D (a 3) 16 (rvF (mpF (fun z => len - z) (f 3) (sz 1)) (sz 1)), aI D (a 4) 16 (rvF (f 4) (sz 1)), aI D (a 5) 16 (teF (f 5) (sz 1)), oO (t 2) 4 [.ref (r 6), .ref (r 7), .ref (r 8)], oO (r 6) 2 [.ref (a 6), .int (nI (sz 2))], oO (r 7) 2 [.ref (a 7), .int (nI (sz 2))], oO (r 8) 2 [.ref (a 8), .int (nI (sz 2))], aI D (a 6) 16 (rvF (mpF (fun z => len - z) (f 6) (sz 2)) (sz 2)), aI D (a 7) 16 (rvF (f 7) (sz 2)), aI D (a 8) 16 (teF (f 8) (sz 2)), oO (t 3) 4 [.ref (r 9), .ref (r 10), .ref (r 11)], oO (r 9) 2 [.ref (a 9), .int (nI (sz 3))], oO (r 10) 2 [.ref (a 10), .int (nI (sz 3))], oO (r 11) 2 [.ref (a 11), .int (nI (sz 3))], aI D (a 9) 16 (rvF (mpF (fun z => len - z) (f 9) (sz 3)) (sz 3)), aI D (a 10) 16 (rvF (f 10) (sz 3)), aI D (a 11) 16 (teF (f 11) (sz 3))] := hD
  obtain rfl : len = r4 := Eq.symm h4
  refine lv_i2l hx hb dL_mirror_7 rfl ?_
  refine lst (n := 1) (j := 0) hx hb hG hP hD hS 0 rfl (by omega) (by omega) dL_mirror_8 (fun H locs hP hD hS => ?_)
  have hP : va_P D cls [aL D ou 1 (vp_updL wf 0 len.toInt64), oO xo 5 [.ref lc, .ref lt, .ref bo, .ref yo, .ref no], oO lc 7 [.int m1, .ref ec, .int (nI nC)], aO D ec 10 (lsF cl nC), oO (cl c0) 0 [.int len, .ref ta, .ref (q 0), .ref (q 1)], aT D ta 4 (tkF t), oO (q 0) 2 [.ref (b 0), .int (nI nc)], oO (q 1) 2 [.ref (b 1), .int (nI nc)], aI D (b 0) 8 (rvF (mpF (fun z => len - z) ct nc) nc), aI D (b 1) 8 (rvF cn nc), oO (t 0) 4 [.ref (r 0), .ref (r 1), .ref (r 2)], oO (r 0) 2 [.ref (a 0), .int (nI (sz 0))], oO (r 1) 2 [.ref (a 1), .int (nI (sz 0))], oO (r 2) 2 [.ref (a 2), .int (nI (sz 0))], aI D (a 0) 16 (rvF (mpF (fun z => len - z) (f 0) (sz 0)) (sz 0)), aI D (a 1) 16 (rvF (f 1) (sz 0)), aI D (a 2) 16 (teF (f 2) (sz 0)), oO (t 1) 4 [.ref (r 3), .ref (r 4), .ref (r 5)], oO (r 3) 2 [.ref (a 3), .int (nI (sz 1))], oO (r 4) 2 [.ref (a 4), .int (nI (sz 1))], oO (r 5) 2 [.ref (a 5), .int (nI (sz 1))], aI D (a 3) 16 (rvF (mpF (fun z => len - z) (f 3) (sz 1)) (sz 1)), aI D (a 4) 16 (rvF (f 4) (sz 1)), aI D (a 5) 16 (teF (f 5) (sz 1)), oO (t 2) 4 [.ref (r 6), .ref (r 7), .ref (r 8)], oO (r 6) 2 [.ref (a 6), .int (nI (sz 2))], oO (r 7) 2 [.ref (a 7), .int (nI (sz 2))], oO (r 8) 2 [.ref (a 8), .int (nI (sz 2))], aI D (a 6) 16 (rvF (mpF (fun z => len - z) (f 6) (sz 2)) (sz 2)), aI D (a 7) 16 (rvF (f 7) (sz 2)), aI D (a 8) 16 (teF (f 8) (sz 2)), oO (t 3) 4 [.ref (r 9), .ref (r 10), .ref (r 11)], oO (r 9) 2 [.ref (a 9), .int (nI (sz 3))], oO (r 10) 2 [.ref (a 10), .int (nI (sz 3))], oO (r 11) 2 [.ref (a 11), .int (nI (sz 3))], aI D (a 9) 16 (rvF (mpF (fun z => len - z) (f 9) (sz 3)) (sz 3)), aI D (a 10) 16 (rvF (f 10) (sz 3)), aI D (a 11) 16 (teF (f 11) (sz 3))] H := hP
  have hD : va_D A [aL D ou 1 (vp_updL wf 0 len.toInt64), oO xo 5 [.ref lc, .ref lt, .ref bo, .ref yo, .ref no], oO lc 7 [.int m1, .ref ec, .int (nI nC)], aO D ec 10 (lsF cl nC), oO (cl c0) 0 [.int len, .ref ta, .ref (q 0), .ref (q 1)], aT D ta 4 (tkF t), oO (q 0) 2 [.ref (b 0), .int (nI nc)], oO (q 1) 2 [.ref (b 1), .int (nI nc)], aI D (b 0) 8 (rvF (mpF (fun z => len - z) ct nc) nc), aI D (b 1) 8 (rvF cn nc), oO (t 0) 4 [.ref (r 0), .ref (r 1), .ref (r 2)], oO (r 0) 2 [.ref (a 0), .int (nI (sz 0))], oO (r 1) 2 [.ref (a 1), .int (nI (sz 0))], oO (r 2) 2 [.ref (a 2), .int (nI (sz 0))], aI D (a 0) 16 (rvF (mpF (fun z => len - z) (f 0) (sz 0)) (sz 0)), aI D (a 1) 16 (rvF (f 1) (sz 0)), aI D (a 2) 16 (teF (f 2) (sz 0)), oO (t 1) 4 [.ref (r 3), .ref (r 4), .ref (r 5)], oO (r 3) 2 [.ref (a 3), .int (nI (sz 1))], oO (r 4) 2 [.ref (a 4), .int (nI (sz 1))], oO (r 5) 2 [.ref (a 5), .int (nI (sz 1))], aI D (a 3) 16 (rvF (mpF (fun z => len - z) (f 3) (sz 1)) (sz 1)), aI D (a 4) 16 (rvF (f 4) (sz 1)), aI D (a 5) 16 (teF (f 5) (sz 1)), oO (t 2) 4 [.ref (r 6), .ref (r 7), .ref (r 8)], oO (r 6) 2 [.ref (a 6), .int (nI (sz 2))], oO (r 7) 2 [.ref (a 7), .int (nI (sz 2))], oO (r 8) 2 [.ref (a 8), .int (nI (sz 2))], aI D (a 6) 16 (rvF (mpF (fun z => len - z) (f 6) (sz 2)) (sz 2)), aI D (a 7) 16 (rvF (f 7) (sz 2)), aI D (a 8) 16 (teF (f 8) (sz 2)), oO (t 3) 4 [.ref (r 9), .ref (r 10), .ref (r 11)], oO (r 9) 2 [.ref (a 9), .int (nI (sz 3))], oO (r 10) 2 [.ref (a 10), .int (nI (sz 3))], oO (r 11) 2 [.ref (a 11), .int (nI (sz 3))], aI D (a 9) 16 (rvF (mpF (fun z => len - z) (f 9) (sz 3)) (sz 3)), aI D (a 10) 16 (rvF (f 10) (sz 3)), aI D (a 11) 16 (teF (f 11) (sz 3))] := hD
  refine lv_goto (tgt := 15) hx hb dL_mirror_9 (by decide) ?_
  refine lv_iconst (v := 0) hx hb dL_mirror_15 (by decide) ?_
  refine Wi () hx hb hr hlk ?_ (hP.sub [1, 2, 3, 4, 5, 6, 7, 8, 9, 10, 11, 12, 13, 14, 15, 16, 17, 18, 19, 20, 21, 22, 23, 24, 25, 26, 27, 28, 29, 30, 31, 32, 33, 34, 35, 36, 37, 0] rfl) (hD.sub [1, 2, 3, 4, 5, 6, 7, 8, 9, 10, 11, 12, 13, 14, 15, 16, 17, 18, 19, 20, 21, 22, 23, 24, 25, 26, 27, 28, 29, 30, 31, 32, 33, 34, 35, 36, 37, 0] (by decide) rfl) hS (Nat.le_of_ble_eq_true rfl) (by first | exact Nat.le_of_ble_eq_true rfl | exact Nat.le_of_eq (Nat.zero_add _)) dL_mirror_16
  exact rfl
set_option maxHeartbeats 400000 in
set_option maxRecDepth 100000 in
theorem h_retime_1 (l : Launch) (D : va_G) (hns : l.stackTraces = false) {xo lc lt bo yo no : Nat} {ec nC : Nat} {m1 : Int32} {x p1 q1 : Int32} {ou : Nat} (hz0 : Nat) (hnC : nC ≤ 6) (hxx : x < 0 ∨ nI nC ≤ x) : Met l yL_retime (wsW_ yL_retime cL_retime 6 (some .int) [(0, 12, 15, 21), (0, 12, 19, 13), (0, 12, 23, 15)]) ({ frames := 7, cells := 1, slots := 6, locals := 126 } : Room) (va_Pc [.ref xo, .int x, .int p1, .int q1, .ref ou] (TW D [oO xo 5 [.ref lc, .ref lt, .ref bo, .ref yo, .ref no], oO lc 7 [.int m1, .ref ec, .int (nI nC)]] hz0)) (va_Qi (fun r (_ : Unit) => r = 1) (fun _ _ => True) (va_A [] hz0)) 1 6 (va_A [] hz0) := by
  refine va_MetW (hh := [(0, 12, 15, 21), (0, 12, 19, 13), (0, 12, 23, 15)]) (cc := cL_retime) (maxL := 6) (ret := (some .int)) (by decide +kernel) rfl ?_
  intro p e s m args below meth c s₁ B hml hv
  obtain ⟨rfl, hsz, hG, hP, hZ⟩ := hv
  subst hsz
  have hx := B.exec
  have hb := B.bytes
  have hr := B.returns
  have hts : ∀ w ∈ wsL_law, w.before _ s = true := fun w h => atoms_spec (ws := (wsW_ yL_retime cL_retime 6 (some .int) [(0, 12, 15, 21), (0, 12, 19, 13), (0, 12, 23, 15)])) B.pre w (List.mem_cons_of_mem _ (wsL2_in w h))
  have hk15 : (Cond.classLink RL 15 "java/lang/IllegalStateException").before _ s = true := atoms_spec (ws := (wsW_ yL_retime cL_retime 6 (some .int) [(0, 12, 15, 21), (0, 12, 19, 13), (0, 12, 23, 15)])) B.pre _ (List.mem_cons_of_mem _ List.mem_cons_self)
  have hown : s.vm.findClass RL = some m.cls := findClass_of_methodNamed B.named
  have hlk := B.notSynchronized
  have hC : CallFix p m c cL_retime 6 s _ wsL_law RL := ⟨hx, hb, hml, hown, hts⟩
  have hS : va_S (va_A [] s.heap.size) s.heap s.heap [] := va_S.rf
  have hl := lv_entry ([.ref xo, .int x, .int p1, .int q1, .ref ou]) (n := 6) (Nat.le_of_ble_eq_true rfl)
  rw [lg_entry_eq]
  generalize (lg_sl ([.ref xo, .int x, .int p1, .int q1, .ref ou]) ++ List.replicate (6 - (lg_sl ([.ref xo, .int x, .int p1, .int q1, .ref ou])).length) Slot.unset).toArray = ls at hl ⊢
  have hl : lv_has ls 6 [(0, .ref xo), (1, .int x), (2, .int p1), (3, .int q1), (4, .ref ou)] := hl
  refine lv_aload hx hb dL_retime_0 (lv_at hl 4 rfl) ?_
  refine lv_iconst (v := 0) hx hb dL_retime_2 (by decide) ?_
  refine lv_aload_n hx hb dL_retime_3 rfl (lv_at hl 0 rfl) ?_
  refine lv_iload_n hx hb dL_retime_4 rfl (lv_at hl 1 rfl) ?_
  refine lv_iload_n hx hb dL_retime_5 rfl (lv_at hl 2 rfl) ?_
  refine lv_iload_n hx hb dL_retime_6 rfl (lv_at hl 3 rfl) ?_
  have hP9 := hP.sub (ws' := [oO xo 5 [.ref lc, .ref lt, .ref bo, .ref yo, .ref no], oO lc 7 [.int m1, .ref ec, .int (nI nC)]]) [0, 1] rfl
  refine vx_calli (A0 := va_A [] s.heap.size) (rX (rest := [.int 0, .ref ou]) (qc := (RX5, TX5, 5)) [.int x, .int p1, .int q1] 3 hC (t_retime_1 l D hns (xo := xo) (lc := lc) (lt := lt) (bo := bo) (yo := yo) (no := no) (ec := ec) (nC := nC) (m1 := m1) (x := x) (p1 := p1) (q1 := q1) (hz0 := s.heap.size) (hnC) (hxx)) rfl (hP 0 _ rfl) (gV mM_L_50 mI_X5_retime mS_X5_retime mN_X5 mC_X5_retime) (by decide +kernel) rfl rfl ⟨Nat.le_of_ble_eq_true rfl, Nat.le_of_ble_eq_true rfl⟩ hG hP9 hZ rfl hl.1 rfl (Nat.le_of_ble_eq_true rfl) dL_retime_7 ⟨Nat.le_of_ble_eq_true rfl, Nat.le_of_ble_eq_true rfl⟩) hS (fun q _ h => h) (fun q h => h) (fun q _ h => h) (fun E ce q9 u9 t H1 locs1 ht hvm hp9 hB hz hk hS1 hce hcv hcl => ?_) (fun r u t H1 locs1 ht hvm hp9 _ _ _ _ => hp9.elim)
  obtain rfl : E = "java/lang/IndexOutOfBoundsException" := hB
  have htb := vx_table (x := yL_retime) B (hts _ mW_L_retime)
  refine vx_catch (own := RL) (name := "java/lang/IndexOutOfBoundsException") (pc := 7) (rest := [.int 0, .ref ou]) hown [] ⟨0, 12, 15, 21⟩ [⟨0, 12, 19, 13⟩, ⟨0, 12, 23, 15⟩] (by rw [htb]; rfl) (fun z hz9 => absurd hz9 List.not_mem_nil) rfl (by decide) (hts _ mK_L_21) (va_Nw.use rfl (gkC hG 4 rfl)) hce hcv hcl ?_
  refine lv_astore (lv' := [(5, .ref q9), (0, .ref xo), (1, .int x), (2, .int p1), (3, .int q1), (4, .ref ou)]) hx hb dL_retime_15 hl (by decide) rfl (fun ls hl => ?_)
  refine lv_iconst (v := 1) hx hb dL_retime_17 (by decide) ?_
  exact W.iret (v := 1) hx hb hr (fun t ht _ => ⟨⟨_, (), rfl, rfl, trivial⟩, hS1.F ht⟩) hS1.2.2 dL_retime_18 hlk
set_option maxHeartbeats 400000 in
set_option maxRecDepth 100000 in
theorem h_retime_2 (l : Launch) (D : va_G) (hns : l.stackTraces = false) {xo lc lt bo yo no : Nat} {ec nC c0 : Nat} {m1 : Int32} {cl : Nat → Nat} {ta : Nat} {len : Int32} {q t : Nat → Nat} {p1 q1 : Int32} {ou : Nat} (hz0 : Nat) (hnC : nC ≤ 6) (hc : c0 < nC) (h : ¬ ((1 ≤ p1 ∧ p1 ≤ 20) ∧ (1 ≤ q1 ∧ q1 ≤ 20))) : Met l yL_retime (wsW_ yL_retime cL_retime 6 (some .int) [(0, 12, 15, 21), (0, 12, 19, 13), (0, 12, 23, 15)]) ({ frames := 7, cells := 1, slots := 6, locals := 126 } : Room) (va_Pc [.ref xo, .int (nI c0), .int p1, .int q1, .ref ou] (TW D [oO xo 5 [.ref lc, .ref lt, .ref bo, .ref yo, .ref no], oO lc 7 [.int m1, .ref ec, .int (nI nC)], aO D ec 10 (lsF cl nC), oO (cl c0) 0 [.int len, .ref ta, .ref (q 0), .ref (q 1)]] hz0)) (va_Qi (fun r (_ : Unit) => r = 2) (fun _ _ => True) (va_A [] hz0)) 1 6 (va_A [] hz0) := by
  refine va_MetW (hh := [(0, 12, 15, 21), (0, 12, 19, 13), (0, 12, 23, 15)]) (cc := cL_retime) (maxL := 6) (ret := (some .int)) (by decide +kernel) rfl ?_
  intro p e s m args below meth c s₁ B hml hv
  obtain ⟨rfl, hsz, hG, hP, hZ⟩ := hv
  subst hsz
  have hx := B.exec
  have hb := B.bytes
  have hr := B.returns
  have hts : ∀ w ∈ wsL_law, w.before _ s = true := fun w h => atoms_spec (ws := (wsW_ yL_retime cL_retime 6 (some .int) [(0, 12, 15, 21), (0, 12, 19, 13), (0, 12, 23, 15)])) B.pre w (List.mem_cons_of_mem _ (wsL2_in w h))
  have hk15 : (Cond.classLink RL 15 "java/lang/IllegalStateException").before _ s = true := atoms_spec (ws := (wsW_ yL_retime cL_retime 6 (some .int) [(0, 12, 15, 21), (0, 12, 19, 13), (0, 12, 23, 15)])) B.pre _ (List.mem_cons_of_mem _ List.mem_cons_self)
  have hown : s.vm.findClass RL = some m.cls := findClass_of_methodNamed B.named
  have hlk := B.notSynchronized
  have hC : CallFix p m c cL_retime 6 s _ wsL_law RL := ⟨hx, hb, hml, hown, hts⟩
  have hS : va_S (va_A [] s.heap.size) s.heap s.heap [] := va_S.rf
  have hl := lv_entry ([.ref xo, .int (nI c0), .int p1, .int q1, .ref ou]) (n := 6) (Nat.le_of_ble_eq_true rfl)
  rw [lg_entry_eq]
  generalize (lg_sl ([.ref xo, .int (nI c0), .int p1, .int q1, .ref ou]) ++ List.replicate (6 - (lg_sl ([.ref xo, .int (nI c0), .int p1, .int q1, .ref ou])).length) Slot.unset).toArray = ls at hl ⊢
  have hl : lv_has ls 6 [(0, .ref xo), (1, .int (nI c0)), (2, .int p1), (3, .int q1), (4, .ref ou)] := hl
  refine lv_aload hx hb dL_retime_0 (lv_at hl 4 rfl) ?_
  refine lv_iconst (v := 0) hx hb dL_retime_2 (by decide) ?_
  refine lv_aload_n hx hb dL_retime_3 rfl (lv_at hl 0 rfl) ?_
  refine lv_iload_n hx hb dL_retime_4 rfl (lv_at hl 1 rfl) ?_
  refine lv_iload_n hx hb dL_retime_5 rfl (lv_at hl 2 rfl) ?_
  refine lv_iload_n hx hb dL_retime_6 rfl (lv_at hl 3 rfl) ?_
  have hP9 := hP.sub (ws' := [oO xo 5 [.ref lc, .ref lt, .ref bo, .ref yo, .ref no], oO lc 7 [.int m1, .ref ec, .int (nI nC)], aO D ec 10 (lsF cl nC), oO (cl c0) 0 [.int len, .ref ta, .ref (q 0), .ref (q 1)]]) [0, 1, 2, 3] rfl
  refine vx_calli (A0 := va_A [] s.heap.size) (rX (rest := [.int 0, .ref ou]) (qc := (RX5, TX5, 5)) [.int (nI c0), .int p1, .int q1] 3 hC (t_retime_2 l D hns (xo := xo) (lc := lc) (lt := lt) (bo := bo) (yo := yo) (no := no) (ec := ec) (nC := nC) (c0 := c0) (m1 := m1) (cl := cl) (ta := ta) (len := len) (q := q) (t := t) (p1 := p1) (q1 := q1) (hz0 := s.heap.size) (hnC) (hc) (h)) rfl (hP 0 _ rfl) (gV mM_L_50 mI_X5_retime mS_X5_retime mN_X5 mC_X5_retime) (by decide +kernel) rfl rfl ⟨Nat.le_of_ble_eq_true rfl, Nat.le_of_ble_eq_true rfl⟩ hG hP9 hZ rfl hl.1 rfl (Nat.le_of_ble_eq_true rfl) dL_retime_7 ⟨Nat.le_of_ble_eq_true rfl, Nat.le_of_ble_eq_true rfl⟩) hS (fun q _ h => h) (fun q h => h) (fun q _ h => h) (fun E ce q9 u9 t H1 locs1 ht hvm hp9 hB hz hk hS1 hce hcv hcl => ?_) (fun r u t H1 locs1 ht hvm hp9 _ _ _ _ => hp9.elim)
  obtain rfl : E = "java/lang/IllegalArgumentException" := hB
  have htb := vx_table (x := yL_retime) B (hts _ mW_L_retime)
  refine vx_catch (own := RL) (name := "java/lang/IllegalArgumentException") (pc := 7) (rest := [.int 0, .ref ou]) hown [⟨0, 12, 15, 21⟩] ⟨0, 12, 19, 13⟩ [⟨0, 12, 23, 15⟩] (by rw [htb]; rfl) (fun z hz9 => by
    simp only [List.mem_cons, List.not_mem_nil, or_false] at hz9
    rcases hz9 with rfl
    · exact Or.inr ⟨by decide, _, hts _ mK_L_21, gkN hG 1 rfl⟩) rfl (by decide) (hts _ mK_L_13) (va_Nw.use rfl (gkC hG 2 rfl)) hce hcv hcl ?_
  refine lv_astore (lv' := [(5, .ref q9), (0, .ref xo), (1, .int (nI c0)), (2, .int p1), (3, .int q1), (4, .ref ou)]) hx hb dL_retime_19 hl (by decide) rfl (fun ls hl => ?_)
  refine lv_iconst (v := 2) hx hb dL_retime_21 (by decide) ?_
  exact W.iret (v := 2) hx hb hr (fun t ht _ => ⟨⟨_, (), rfl, rfl, trivial⟩, hS1.F ht⟩) hS1.2.2 dL_retime_22 hlk
set_option maxHeartbeats 400000 in
set_option maxRecDepth 100000 in
theorem h_retime_3 (l : Launch) (D : va_G) (hns : l.stackTraces = false) {xo lc lt bo yo no : Nat} {ec nC c0 : Nat} {m1 : Int32} {cl : Nat → Nat} {ta nc : Nat} {len : Int32} {q b t r a sz : Nat → Nat} {ct cn : Nat → Int32} {f : Nat → Nat → Int32} {p1 q1 : Int32} {ou : Nat} (hz0 : Nat) (hnC : nC ≤ 6) (hc : c0 < nC) (hs0 : sz 0 ≤ 16) (hs1 : sz 1 ≤ 16) (hs2 : sz 2 ≤ 16) (hs3 : sz 3 ≤ 16) (h : (1 ≤ p1 ∧ p1 ≤ 20) ∧ (1 ≤ q1 ∧ q1 ≤ 20)) (hz : ¬ ((∀ k, k + 1 < sz 0 → ¬ f 0 k * p1 / q1 = f 0 (k + 1) * p1 / q1) ∧ (∀ k, k + 1 < sz 1 → ¬ f 3 k * p1 / q1 = f 3 (k + 1) * p1 / q1) ∧ (∀ k, k + 1 < sz 2 → ¬ f 6 k * p1 / q1 = f 6 (k + 1) * p1 / q1) ∧ (∀ k, k + 1 < sz 3 → ¬ f 9 k * p1 / q1 = f 9 (k + 1) * p1 / q1) ∧ (1 ≤ len * p1 / q1 ∧ len * p1 / q1 ≤ 2000))) : Met l yL_retime (wsW_ yL_retime cL_retime 6 (some .int) [(0, 12, 15, 21), (0, 12, 19, 13), (0, 12, 23, 15)]) ({ frames := 7, cells := 1, slots := 6, locals := 126 } : Room) (va_Pc [.ref xo, .int (nI c0), .int p1, .int q1, .ref ou] (TW D [oO xo 5 [.ref lc, .ref lt, .ref bo, .ref yo, .ref no], oO lc 7 [.int m1, .ref ec, .int (nI nC)], aO D ec 10 (lsF cl nC), oO (cl c0) 0 [.int len, .ref ta, .ref (q 0), .ref (q 1)], aT D ta 4 (tkF t), oO (q 0) 2 [.ref (b 0), .int (nI nc)], oO (q 1) 2 [.ref (b 1), .int (nI nc)], aI D (b 0) 8 ct, aI D (b 1) 8 cn, oO (t 0) 4 [.ref (r 0), .ref (r 1), .ref (r 2)], oO (r 0) 2 [.ref (a 0), .int (nI (sz 0))], oO (r 1) 2 [.ref (a 1), .int (nI (sz 0))], oO (r 2) 2 [.ref (a 2), .int (nI (sz 0))], aI D (a 0) 16 (f 0), aI D (a 1) 16 (f 1), aI D (a 2) 16 (f 2), oO (t 1) 4 [.ref (r 3), .ref (r 4), .ref (r 5)], oO (r 3) 2 [.ref (a 3), .int (nI (sz 1))], oO (r 4) 2 [.ref (a 4), .int (nI (sz 1))], oO (r 5) 2 [.ref (a 5), .int (nI (sz 1))], aI D (a 3) 16 (f 3), aI D (a 4) 16 (f 4), aI D (a 5) 16 (f 5), oO (t 2) 4 [.ref (r 6), .ref (r 7), .ref (r 8)], oO (r 6) 2 [.ref (a 6), .int (nI (sz 2))], oO (r 7) 2 [.ref (a 7), .int (nI (sz 2))], oO (r 8) 2 [.ref (a 8), .int (nI (sz 2))], aI D (a 6) 16 (f 6), aI D (a 7) 16 (f 7), aI D (a 8) 16 (f 8), oO (t 3) 4 [.ref (r 9), .ref (r 10), .ref (r 11)], oO (r 9) 2 [.ref (a 9), .int (nI (sz 3))], oO (r 10) 2 [.ref (a 10), .int (nI (sz 3))], oO (r 11) 2 [.ref (a 11), .int (nI (sz 3))], aI D (a 9) 16 (f 9), aI D (a 10) 16 (f 10), aI D (a 11) 16 (f 11)] hz0)) (va_Qi (fun r (_ : Unit) => r = 3) (fun _ _ => True) (va_A [] hz0)) 1 6 (va_A [] hz0) := by
  refine va_MetW (hh := [(0, 12, 15, 21), (0, 12, 19, 13), (0, 12, 23, 15)]) (cc := cL_retime) (maxL := 6) (ret := (some .int)) (by decide +kernel) rfl ?_
  intro p e s m args below meth c s₁ B hml hv
  obtain ⟨rfl, hsz, hG, hP, hZ⟩ := hv
  subst hsz
  have hx := B.exec
  have hb := B.bytes
  have hr := B.returns
  have hts : ∀ w ∈ wsL_law, w.before _ s = true := fun w h => atoms_spec (ws := (wsW_ yL_retime cL_retime 6 (some .int) [(0, 12, 15, 21), (0, 12, 19, 13), (0, 12, 23, 15)])) B.pre w (List.mem_cons_of_mem _ (wsL2_in w h))
  have hk15 : (Cond.classLink RL 15 "java/lang/IllegalStateException").before _ s = true := atoms_spec (ws := (wsW_ yL_retime cL_retime 6 (some .int) [(0, 12, 15, 21), (0, 12, 19, 13), (0, 12, 23, 15)])) B.pre _ (List.mem_cons_of_mem _ List.mem_cons_self)
  have hown : s.vm.findClass RL = some m.cls := findClass_of_methodNamed B.named
  have hlk := B.notSynchronized
  have hC : CallFix p m c cL_retime 6 s _ wsL_law RL := ⟨hx, hb, hml, hown, hts⟩
  have hS : va_S (va_A [] s.heap.size) s.heap s.heap [] := va_S.rf
  have hl := lv_entry ([.ref xo, .int (nI c0), .int p1, .int q1, .ref ou]) (n := 6) (Nat.le_of_ble_eq_true rfl)
  rw [lg_entry_eq]
  generalize (lg_sl ([.ref xo, .int (nI c0), .int p1, .int q1, .ref ou]) ++ List.replicate (6 - (lg_sl ([.ref xo, .int (nI c0), .int p1, .int q1, .ref ou])).length) Slot.unset).toArray = ls at hl ⊢
  have hl : lv_has ls 6 [(0, .ref xo), (1, .int (nI c0)), (2, .int p1), (3, .int q1), (4, .ref ou)] := hl
  refine lv_aload hx hb dL_retime_0 (lv_at hl 4 rfl) ?_
  refine lv_iconst (v := 0) hx hb dL_retime_2 (by decide) ?_
  refine lv_aload_n hx hb dL_retime_3 rfl (lv_at hl 0 rfl) ?_
  refine lv_iload_n hx hb dL_retime_4 rfl (lv_at hl 1 rfl) ?_
  refine lv_iload_n hx hb dL_retime_5 rfl (lv_at hl 2 rfl) ?_
  refine lv_iload_n hx hb dL_retime_6 rfl (lv_at hl 3 rfl) ?_
  have hP9 := hP.sub (ws' := [oO xo 5 [.ref lc, .ref lt, .ref bo, .ref yo, .ref no], oO lc 7 [.int m1, .ref ec, .int (nI nC)], aO D ec 10 (lsF cl nC), oO (cl c0) 0 [.int len, .ref ta, .ref (q 0), .ref (q 1)], aT D ta 4 (tkF t), oO (q 0) 2 [.ref (b 0), .int (nI nc)], oO (q 1) 2 [.ref (b 1), .int (nI nc)], aI D (b 0) 8 ct, aI D (b 1) 8 cn, oO (t 0) 4 [.ref (r 0), .ref (r 1), .ref (r 2)], oO (r 0) 2 [.ref (a 0), .int (nI (sz 0))], oO (r 1) 2 [.ref (a 1), .int (nI (sz 0))], oO (r 2) 2 [.ref (a 2), .int (nI (sz 0))], aI D (a 0) 16 (f 0), aI D (a 1) 16 (f 1), aI D (a 2) 16 (f 2), oO (t 1) 4 [.ref (r 3), .ref (r 4), .ref (r 5)], oO (r 3) 2 [.ref (a 3), .int (nI (sz 1))], oO (r 4) 2 [.ref (a 4), .int (nI (sz 1))], oO (r 5) 2 [.ref (a 5), .int (nI (sz 1))], aI D (a 3) 16 (f 3), aI D (a 4) 16 (f 4), aI D (a 5) 16 (f 5), oO (t 2) 4 [.ref (r 6), .ref (r 7), .ref (r 8)], oO (r 6) 2 [.ref (a 6), .int (nI (sz 2))], oO (r 7) 2 [.ref (a 7), .int (nI (sz 2))], oO (r 8) 2 [.ref (a 8), .int (nI (sz 2))], aI D (a 6) 16 (f 6), aI D (a 7) 16 (f 7), aI D (a 8) 16 (f 8), oO (t 3) 4 [.ref (r 9), .ref (r 10), .ref (r 11)], oO (r 9) 2 [.ref (a 9), .int (nI (sz 3))], oO (r 10) 2 [.ref (a 10), .int (nI (sz 3))], oO (r 11) 2 [.ref (a 11), .int (nI (sz 3))], aI D (a 9) 16 (f 9), aI D (a 10) 16 (f 10), aI D (a 11) 16 (f 11)]) [0, 1, 2, 3, 4, 5, 6, 7, 8, 9, 10, 11, 12, 13, 14, 15, 16, 17, 18, 19, 20, 21, 22, 23, 24, 25, 26, 27, 28, 29, 30, 31, 32, 33, 34, 35, 36] rfl
  refine vx_calli (A0 := va_A [] s.heap.size) (rX (rest := [.int 0, .ref ou]) (qc := (RX5, TX5, 5)) [.int (nI c0), .int p1, .int q1] 3 hC (t_retime_3 l D hns (xo := xo) (lc := lc) (lt := lt) (bo := bo) (yo := yo) (no := no) (ec := ec) (nC := nC) (c0 := c0) (m1 := m1) (cl := cl) (ta := ta) (nc := nc) (len := len) (q := q) (b := b) (t := t) (r := r) (a := a) (sz := sz) (ct := ct) (cn := cn) (f := f) (p1 := p1) (q1 := q1) (hz0 := s.heap.size) (hnC) (hc) (hs0) (hs1) (hs2) (hs3) (h) (hz)) rfl (hP 0 _ rfl) (gV mM_L_50 mI_X5_retime mS_X5_retime mN_X5 mC_X5_retime) (by decide +kernel) rfl rfl ⟨Nat.le_of_ble_eq_true rfl, Nat.le_of_ble_eq_true rfl⟩ hG hP9 hZ rfl hl.1 rfl (Nat.le_of_ble_eq_true rfl) dL_retime_7 ⟨Nat.le_of_ble_eq_true rfl, Nat.le_of_ble_eq_true rfl⟩) hS (fun q _ h => h) (fun q h => h) (fun q _ h => h) (fun E ce q9 u9 t H1 locs1 ht hvm hp9 hB hz hk hS1 hce hcv hcl => ?_) (fun r u t H1 locs1 ht hvm hp9 _ _ _ _ => hp9.elim)
  obtain rfl : E = "java/lang/IllegalStateException" := hB
  have htb := vx_table (x := yL_retime) B (hts _ mW_L_retime)
  refine vx_catch (own := RL) (name := "java/lang/IllegalStateException") (pc := 7) (rest := [.int 0, .ref ou]) hown [⟨0, 12, 15, 21⟩, ⟨0, 12, 19, 13⟩] ⟨0, 12, 23, 15⟩ [] (by rw [htb]; rfl) (fun z hz9 => by
    simp only [List.mem_cons, List.not_mem_nil, or_false] at hz9
    rcases hz9 with rfl | rfl
    · exact Or.inr ⟨by decide, _, hts _ mK_L_21, gkN hG 3 rfl⟩
    · exact Or.inr ⟨by decide, _, hts _ mK_L_13, gkN hG 2 rfl⟩) rfl (by decide) (hk15) (va_Nw.use rfl (gkC hG 3 rfl)) hce hcv hcl ?_
  refine lv_astore (lv' := [(5, .ref q9), (0, .ref xo), (1, .int (nI c0)), (2, .int p1), (3, .int q1), (4, .ref ou)]) hx hb dL_retime_23 hl (by decide) rfl (fun ls hl => ?_)
  refine lv_iconst (v := 3) hx hb dL_retime_25 (by decide) ?_
  exact W.iret (v := 3) hx hb hr (fun t ht _ => ⟨⟨_, (), rfl, rfl, trivial⟩, hS1.F ht⟩) hS1.2.2 dL_retime_26 hlk
set_option maxHeartbeats 400000 in
set_option maxRecDepth 100000 in
theorem l_retime (l : Launch) (D : va_G) {xo lc lt bo yo no : Nat} {ec nC c0 : Nat} {m1 : Int32} {cl : Nat → Nat} {ta nc : Nat} {len : Int32} {q b t r a sz : Nat → Nat} {ct cn : Nat → Int32} {f : Nat → Nat → Int32} {p1 q1 : Int32} {ou : Nat} {wf : Nat → Int64} (hz0 : Nat) (hnC : nC ≤ 6) (hc : c0 < nC) (hs0 : sz 0 ≤ 16) (hs1 : sz 1 ≤ 16) (hs2 : sz 2 ≤ 16) (hs3 : sz 3 ≤ 16) (hn : nc ≤ 8) (h : (1 ≤ p1 ∧ p1 ≤ 20) ∧ (1 ≤ q1 ∧ q1 ≤ 20)) (hz : (∀ k, k + 1 < sz 0 → ¬ f 0 k * p1 / q1 = f 0 (k + 1) * p1 / q1) ∧ (∀ k, k + 1 < sz 1 → ¬ f 3 k * p1 / q1 = f 3 (k + 1) * p1 / q1) ∧ (∀ k, k + 1 < sz 2 → ¬ f 6 k * p1 / q1 = f 6 (k + 1) * p1 / q1) ∧ (∀ k, k + 1 < sz 3 → ¬ f 9 k * p1 / q1 = f 9 (k + 1) * p1 / q1) ∧ (1 ≤ len * p1 / q1 ∧ len * p1 / q1 ≤ 2000)) : Met l yL_retime (wsW_ yL_retime cL_retime 6 (some .int) [(0, 12, 15, 21), (0, 12, 19, 13), (0, 12, 23, 15)]) ({ frames := 7, cells := 0, slots := 0, locals := 126 } : Room) (va_Pc [.ref xo, .int (nI c0), .int p1, .int q1, .ref ou] (SW D [oO xo 5 [.ref lc, .ref lt, .ref bo, .ref yo, .ref no], oO lc 7 [.int m1, .ref ec, .int (nI nC)], aO D ec 10 (lsF cl nC), oO (cl c0) 0 [.int len, .ref ta, .ref (q 0), .ref (q 1)], aT D ta 4 (tkF t), oO (q 0) 2 [.ref (b 0), .int (nI nc)], oO (q 1) 2 [.ref (b 1), .int (nI nc)], aI D (b 0) 8 ct, aI D (b 1) 8 cn, oO (t 0) 4 [.ref (r 0), .ref (r 1), .ref (r 2)], oO (r 0) 2 [.ref (a 0), .int (nI (sz 0))], oO (r 1) 2 [.ref (a 1), .int (nI (sz 0))], oO (r 2) 2 [.ref (a 2), .int (nI (sz 0))], aI D (a 0) 16 (f 0), aI D (a 1) 16 (f 1), aI D (a 2) 16 (f 2), oO (t 1) 4 [.ref (r 3), .ref (r 4), .ref (r 5)], oO (r 3) 2 [.ref (a 3), .int (nI (sz 1))], oO (r 4) 2 [.ref (a 4), .int (nI (sz 1))], oO (r 5) 2 [.ref (a 5), .int (nI (sz 1))], aI D (a 3) 16 (f 3), aI D (a 4) 16 (f 4), aI D (a 5) 16 (f 5), oO (t 2) 4 [.ref (r 6), .ref (r 7), .ref (r 8)], oO (r 6) 2 [.ref (a 6), .int (nI (sz 2))], oO (r 7) 2 [.ref (a 7), .int (nI (sz 2))], oO (r 8) 2 [.ref (a 8), .int (nI (sz 2))], aI D (a 6) 16 (f 6), aI D (a 7) 16 (f 7), aI D (a 8) 16 (f 8), oO (t 3) 4 [.ref (r 9), .ref (r 10), .ref (r 11)], oO (r 9) 2 [.ref (a 9), .int (nI (sz 3))], oO (r 10) 2 [.ref (a 10), .int (nI (sz 3))], oO (r 11) 2 [.ref (a 11), .int (nI (sz 3))], aI D (a 9) 16 (f 9), aI D (a 10) 16 (f 10), aI D (a 11) 16 (f 11), aL D ou 1 wf] hz0)) (va_Qi (fun r _ => r = 0) (AT D (va_A [oO xo 5 [.ref lc, .ref lt, .ref bo, .ref yo, .ref no], oO lc 7 [.int m1, .ref ec, .int (nI nC)], aO D ec 10 (lsF cl nC), oO (cl c0) 0 [.int len, .ref ta, .ref (q 0), .ref (q 1)], aT D ta 4 (tkF t), oO (q 0) 2 [.ref (b 0), .int (nI nc)], oO (q 1) 2 [.ref (b 1), .int (nI nc)], aI D (b 0) 8 ct, aI D (b 1) 8 cn, oO (t 0) 4 [.ref (r 0), .ref (r 1), .ref (r 2)], oO (r 0) 2 [.ref (a 0), .int (nI (sz 0))], oO (r 1) 2 [.ref (a 1), .int (nI (sz 0))], oO (r 2) 2 [.ref (a 2), .int (nI (sz 0))], aI D (a 0) 16 (f 0), aI D (a 1) 16 (f 1), aI D (a 2) 16 (f 2), oO (t 1) 4 [.ref (r 3), .ref (r 4), .ref (r 5)], oO (r 3) 2 [.ref (a 3), .int (nI (sz 1))], oO (r 4) 2 [.ref (a 4), .int (nI (sz 1))], oO (r 5) 2 [.ref (a 5), .int (nI (sz 1))], aI D (a 3) 16 (f 3), aI D (a 4) 16 (f 4), aI D (a 5) 16 (f 5), oO (t 2) 4 [.ref (r 6), .ref (r 7), .ref (r 8)], oO (r 6) 2 [.ref (a 6), .int (nI (sz 2))], oO (r 7) 2 [.ref (a 7), .int (nI (sz 2))], oO (r 8) 2 [.ref (a 8), .int (nI (sz 2))], aI D (a 6) 16 (f 6), aI D (a 7) 16 (f 7), aI D (a 8) 16 (f 8), oO (t 3) 4 [.ref (r 9), .ref (r 10), .ref (r 11)], oO (r 9) 2 [.ref (a 9), .int (nI (sz 3))], oO (r 10) 2 [.ref (a 10), .int (nI (sz 3))], oO (r 11) 2 [.ref (a 11), .int (nI (sz 3))], aI D (a 9) 16 (f 9), aI D (a 10) 16 (f 10), aI D (a 11) 16 (f 11), aL D ou 1 wf] hz0) (fun _ : Unit => [oO xo 5 [.ref lc, .ref lt, .ref bo, .ref yo, .ref no], oO lc 7 [.int m1, .ref ec, .int (nI nC)], aO D ec 10 (lsF cl nC), oO (cl c0) 0 [.int (len * p1 / q1), .ref ta, .ref (q 0), .ref (q 1)], aT D ta 4 (tkF t), oO (q 0) 2 [.ref (b 0), .int (nI nc)], oO (q 1) 2 [.ref (b 1), .int (nI nc)], aI D (b 0) 8 (mpF (fun z => z * p1 / q1) ct nc), aI D (b 1) 8 cn, oO (t 0) 4 [.ref (r 0), .ref (r 1), .ref (r 2)], oO (r 0) 2 [.ref (a 0), .int (nI (sz 0))], oO (r 1) 2 [.ref (a 1), .int (nI (sz 0))], oO (r 2) 2 [.ref (a 2), .int (nI (sz 0))], aI D (a 0) 16 (mpF (fun z => z * p1 / q1) (f 0) (sz 0)), aI D (a 1) 16 (f 1), aI D (a 2) 16 (f 2), oO (t 1) 4 [.ref (r 3), .ref (r 4), .ref (r 5)], oO (r 3) 2 [.ref (a 3), .int (nI (sz 1))], oO (r 4) 2 [.ref (a 4), .int (nI (sz 1))], oO (r 5) 2 [.ref (a 5), .int (nI (sz 1))], aI D (a 3) 16 (mpF (fun z => z * p1 / q1) (f 3) (sz 1)), aI D (a 4) 16 (f 4), aI D (a 5) 16 (f 5), oO (t 2) 4 [.ref (r 6), .ref (r 7), .ref (r 8)], oO (r 6) 2 [.ref (a 6), .int (nI (sz 2))], oO (r 7) 2 [.ref (a 7), .int (nI (sz 2))], oO (r 8) 2 [.ref (a 8), .int (nI (sz 2))], aI D (a 6) 16 (mpF (fun z => z * p1 / q1) (f 6) (sz 2)), aI D (a 7) 16 (f 7), aI D (a 8) 16 (f 8), oO (t 3) 4 [.ref (r 9), .ref (r 10), .ref (r 11)], oO (r 9) 2 [.ref (a 9), .int (nI (sz 3))], oO (r 10) 2 [.ref (a 10), .int (nI (sz 3))], oO (r 11) 2 [.ref (a 11), .int (nI (sz 3))], aI D (a 9) 16 (mpF (fun z => z * p1 / q1) (f 9) (sz 3)), aI D (a 10) 16 (f 10), aI D (a 11) 16 (f 11), aL D ou 1 (vp_updL wf 0 (len * p1 / q1).toInt64)])) (va_A [oO xo 5 [.ref lc, .ref lt, .ref bo, .ref yo, .ref no], oO lc 7 [.int m1, .ref ec, .int (nI nC)], aO D ec 10 (lsF cl nC), oO (cl c0) 0 [.int len, .ref ta, .ref (q 0), .ref (q 1)], aT D ta 4 (tkF t), oO (q 0) 2 [.ref (b 0), .int (nI nc)], oO (q 1) 2 [.ref (b 1), .int (nI nc)], aI D (b 0) 8 ct, aI D (b 1) 8 cn, oO (t 0) 4 [.ref (r 0), .ref (r 1), .ref (r 2)], oO (r 0) 2 [.ref (a 0), .int (nI (sz 0))], oO (r 1) 2 [.ref (a 1), .int (nI (sz 0))], oO (r 2) 2 [.ref (a 2), .int (nI (sz 0))], aI D (a 0) 16 (f 0), aI D (a 1) 16 (f 1), aI D (a 2) 16 (f 2), oO (t 1) 4 [.ref (r 3), .ref (r 4), .ref (r 5)], oO (r 3) 2 [.ref (a 3), .int (nI (sz 1))], oO (r 4) 2 [.ref (a 4), .int (nI (sz 1))], oO (r 5) 2 [.ref (a 5), .int (nI (sz 1))], aI D (a 3) 16 (f 3), aI D (a 4) 16 (f 4), aI D (a 5) 16 (f 5), oO (t 2) 4 [.ref (r 6), .ref (r 7), .ref (r 8)], oO (r 6) 2 [.ref (a 6), .int (nI (sz 2))], oO (r 7) 2 [.ref (a 7), .int (nI (sz 2))], oO (r 8) 2 [.ref (a 8), .int (nI (sz 2))], aI D (a 6) 16 (f 6), aI D (a 7) 16 (f 7), aI D (a 8) 16 (f 8), oO (t 3) 4 [.ref (r 9), .ref (r 10), .ref (r 11)], oO (r 9) 2 [.ref (a 9), .int (nI (sz 3))], oO (r 10) 2 [.ref (a 10), .int (nI (sz 3))], oO (r 11) 2 [.ref (a 11), .int (nI (sz 3))], aI D (a 9) 16 (f 9), aI D (a 10) 16 (f 10), aI D (a 11) 16 (f 11), aL D ou 1 wf] hz0)) 0 0 (va_A [oO xo 5 [.ref lc, .ref lt, .ref bo, .ref yo, .ref no], oO lc 7 [.int m1, .ref ec, .int (nI nC)], aO D ec 10 (lsF cl nC), oO (cl c0) 0 [.int len, .ref ta, .ref (q 0), .ref (q 1)], aT D ta 4 (tkF t), oO (q 0) 2 [.ref (b 0), .int (nI nc)], oO (q 1) 2 [.ref (b 1), .int (nI nc)], aI D (b 0) 8 ct, aI D (b 1) 8 cn, oO (t 0) 4 [.ref (r 0), .ref (r 1), .ref (r 2)], oO (r 0) 2 [.ref (a 0), .int (nI (sz 0))], oO (r 1) 2 [.ref (a 1), .int (nI (sz 0))], oO (r 2) 2 [.ref (a 2), .int (nI (sz 0))], aI D (a 0) 16 (f 0), aI D (a 1) 16 (f 1), aI D (a 2) 16 (f 2), oO (t 1) 4 [.ref (r 3), .ref (r 4), .ref (r 5)], oO (r 3) 2 [.ref (a 3), .int (nI (sz 1))], oO (r 4) 2 [.ref (a 4), .int (nI (sz 1))], oO (r 5) 2 [.ref (a 5), .int (nI (sz 1))], aI D (a 3) 16 (f 3), aI D (a 4) 16 (f 4), aI D (a 5) 16 (f 5), oO (t 2) 4 [.ref (r 6), .ref (r 7), .ref (r 8)], oO (r 6) 2 [.ref (a 6), .int (nI (sz 2))], oO (r 7) 2 [.ref (a 7), .int (nI (sz 2))], oO (r 8) 2 [.ref (a 8), .int (nI (sz 2))], aI D (a 6) 16 (f 6), aI D (a 7) 16 (f 7), aI D (a 8) 16 (f 8), oO (t 3) 4 [.ref (r 9), .ref (r 10), .ref (r 11)], oO (r 9) 2 [.ref (a 9), .int (nI (sz 3))], oO (r 10) 2 [.ref (a 10), .int (nI (sz 3))], oO (r 11) 2 [.ref (a 11), .int (nI (sz 3))], aI D (a 9) 16 (f 9), aI D (a 10) 16 (f 10), aI D (a 11) 16 (f 11), aL D ou 1 wf] hz0) := by
  refine va_MetW (hh := [(0, 12, 15, 21), (0, 12, 19, 13), (0, 12, 23, 15)]) (cc := cL_retime) (maxL := 6) (ret := (some .int)) (by decide +kernel) rfl ?_
  intro p e s m args below meth c s₁ B hml hv
  obtain ⟨rfl, hsz, hG, hP, hD0⟩ := hv
  have hx := B.exec
  have hb := B.bytes
  have hr := B.returns
  have hts : ∀ w ∈ wsL_law, w.before _ s = true := fun w h => atoms_spec (ws := (wsW_ yL_retime cL_retime 6 (some .int) [(0, 12, 15, 21), (0, 12, 19, 13), (0, 12, 23, 15)])) B.pre w (List.mem_cons_of_mem _ (wsL2_in w h))
  have hown : s.vm.findClass RL = some m.cls := findClass_of_methodNamed B.named
  have hlk := B.notSynchronized
  have hC : CallFix p m c cL_retime 6 s _ wsL_law RL := ⟨hx, hb, hml, hown, hts⟩
  subst hsz
  have hD := hD0.self (sz := s.heap.size)
  generalize hAe : va_A [oO xo 5 [.ref lc, .ref lt, .ref bo, .ref yo, .ref no], oO lc 7 [.int m1, .ref ec, .int (nI nC)], aO D ec 10 (lsF cl nC), oO (cl c0) 0 [.int len, .ref ta, .ref (q 0), .ref (q 1)], aT D ta 4 (tkF t), oO (q 0) 2 [.ref (b 0), .int (nI nc)], oO (q 1) 2 [.ref (b 1), .int (nI nc)], aI D (b 0) 8 ct, aI D (b 1) 8 cn, oO (t 0) 4 [.ref (r 0), .ref (r 1), .ref (r 2)], oO (r 0) 2 [.ref (a 0), .int (nI (sz 0))], oO (r 1) 2 [.ref (a 1), .int (nI (sz 0))], oO (r 2) 2 [.ref (a 2), .int (nI (sz 0))], aI D (a 0) 16 (f 0), aI D (a 1) 16 (f 1), aI D (a 2) 16 (f 2), oO (t 1) 4 [.ref (r 3), .ref (r 4), .ref (r 5)], oO (r 3) 2 [.ref (a 3), .int (nI (sz 1))], oO (r 4) 2 [.ref (a 4), .int (nI (sz 1))], oO (r 5) 2 [.ref (a 5), .int (nI (sz 1))], aI D (a 3) 16 (f 3), aI D (a 4) 16 (f 4), aI D (a 5) 16 (f 5), oO (t 2) 4 [.ref (r 6), .ref (r 7), .ref (r 8)], oO (r 6) 2 [.ref (a 6), .int (nI (sz 2))], oO (r 7) 2 [.ref (a 7), .int (nI (sz 2))], oO (r 8) 2 [.ref (a 8), .int (nI (sz 2))], aI D (a 6) 16 (f 6), aI D (a 7) 16 (f 7), aI D (a 8) 16 (f 8), oO (t 3) 4 [.ref (r 9), .ref (r 10), .ref (r 11)], oO (r 9) 2 [.ref (a 9), .int (nI (sz 3))], oO (r 10) 2 [.ref (a 10), .int (nI (sz 3))], oO (r 11) 2 [.ref (a 11), .int (nI (sz 3))], aI D (a 9) 16 (f 9), aI D (a 10) 16 (f 10), aI D (a 11) 16 (f 11), aL D ou 1 wf] s.heap.size = A at hD ⊢
  have hA : ∀ q : Nat, s.heap.size ≤ q → A q := fun q h => by rw [← hAe]; exact Or.inr h
  have hS : va_S A s.heap s.heap [] := va_S.rf
  obtain ⟨H, hHe⟩ : ∃ H, H = s.heap := ⟨_, rfl⟩
  rw [← hHe] at hP
  have hS : va_S A s.heap H [] := by rw [hHe]; exact hS
  have hl := lv_entry ([.ref xo, .int (nI c0), .int p1, .int q1, .ref ou]) (n := 6) (Nat.le_of_ble_eq_true rfl)
  rw [lg_entry_eq]
  generalize (lg_sl ([.ref xo, .int (nI c0), .int p1, .int q1, .ref ou]) ++ List.replicate (6 - (lg_sl ([.ref xo, .int (nI c0), .int p1, .int q1, .ref ou])).length) Slot.unset).toArray = ls at hl ⊢
  have hl : lv_has ls 6 [(0, .ref xo), (1, .int (nI c0)), (2, .int p1), (3, .int q1), (4, .ref ou)] := hl
  rw [← hHe]
  refine lv_aload hx hb dL_retime_0 (lv_at hl 4 rfl) ?_
  refine lv_iconst (v := 0) hx hb dL_retime_2 (by decide) ?_
  refine lv_aload_n hx hb dL_retime_3 rfl (lv_at hl 0 rfl) ?_
  refine lv_iload_n hx hb dL_retime_4 rfl (lv_at hl 1 rfl) ?_
  refine lv_iload_n hx hb dL_retime_5 rfl (lv_at hl 2 rfl) ?_
  refine lv_iload_n hx hb dL_retime_6 rfl (lv_at hl 3 rfl) ?_
  have hP9 := hP.sub (ws' := [oO xo 5 [.ref lc, .ref lt, .ref bo, .ref yo, .ref no], oO lc 7 [.int m1, .ref ec, .int (nI nC)], aO D ec 10 (lsF cl nC), oO (cl c0) 0 [.int len, .ref ta, .ref (q 0), .ref (q 1)], aT D ta 4 (tkF t), oO (q 0) 2 [.ref (b 0), .int (nI nc)], oO (q 1) 2 [.ref (b 1), .int (nI nc)], aI D (b 0) 8 ct, aI D (b 1) 8 cn, oO (t 0) 4 [.ref (r 0), .ref (r 1), .ref (r 2)], oO (r 0) 2 [.ref (a 0), .int (nI (sz 0))], oO (r 1) 2 [.ref (a 1), .int (nI (sz 0))], oO (r 2) 2 [.ref (a 2), .int (nI (sz 0))], aI D (a 0) 16 (f 0), aI D (a 1) 16 (f 1), aI D (a 2) 16 (f 2), oO (t 1) 4 [.ref (r 3), .ref (r 4), .ref (r 5)], oO (r 3) 2 [.ref (a 3), .int (nI (sz 1))], oO (r 4) 2 [.ref (a 4), .int (nI (sz 1))], oO (r 5) 2 [.ref (a 5), .int (nI (sz 1))], aI D (a 3) 16 (f 3), aI D (a 4) 16 (f 4), aI D (a 5) 16 (f 5), oO (t 2) 4 [.ref (r 6), .ref (r 7), .ref (r 8)], oO (r 6) 2 [.ref (a 6), .int (nI (sz 2))], oO (r 7) 2 [.ref (a 7), .int (nI (sz 2))], oO (r 8) 2 [.ref (a 8), .int (nI (sz 2))], aI D (a 6) 16 (f 6), aI D (a 7) 16 (f 7), aI D (a 8) 16 (f 8), oO (t 3) 4 [.ref (r 9), .ref (r 10), .ref (r 11)], oO (r 9) 2 [.ref (a 9), .int (nI (sz 3))], oO (r 10) 2 [.ref (a 10), .int (nI (sz 3))], oO (r 11) 2 [.ref (a 11), .int (nI (sz 3))], aI D (a 9) 16 (f 9), aI D (a 10) 16 (f 10), aI D (a 11) 16 (f 11)]) [0, 1, 2, 3, 4, 5, 6, 7, 8, 9, 10, 11, 12, 13, 14, 15, 16, 17, 18, 19, 20, 21, 22, 23, 24, 25, 26, 27, 28, 29, 30, 31, 32, 33, 34, 35, 36] rfl
  have hD9 := (hD.sub (ws' := [oO xo 5 [.ref lc, .ref lt, .ref bo, .ref yo, .ref no], oO lc 7 [.int m1, .ref ec, .int (nI nC)], aO D ec 10 (lsF cl nC), oO (cl c0) 0 [.int len, .ref ta, .ref (q 0), .ref (q 1)], aT D ta 4 (tkF t), oO (q 0) 2 [.ref (b 0), .int (nI nc)], oO (q 1) 2 [.ref (b 1), .int (nI nc)], aI D (b 0) 8 ct, aI D (b 1) 8 cn, oO (t 0) 4 [.ref (r 0), .ref (r 1), .ref (r 2)], oO (r 0) 2 [.ref (a 0), .int (nI (sz 0))], oO (r 1) 2 [.ref (a 1), .int (nI (sz 0))], oO (r 2) 2 [.ref (a 2), .int (nI (sz 0))], aI D (a 0) 16 (f 0), aI D (a 1) 16 (f 1), aI D (a 2) 16 (f 2), oO (t 1) 4 [.ref (r 3), .ref (r 4), .ref (r 5)], oO (r 3) 2 [.ref (a 3), .int (nI (sz 1))], oO (r 4) 2 [.ref (a 4), .int (nI (sz 1))], oO (r 5) 2 [.ref (a 5), .int (nI (sz 1))], aI D (a 3) 16 (f 3), aI D (a 4) 16 (f 4), aI D (a 5) 16 (f 5), oO (t 2) 4 [.ref (r 6), .ref (r 7), .ref (r 8)], oO (r 6) 2 [.ref (a 6), .int (nI (sz 2))], oO (r 7) 2 [.ref (a 7), .int (nI (sz 2))], oO (r 8) 2 [.ref (a 8), .int (nI (sz 2))], aI D (a 6) 16 (f 6), aI D (a 7) 16 (f 7), aI D (a 8) 16 (f 8), oO (t 3) 4 [.ref (r 9), .ref (r 10), .ref (r 11)], oO (r 9) 2 [.ref (a 9), .int (nI (sz 3))], oO (r 10) 2 [.ref (a 10), .int (nI (sz 3))], oO (r 11) 2 [.ref (a 11), .int (nI (sz 3))], aI D (a 9) 16 (f 9), aI D (a 10) 16 (f 10), aI D (a 11) 16 (f 11)]) [0, 1, 2, 3, 4, 5, 6, 7, 8, 9, 10, 11, 12, 13, 14, 15, 16, 17, 18, 19, 20, 21, 22, 23, 24, 25, 26, 27, 28, 29, 30, 31, 32, 33, 34, 35, 36] (by decide) rfl).weaken (B := fun _ => True) (fun _ _ _ _ => trivial)
  refine ki (wr := [aL D ou 1 wf]) (rV (rest := [.int 0, .ref ou]) (qc := (RX5, TX5, 5)) [.int (nI c0), .int p1, .int q1] 3 0 0 hC (c_retime l D (xo := xo) (lc := lc) (lt := lt) (bo := bo) (yo := yo) (no := no) (ec := ec) (nC := nC) (c0 := c0) (m1 := m1) (cl := cl) (ta := ta) (nc := nc) (len := len) (q := q) (b := b) (t := t) (r := r) (a := a) (sz := sz) (ct := ct) (cn := cn) (f := f) (p1 := p1) (q1 := q1) (hz0 := H.size) (hnC) (hc) (hs0) (hs1) (hs2) (hs3) (hn) (h) (hz)) rfl (hP 0 _ rfl) (gV mM_L_50 mI_X5_retime mS_X5_retime mN_X5 mC_X5_retime) (by decide +kernel) rfl rfl ⟨Nat.le_of_ble_eq_true rfl, Nat.le_of_ble_eq_true rfl⟩ hG hP9 hD9 rfl hl.1 rfl (Nat.le_of_ble_eq_true rfl) dL_retime_7 ⟨Nat.le_of_ble_eq_true rfl, Nat.le_of_ble_eq_true rfl⟩) hP hD hS hA [0, 1, 2, 3, 4, 5, 6, 7, 8, 9, 10, 11, 12, 13, 14, 15, 16, 17, 18, 19, 20, 21, 22, 23, 24, 25, 26, 27, 28, 29, 30, 31, 32, 33, 34, 35, 36] [37] rfl rfl (by decide) (by decide) (fun r7 u7 H locs h7 hP hD hS hz hfr => ?_)
  have hP : va_P D cls [aL D ou 1 wf, oO xo 5 [.ref lc, .ref lt, .ref bo, .ref yo, .ref no], oO lc 7 [.int m1, .ref ec, .int (nI nC)], aO D ec 10 (lsF cl nC), oO (cl c0) 0 [.int (len * p1 / q1), .ref ta, .ref (q 0), .ref (q 1)], aT D ta 4 (tkF t), oO (q 0) 2 [.ref (b 0), .int (nI nc)], oO (q 1) 2 [.ref (b 1), .int (nI nc)], aI D (b 0) 8 (mpF (fun z => z * p1 / q1) ct nc), aI D (b 1) 8 cn, oO (t 0) 4 [.ref (r 0), .ref (r 1), .ref (r 2)], oO (r 0) 2 [.ref (a 0), .int (nI (sz 0))], oO (r 1) 2 [.ref (a 1), .int (nI (sz 0))], oO (r 2) 2 [.ref (a 2), .int (nI (sz 0))], aI D (a 0) 16 (mpF (fun z => z * p1 / q1) (f 0) (sz 0)), aI D (a 1) 16 (f 1), aI D (a 2) 16 (f 2), oO (t 1) 4 [.ref (r 3), .ref (r 4), .ref (r 5)], oO (r 3) 2 [.ref (a 3), .int (nI (sz 1))], oO (r 4) 2 [.ref (a 4), .int (nI (sz 1))], oO (r 5) 2 [.ref (a 5), .int (nI (sz 1))], aI D (a 3) 16 (mpF (fun z => z * p1 / q1) (f 3) (sz 1)), aI D (a 4) 16 (f 4), aI D (a 5) 16 (f 5), oO (t 2) 4 [.ref (r 6), .ref (r 7), .ref (r 8)], oO (r 6) 2 [.ref (a 6), .int (nI (sz 2))], oO (r 7) 2 [.ref (a 7), .int (nI (sz 2))], oO (r 8) 2 [.ref (a 8), .int (nI (sz 2))], aI D (a 6) 16 (mpF (fun z => z * p1 / q1) (f 6) (sz 2)), aI D (a 7) 16 (f 7), aI D (a 8) 16 (f 8), oO (t 3) 4 [.ref (r 9), .ref (r 10), .ref (r 11)], oO (r 9) 2 [.ref (a 9), .int (nI (sz 3))], oO (r 10) 2 [.ref (a 10), .int (nI (sz 3))], oO (r 11) 2 [.ref (a 11), .int (nI (sz 3))], aI D (a 9) 16 (mpF (fun z => z * p1 / q1) (f 9) (sz 3)), aI D (a 10) 16 (f 10), aI D (a 11) 16 (f 11)] H := hP
  have hD : va_D A [aL D ou 1 wf, oO xo 5 [.ref lc, .ref lt, .ref bo, .ref yo, .ref no], oO lc 7 [.int m1, .ref ec, .int (nI nC)], aO D ec 10 (lsF cl nC), oO (cl c0) 0 [.int (len * p1 / q1), .ref ta, .ref (q 0), .ref (q 1)], aT D ta 4 (tkF t), oO (q 0) 2 [.ref (b 0), .int (nI nc)], oO (q 1) 2 [.ref (b 1), .int (nI nc)], aI D (b 0) 8 (mpF (fun z => z * p1 / q1) ct nc), aI D (b 1) 8 cn, oO (t 0) 4 [.ref (r 0), .ref (r 1), .ref (r 2)], oO (r 0) 2 [.ref (a 0), .int (nI (sz 0))], oO (r 1) 2 [.ref (a 1), .int (nI (sz 0))], oO (r 2) 2 [.ref (a 2), .int (nI (sz 0))], aI D (a 0) 16 (mpF (fun z => z * p1 / q1) (f 0) (sz 0)), aI D (a 1) 16 (f 1), aI D (a 2) 16 (f 2), oO (t 1) 4 [.ref (r 3), .ref (r 4), .ref (r 5)], oO (r 3) 2 [.ref (a 3), .int (nI (sz 1))], oO (r 4) 2 [.ref (a 4), .int (nI (sz 1))], oO (r 5) 2 [.ref (a 5), .int (nI (sz 1))], aI D (a 3) 16 (mpF (fun z => z * p1 / q1) (f 3) (sz 1)), aI D (a 4) 16 (f 4), aI D (a 5) 16 (f 5), oO (t 2) 4 [.ref (r 6), .ref (r 7), .ref (r 8)], oO (r 6) 2 [.ref (a 6), .int (nI (sz 2))], oO (r 7) 2 [.ref (a 7), .int (nI (sz 2))], oO (r 8) 2 [.ref (a 8), .int (nI (sz 2))], aI D (a 6) 16 (mpF (fun z => z * p1 / q1) (f 6) (sz 2)), aI D (a 7) 16 (f 7), aI D (a 8) 16 (f 8), oO (t 3) 4 [.ref (r 9), .ref (r 10), .ref (r 11)], oO (r 9) 2 [.ref (a 9), .int (nI (sz 3))], oO (r 10) 2 [.ref (a 10), .int (nI (sz 3))], oO (r 11) 2 [.ref (a 11), .int (nI (sz 3))], aI D (a 9) 16 (mpF (fun z => z * p1 / q1) (f 9) (sz 3)), aI D (a 10) 16 (f 10), aI D (a 11) 16 (f 11)] := hD
  obtain rfl : r7 = (len * p1 / q1) := h7
  refine lv_i2l hx hb dL_retime_10 rfl ?_
  refine lst (n := 1) (j := 0) hx hb hG hP hD hS 0 rfl (by omega) (by omega) dL_retime_11 (fun H locs hP hD hS => ?_)
  have hP : va_P D cls [aL D ou 1 (vp_updL wf 0 ((len * p1 / q1).toInt64)), oO xo 5 [.ref lc, .ref lt, .ref bo, .ref yo, .ref no], oO lc 7 [.int m1, .ref ec, .int (nI nC)], aO D ec 10 (lsF cl nC), oO (cl c0) 0 [.int (len * p1 / q1), .ref ta, .ref (q 0), .ref (q 1)], aT D ta 4 (tkF t), oO (q 0) 2 [.ref (b 0), .int (nI nc)], oO (q 1) 2 [.ref (b 1), .int (nI nc)], aI D (b 0) 8 (mpF (fun z => z * p1 / q1) ct nc), aI D (b 1) 8 cn, oO (t 0) 4 [.ref (r 0), .ref (r 1), .ref (r 2)], oO (r 0) 2 [.ref (a 0), .int (nI (sz 0))], oO (r 1) 2 [.ref (a 1), .int (nI (sz 0))], oO (r 2) 2 [.ref (a 2), .int (nI (sz 0))], aI D (a 0) 16 (mpF (fun z => z * p1 / q1) (f 0) (sz 0)), aI D (a 1) 16 (f 1), aI D (a 2) 16 (f 2), oO (t 1) 4 [.ref (r 3), .ref (r 4), .ref (r 5)], oO (r 3) 2 [.ref (a 3), .int (nI (sz 1))], oO (r 4) 2 [.ref (a 4), .int (nI (sz 1))], oO (r 5) 2 [.ref (a 5), .int (nI (sz 1))], aI D (a 3) 16 (mpF (fun z => z * p1 / q1) (f 3) (sz 1)), aI D (a 4) 16 (f 4), aI D (a 5) 16 (f 5), oO (t 2) 4 [.ref (r 6), .ref (r 7), .ref (r 8)], oO (r 6) 2 [.ref (a 6), .int (nI (sz 2))], oO (r 7) 2 [.ref (a 7), .int (nI (sz 2))], oO (r 8) 2 [.ref (a 8), .int (nI (sz 2))], aI D (a 6) 16 (mpF (fun z => z * p1 / q1) (f 6) (sz 2)), aI D (a 7) 16 (f 7), aI D (a 8) 16 (f 8), oO (t 3) 4 [.ref (r 9), .ref (r 10), .ref (r 11)], oO (r 9) 2 [.ref (a 9), .int (nI (sz 3))], oO (r 10) 2 [.ref (a 10), .int (nI (sz 3))], oO (r 11) 2 [.ref (a 11), .int (nI (sz 3))], aI D (a 9) 16 (mpF (fun z => z * p1 / q1) (f 9) (sz 3)), aI D (a 10) 16 (f 10), aI D (a 11) 16 (f 11)] H := hP
  have hD : va_D A [aL D ou 1 (vp_updL wf 0 ((len * p1 / q1).toInt64)), oO xo 5 [.ref lc, .ref lt, .ref bo, .ref yo, .ref no], oO lc 7 [.int m1, .ref ec, .int (nI nC)], aO D ec 10 (lsF cl nC), oO (cl c0) 0 [.int (len * p1 / q1), .ref ta, .ref (q 0), .ref (q 1)], aT D ta 4 (tkF t), oO (q 0) 2 [.ref (b 0), .int (nI nc)], oO (q 1) 2 [.ref (b 1), .int (nI nc)], aI D (b 0) 8 (mpF (fun z => z * p1 / q1) ct nc), aI D (b 1) 8 cn, oO (t 0) 4 [.ref (r 0), .ref (r 1), .ref (r 2)], oO (r 0) 2 [.ref (a 0), .int (nI (sz 0))], oO (r 1) 2 [.ref (a 1), .int (nI (sz 0))], oO (r 2) 2 [.ref (a 2), .int (nI (sz 0))], aI D (a 0) 16 (mpF (fun z => z * p1 / q1) (f 0) (sz 0)), aI D (a 1) 16 (f 1), aI D (a 2) 16 (f 2), oO (t 1) 4 [.ref (r 3), .ref (r 4), .ref (r 5)], oO (r 3) 2 [.ref (a 3), .int (nI (sz 1))], oO (r 4) 2 [.ref (a 4), .int (nI (sz 1))], oO (r 5) 2 [.ref (a 5), .int (nI (sz 1))], aI D (a 3) 16 (mpF (fun z => z * p1 / q1) (f 3) (sz 1)), aI D (a 4) 16 (f 4), aI D (a 5) 16 (f 5), oO (t 2) 4 [.ref (r 6), .ref (r 7), .ref (r 8)], oO (r 6) 2 [.ref (a 6), .int (nI (sz 2))], oO (r 7) 2 [.ref (a 7), .int (nI (sz 2))], oO (r 8) 2 [.ref (a 8), .int (nI (sz 2))], aI D (a 6) 16 (mpF (fun z => z * p1 / q1) (f 6) (sz 2)), aI D (a 7) 16 (f 7), aI D (a 8) 16 (f 8), oO (t 3) 4 [.ref (r 9), .ref (r 10), .ref (r 11)], oO (r 9) 2 [.ref (a 9), .int (nI (sz 3))], oO (r 10) 2 [.ref (a 10), .int (nI (sz 3))], oO (r 11) 2 [.ref (a 11), .int (nI (sz 3))], aI D (a 9) 16 (mpF (fun z => z * p1 / q1) (f 9) (sz 3)), aI D (a 10) 16 (f 10), aI D (a 11) 16 (f 11)] := hD
  refine lv_goto (tgt := 27) hx hb dL_retime_12 (by decide) ?_
  refine lv_iconst (v := 0) hx hb dL_retime_27 (by decide) ?_
  refine Wi () hx hb hr hlk ?_ (hP.sub [1, 2, 3, 4, 5, 6, 7, 8, 9, 10, 11, 12, 13, 14, 15, 16, 17, 18, 19, 20, 21, 22, 23, 24, 25, 26, 27, 28, 29, 30, 31, 32, 33, 34, 35, 36, 37, 0] rfl) (hD.sub [1, 2, 3, 4, 5, 6, 7, 8, 9, 10, 11, 12, 13, 14, 15, 16, 17, 18, 19, 20, 21, 22, 23, 24, 25, 26, 27, 28, 29, 30, 31, 32, 33, 34, 35, 36, 37, 0] (by decide) rfl) hS (Nat.le_of_ble_eq_true rfl) (by first | exact Nat.le_of_ble_eq_true rfl | exact Nat.le_of_eq (Nat.zero_add _)) dL_retime_28
  exact rfl
set_option maxHeartbeats 400000 in
set_option maxRecDepth 100000 in
theorem h_reduce_1 (l : Launch) (D : va_G) (hns : l.stackTraces = false) {xo lc lt bo yo no : Nat} {ec nC : Nat} {m1 : Int32} {x p1 ix : Int32} {ou : Nat} (hz0 : Nat) (hnC : nC ≤ 6) (hxx : x < 0 ∨ nI nC ≤ x) : Met l yL_reduce (wsW_ yL_reduce cL_reduce 6 (some .int) [(0, 12, 15, 21), (0, 12, 19, 13)]) ({ frames := 7, cells := 1, slots := 6, locals := 153 } : Room) (va_Pc [.ref xo, .int x, .int p1, .int ix, .ref ou] (TW D [oO xo 5 [.ref lc, .ref lt, .ref bo, .ref yo, .ref no], oO lc 7 [.int m1, .ref ec, .int (nI nC)]] hz0)) (va_Qi (fun r (_ : Unit) => r = 1) (fun _ _ => True) (va_A [] hz0)) 1 6 (va_A [] hz0) := by
  refine va_MetW (hh := [(0, 12, 15, 21), (0, 12, 19, 13)]) (cc := cL_reduce) (maxL := 6) (ret := (some .int)) (by decide +kernel) rfl ?_
  intro p e s m args below meth c s₁ B hml hv
  obtain ⟨rfl, hsz, hG, hP, hZ⟩ := hv
  subst hsz
  have hx := B.exec
  have hb := B.bytes
  have hr := B.returns
  have hts : ∀ w ∈ wsL_law, w.before _ s = true := fun w h => atoms_spec (ws := (wsW_ yL_reduce cL_reduce 6 (some .int) [(0, 12, 15, 21), (0, 12, 19, 13)])) B.pre w (List.mem_cons_of_mem _ (wsL2_in w h))
  have hk15 : (Cond.classLink RL 15 "java/lang/IllegalStateException").before _ s = true := atoms_spec (ws := (wsW_ yL_reduce cL_reduce 6 (some .int) [(0, 12, 15, 21), (0, 12, 19, 13)])) B.pre _ (List.mem_cons_of_mem _ List.mem_cons_self)
  have hown : s.vm.findClass RL = some m.cls := findClass_of_methodNamed B.named
  have hlk := B.notSynchronized
  have hC : CallFix p m c cL_reduce 6 s _ wsL_law RL := ⟨hx, hb, hml, hown, hts⟩
  have hS : va_S (va_A [] s.heap.size) s.heap s.heap [] := va_S.rf
  have hl := lv_entry ([.ref xo, .int x, .int p1, .int ix, .ref ou]) (n := 6) (Nat.le_of_ble_eq_true rfl)
  rw [lg_entry_eq]
  generalize (lg_sl ([.ref xo, .int x, .int p1, .int ix, .ref ou]) ++ List.replicate (6 - (lg_sl ([.ref xo, .int x, .int p1, .int ix, .ref ou])).length) Slot.unset).toArray = ls at hl ⊢
  have hl : lv_has ls 6 [(0, .ref xo), (1, .int x), (2, .int p1), (3, .int ix), (4, .ref ou)] := hl
  refine lv_aload hx hb dL_reduce_0 (lv_at hl 4 rfl) ?_
  refine lv_iconst (v := 0) hx hb dL_reduce_2 (by decide) ?_
  refine lv_aload_n hx hb dL_reduce_3 rfl (lv_at hl 0 rfl) ?_
  refine lv_iload_n hx hb dL_reduce_4 rfl (lv_at hl 1 rfl) ?_
  refine lv_iload_n hx hb dL_reduce_5 rfl (lv_at hl 2 rfl) ?_
  refine lv_iload_n hx hb dL_reduce_6 rfl (lv_at hl 3 rfl) ?_
  have hP9 := hP.sub (ws' := [oO xo 5 [.ref lc, .ref lt, .ref bo, .ref yo, .ref no], oO lc 7 [.int m1, .ref ec, .int (nI nC)]]) [0, 1] rfl
  refine vx_calli (A0 := va_A [] s.heap.size) (rX (rest := [.int 0, .ref ou]) (qc := (RX5, TX5, 5)) [.int x, .int p1, .int ix] 3 hC (t_reduce_1 l D hns (xo := xo) (lc := lc) (lt := lt) (bo := bo) (yo := yo) (no := no) (ec := ec) (nC := nC) (m1 := m1) (x := x) (p1 := p1) (ix := ix) (hz0 := s.heap.size) (hnC) (hxx)) rfl (hP 0 _ rfl) (gV mM_L_53 mI_X5_reduce mS_X5_reduce mN_X5 mC_X5_reduce) (by decide +kernel) rfl rfl ⟨Nat.le_of_ble_eq_true rfl, Nat.le_of_ble_eq_true rfl⟩ hG hP9 hZ rfl hl.1 rfl (Nat.le_of_ble_eq_true rfl) dL_reduce_7 ⟨Nat.le_of_ble_eq_true rfl, Nat.le_of_ble_eq_true rfl⟩) hS (fun q _ h => h) (fun q h => h) (fun q _ h => h) (fun E ce q9 u9 t H1 locs1 ht hvm hp9 hB hz hk hS1 hce hcv hcl => ?_) (fun r u t H1 locs1 ht hvm hp9 _ _ _ _ => hp9.elim)
  obtain rfl : E = "java/lang/IndexOutOfBoundsException" := hB
  have htb := vx_table (x := yL_reduce) B (hts _ mW_L_reduce)
  refine vx_catch (own := RL) (name := "java/lang/IndexOutOfBoundsException") (pc := 7) (rest := [.int 0, .ref ou]) hown [] ⟨0, 12, 15, 21⟩ [⟨0, 12, 19, 13⟩] (by rw [htb]; rfl) (fun z hz9 => absurd hz9 List.not_mem_nil) rfl (by decide) (hts _ mK_L_21) (va_Nw.use rfl (gkC hG 4 rfl)) hce hcv hcl ?_
  refine lv_astore (lv' := [(5, .ref q9), (0, .ref xo), (1, .int x), (2, .int p1), (3, .int ix), (4, .ref ou)]) hx hb dL_reduce_15 hl (by decide) rfl (fun ls hl => ?_)
  refine lv_iconst (v := 1) hx hb dL_reduce_17 (by decide) ?_
  exact W.iret (v := 1) hx hb hr (fun t ht _ => ⟨⟨_, (), rfl, rfl, trivial⟩, hS1.F ht⟩) hS1.2.2 dL_reduce_18 hlk
set_option maxHeartbeats 400000 in
set_option maxRecDepth 100000 in
theorem h_reduce_2 (l : Launch) (D : va_G) (hns : l.stackTraces = false) {xo lc lt bo yo no : Nat} {ec nC c0 : Nat} {m1 : Int32} {cl : Nat → Nat} {ta : Nat} {len : Int32} {q t : Nat → Nat} {p1 ix : Int32} {ou : Nat} (hz0 : Nat) (hnC : nC ≤ 6) (hc : c0 < nC) (hp : p1 < 0 ∨ 4 ≤ p1) : Met l yL_reduce (wsW_ yL_reduce cL_reduce 6 (some .int) [(0, 12, 15, 21), (0, 12, 19, 13)]) ({ frames := 7, cells := 1, slots := 6, locals := 153 } : Room) (va_Pc [.ref xo, .int (nI c0), .int p1, .int ix, .ref ou] (TW D [oO xo 5 [.ref lc, .ref lt, .ref bo, .ref yo, .ref no], oO lc 7 [.int m1, .ref ec, .int (nI nC)], aO D ec 10 (lsF cl nC), oO (cl c0) 0 [.int len, .ref ta, .ref (q 0), .ref (q 1)], aT D ta 4 (tkF t)] hz0)) (va_Qi (fun r (_ : Unit) => r = 1) (fun _ _ => True) (va_A [] hz0)) 1 6 (va_A [] hz0) := by
  refine va_MetW (hh := [(0, 12, 15, 21), (0, 12, 19, 13)]) (cc := cL_reduce) (maxL := 6) (ret := (some .int)) (by decide +kernel) rfl ?_
  intro p e s m args below meth c s₁ B hml hv
  obtain ⟨rfl, hsz, hG, hP, hZ⟩ := hv
  subst hsz
  have hx := B.exec
  have hb := B.bytes
  have hr := B.returns
  have hts : ∀ w ∈ wsL_law, w.before _ s = true := fun w h => atoms_spec (ws := (wsW_ yL_reduce cL_reduce 6 (some .int) [(0, 12, 15, 21), (0, 12, 19, 13)])) B.pre w (List.mem_cons_of_mem _ (wsL2_in w h))
  have hk15 : (Cond.classLink RL 15 "java/lang/IllegalStateException").before _ s = true := atoms_spec (ws := (wsW_ yL_reduce cL_reduce 6 (some .int) [(0, 12, 15, 21), (0, 12, 19, 13)])) B.pre _ (List.mem_cons_of_mem _ List.mem_cons_self)
  have hown : s.vm.findClass RL = some m.cls := findClass_of_methodNamed B.named
  have hlk := B.notSynchronized
  have hC : CallFix p m c cL_reduce 6 s _ wsL_law RL := ⟨hx, hb, hml, hown, hts⟩
  have hS : va_S (va_A [] s.heap.size) s.heap s.heap [] := va_S.rf
  have hl := lv_entry ([.ref xo, .int (nI c0), .int p1, .int ix, .ref ou]) (n := 6) (Nat.le_of_ble_eq_true rfl)
  rw [lg_entry_eq]
  generalize (lg_sl ([.ref xo, .int (nI c0), .int p1, .int ix, .ref ou]) ++ List.replicate (6 - (lg_sl ([.ref xo, .int (nI c0), .int p1, .int ix, .ref ou])).length) Slot.unset).toArray = ls at hl ⊢
  have hl : lv_has ls 6 [(0, .ref xo), (1, .int (nI c0)), (2, .int p1), (3, .int ix), (4, .ref ou)] := hl
  refine lv_aload hx hb dL_reduce_0 (lv_at hl 4 rfl) ?_
  refine lv_iconst (v := 0) hx hb dL_reduce_2 (by decide) ?_
  refine lv_aload_n hx hb dL_reduce_3 rfl (lv_at hl 0 rfl) ?_
  refine lv_iload_n hx hb dL_reduce_4 rfl (lv_at hl 1 rfl) ?_
  refine lv_iload_n hx hb dL_reduce_5 rfl (lv_at hl 2 rfl) ?_
  refine lv_iload_n hx hb dL_reduce_6 rfl (lv_at hl 3 rfl) ?_
  have hP9 := hP.sub (ws' := [oO xo 5 [.ref lc, .ref lt, .ref bo, .ref yo, .ref no], oO lc 7 [.int m1, .ref ec, .int (nI nC)], aO D ec 10 (lsF cl nC), oO (cl c0) 0 [.int len, .ref ta, .ref (q 0), .ref (q 1)], aT D ta 4 (tkF t)]) [0, 1, 2, 3, 4] rfl
  refine vx_calli (A0 := va_A [] s.heap.size) (rX (rest := [.int 0, .ref ou]) (qc := (RX5, TX5, 5)) [.int (nI c0), .int p1, .int ix] 3 hC (t_reduce_2 l D hns (xo := xo) (lc := lc) (lt := lt) (bo := bo) (yo := yo) (no := no) (ec := ec) (nC := nC) (c0 := c0) (m1 := m1) (cl := cl) (ta := ta) (len := len) (q := q) (t := t) (p1 := p1) (ix := ix) (hz0 := s.heap.size) (hnC) (hc) (hp)) rfl (hP 0 _ rfl) (gV mM_L_53 mI_X5_reduce mS_X5_reduce mN_X5 mC_X5_reduce) (by decide +kernel) rfl rfl ⟨Nat.le_of_ble_eq_true rfl, Nat.le_of_ble_eq_true rfl⟩ hG hP9 hZ rfl hl.1 rfl (Nat.le_of_ble_eq_true rfl) dL_reduce_7 ⟨Nat.le_of_ble_eq_true rfl, Nat.le_of_ble_eq_true rfl⟩) hS (fun q _ h => h) (fun q h => h) (fun q _ h => h) (fun E ce q9 u9 t H1 locs1 ht hvm hp9 hB hz hk hS1 hce hcv hcl => ?_) (fun r u t H1 locs1 ht hvm hp9 _ _ _ _ => hp9.elim)
  obtain rfl : E = "java/lang/IndexOutOfBoundsException" := hB
  have htb := vx_table (x := yL_reduce) B (hts _ mW_L_reduce)
  refine vx_catch (own := RL) (name := "java/lang/IndexOutOfBoundsException") (pc := 7) (rest := [.int 0, .ref ou]) hown [] ⟨0, 12, 15, 21⟩ [⟨0, 12, 19, 13⟩] (by rw [htb]; rfl) (fun z hz9 => absurd hz9 List.not_mem_nil) rfl (by decide) (hts _ mK_L_21) (va_Nw.use rfl (gkC hG 4 rfl)) hce hcv hcl ?_
  refine lv_astore (lv' := [(5, .ref q9), (0, .ref xo), (1, .int (nI c0)), (2, .int p1), (3, .int ix), (4, .ref ou)]) hx hb dL_reduce_15 hl (by decide) rfl (fun ls hl => ?_)
  refine lv_iconst (v := 1) hx hb dL_reduce_17 (by decide) ?_
  exact W.iret (v := 1) hx hb hr (fun t ht _ => ⟨⟨_, (), rfl, rfl, trivial⟩, hS1.F ht⟩) hS1.2.2 dL_reduce_18 hlk
set_option maxHeartbeats 400000 in
set_option maxRecDepth 100000 in
theorem h_reduce_3 (l : Launch) (D : va_G) (hns : l.stackTraces = false) {xo lc lt bo yo no : Nat} {ec nC c0 : Nat} {m1 : Int32} {cl : Nat → Nat} {ta : Nat} {len : Int32} {q t : Nat → Nat} {j : Nat} {ix : Int32} {ou : Nat} (hz0 : Nat) (hnC : nC ≤ 6) (hc : c0 < nC) (hj : j < 4) (h : ¬ (0 ≤ ix ∧ ix ≤ 1000)) : Met l yL_reduce (wsW_ yL_reduce cL_reduce 6 (some .int) [(0, 12, 15, 21), (0, 12, 19, 13)]) ({ frames := 7, cells := 1, slots := 6, locals := 153 } : Room) (va_Pc [.ref xo, .int (nI c0), .int (nI j), .int ix, .ref ou] (TW D [oO xo 5 [.ref lc, .ref lt, .ref bo, .ref yo, .ref no], oO lc 7 [.int m1, .ref ec, .int (nI nC)], aO D ec 10 (lsF cl nC), oO (cl c0) 0 [.int len, .ref ta, .ref (q 0), .ref (q 1)], aT D ta 4 (tkF t)] hz0)) (va_Qi (fun r (_ : Unit) => r = 2) (fun _ _ => True) (va_A [] hz0)) 1 6 (va_A [] hz0) := by
  refine va_MetW (hh := [(0, 12, 15, 21), (0, 12, 19, 13)]) (cc := cL_reduce) (maxL := 6) (ret := (some .int)) (by decide +kernel) rfl ?_
  intro p e s m args below meth c s₁ B hml hv
  obtain ⟨rfl, hsz, hG, hP, hZ⟩ := hv
  subst hsz
  have hx := B.exec
  have hb := B.bytes
  have hr := B.returns
  have hts : ∀ w ∈ wsL_law, w.before _ s = true := fun w h => atoms_spec (ws := (wsW_ yL_reduce cL_reduce 6 (some .int) [(0, 12, 15, 21), (0, 12, 19, 13)])) B.pre w (List.mem_cons_of_mem _ (wsL2_in w h))
  have hk15 : (Cond.classLink RL 15 "java/lang/IllegalStateException").before _ s = true := atoms_spec (ws := (wsW_ yL_reduce cL_reduce 6 (some .int) [(0, 12, 15, 21), (0, 12, 19, 13)])) B.pre _ (List.mem_cons_of_mem _ List.mem_cons_self)
  have hown : s.vm.findClass RL = some m.cls := findClass_of_methodNamed B.named
  have hlk := B.notSynchronized
  have hC : CallFix p m c cL_reduce 6 s _ wsL_law RL := ⟨hx, hb, hml, hown, hts⟩
  have hS : va_S (va_A [] s.heap.size) s.heap s.heap [] := va_S.rf
  have hl := lv_entry ([.ref xo, .int (nI c0), .int (nI j), .int ix, .ref ou]) (n := 6) (Nat.le_of_ble_eq_true rfl)
  rw [lg_entry_eq]
  generalize (lg_sl ([.ref xo, .int (nI c0), .int (nI j), .int ix, .ref ou]) ++ List.replicate (6 - (lg_sl ([.ref xo, .int (nI c0), .int (nI j), .int ix, .ref ou])).length) Slot.unset).toArray = ls at hl ⊢
  have hl : lv_has ls 6 [(0, .ref xo), (1, .int (nI c0)), (2, .int (nI j)), (3, .int ix), (4, .ref ou)] := hl
  refine lv_aload hx hb dL_reduce_0 (lv_at hl 4 rfl) ?_
  refine lv_iconst (v := 0) hx hb dL_reduce_2 (by decide) ?_
  refine lv_aload_n hx hb dL_reduce_3 rfl (lv_at hl 0 rfl) ?_
  refine lv_iload_n hx hb dL_reduce_4 rfl (lv_at hl 1 rfl) ?_
  refine lv_iload_n hx hb dL_reduce_5 rfl (lv_at hl 2 rfl) ?_
  refine lv_iload_n hx hb dL_reduce_6 rfl (lv_at hl 3 rfl) ?_
  have hP9 := hP.sub (ws' := [oO xo 5 [.ref lc, .ref lt, .ref bo, .ref yo, .ref no], oO lc 7 [.int m1, .ref ec, .int (nI nC)], aO D ec 10 (lsF cl nC), oO (cl c0) 0 [.int len, .ref ta, .ref (q 0), .ref (q 1)], aT D ta 4 (tkF t)]) [0, 1, 2, 3, 4] rfl
  refine vx_calli (A0 := va_A [] s.heap.size) (rX (rest := [.int 0, .ref ou]) (qc := (RX5, TX5, 5)) [.int (nI c0), .int (nI j), .int ix] 3 hC (t_reduce_3 l D hns (xo := xo) (lc := lc) (lt := lt) (bo := bo) (yo := yo) (no := no) (ec := ec) (nC := nC) (c0 := c0) (m1 := m1) (cl := cl) (ta := ta) (len := len) (q := q) (t := t) (j := j) (ix := ix) (hz0 := s.heap.size) (hnC) (hc) (hj) (h)) rfl (hP 0 _ rfl) (gV mM_L_53 mI_X5_reduce mS_X5_reduce mN_X5 mC_X5_reduce) (by decide +kernel) rfl rfl ⟨Nat.le_of_ble_eq_true rfl, Nat.le_of_ble_eq_true rfl⟩ hG hP9 hZ rfl hl.1 rfl (Nat.le_of_ble_eq_true rfl) dL_reduce_7 ⟨Nat.le_of_ble_eq_true rfl, Nat.le_of_ble_eq_true rfl⟩) hS (fun q _ h => h) (fun q h => h) (fun q _ h => h) (fun E ce q9 u9 t H1 locs1 ht hvm hp9 hB hz hk hS1 hce hcv hcl => ?_) (fun r u t H1 locs1 ht hvm hp9 _ _ _ _ => hp9.elim)
  obtain rfl : E = "java/lang/IllegalArgumentException" := hB
  have htb := vx_table (x := yL_reduce) B (hts _ mW_L_reduce)
  refine vx_catch (own := RL) (name := "java/lang/IllegalArgumentException") (pc := 7) (rest := [.int 0, .ref ou]) hown [⟨0, 12, 15, 21⟩] ⟨0, 12, 19, 13⟩ [] (by rw [htb]; rfl) (fun z hz9 => by
    simp only [List.mem_cons, List.not_mem_nil, or_false] at hz9
    rcases hz9 with rfl
    · exact Or.inr ⟨by decide, _, hts _ mK_L_21, gkN hG 1 rfl⟩) rfl (by decide) (hts _ mK_L_13) (va_Nw.use rfl (gkC hG 2 rfl)) hce hcv hcl ?_
  refine lv_astore (lv' := [(5, .ref q9), (0, .ref xo), (1, .int (nI c0)), (2, .int (nI j)), (3, .int ix), (4, .ref ou)]) hx hb dL_reduce_19 hl (by decide) rfl (fun ls hl => ?_)
  refine lv_iconst (v := 2) hx hb dL_reduce_21 (by decide) ?_
  exact W.iret (v := 2) hx hb hr (fun t ht _ => ⟨⟨_, (), rfl, rfl, trivial⟩, hS1.F ht⟩) hS1.2.2 dL_reduce_22 hlk
set_option maxHeartbeats 400000 in
set_option maxRecDepth 100000 in
theorem l_reduce_few (l : Launch) (D : va_G) {xo lc lt bo yo no : Nat} {ec nC c0 : Nat} {m1 : Int32} {cl : Nat → Nat} {ta : Nat} {len : Int32} {q t : Nat → Nat} {j r1 r2 r3 a1 a2 a3 sz : Nat} {ft fv fe : Nat → Int32} {ix : Int32} {ou : Nat} {wf : Nat → Int64} (hz0 : Nat) (hnC : nC ≤ 6) (hc : c0 < nC) (hj : j < 4) (h : 0 ≤ ix ∧ ix ≤ 1000) (h3 : sz < 3) : Met l yL_reduce (wsW_ yL_reduce cL_reduce 6 (some .int) [(0, 12, 15, 21), (0, 12, 19, 13)]) ({ frames := 7, cells := 0, slots := 0, locals := 153 } : Room) (va_Pc [.ref xo, .int (nI c0), .int (nI j), .int ix, .ref ou] (SW D [oO xo 5 [.ref lc, .ref lt, .ref bo, .ref yo, .ref no], oO lc 7 [.int m1, .ref ec, .int (nI nC)], aO D ec 10 (lsF cl nC), oO (cl c0) 0 [.int len, .ref ta, .ref (q 0), .ref (q 1)], aT D ta 4 (tkF t), oO (t j) 4 [.ref r1, .ref r2, .ref r3], oO r1 2 [.ref a1, .int (nI sz)], oO r2 2 [.ref a2, .int (nI sz)], oO r3 2 [.ref a3, .int (nI sz)], aI D a1 16 ft, aI D a2 16 fv, aI D a3 16 fe, aL D ou 1 wf] hz0)) (va_Qi (fun r _ => r = 0) (AT D (va_A [oO xo 5 [.ref lc, .ref lt, .ref bo, .ref yo, .ref no], oO lc 7 [.int m1, .ref ec, .int (nI nC)], aO D ec 10 (lsF cl nC), oO (cl c0) 0 [.int len, .ref ta, .ref (q 0), .ref (q 1)], aT D ta 4 (tkF t), oO (t j) 4 [.ref r1, .ref r2, .ref r3], oO r1 2 [.ref a1, .int (nI sz)], oO r2 2 [.ref a2, .int (nI sz)], oO r3 2 [.ref a3, .int (nI sz)], aI D a1 16 ft, aI D a2 16 fv, aI D a3 16 fe, aL D ou 1 wf] hz0) (fun _ : Unit => [oO xo 5 [.ref lc, .ref lt, .ref bo, .ref yo, .ref no], oO lc 7 [.int m1, .ref ec, .int (nI nC)], aO D ec 10 (lsF cl nC), oO (cl c0) 0 [.int len, .ref ta, .ref (q 0), .ref (q 1)], aT D ta 4 (tkF t), oO (t j) 4 [.ref r1, .ref r2, .ref r3], oO r1 2 [.ref a1, .int (nI sz)], oO r2 2 [.ref a2, .int (nI sz)], oO r3 2 [.ref a3, .int (nI sz)], aI D a1 16 ft, aI D a2 16 fv, aI D a3 16 fe, aL D ou 1 (vp_updL wf 0 (nI sz).toInt64)])) (va_A [oO xo 5 [.ref lc, .ref lt, .ref bo, .ref yo, .ref no], oO lc 7 [.int m1, .ref ec, .int (nI nC)], aO D ec 10 (lsF cl nC), oO (cl c0) 0 [.int len, .ref ta, .ref (q 0), .ref (q 1)], aT D ta 4 (tkF t), oO (t j) 4 [.ref r1, .ref r2, .ref r3], oO r1 2 [.ref a1, .int (nI sz)], oO r2 2 [.ref a2, .int (nI sz)], oO r3 2 [.ref a3, .int (nI sz)], aI D a1 16 ft, aI D a2 16 fv, aI D a3 16 fe, aL D ou 1 wf] hz0)) 0 0 (va_A [oO xo 5 [.ref lc, .ref lt, .ref bo, .ref yo, .ref no], oO lc 7 [.int m1, .ref ec, .int (nI nC)], aO D ec 10 (lsF cl nC), oO (cl c0) 0 [.int len, .ref ta, .ref (q 0), .ref (q 1)], aT D ta 4 (tkF t), oO (t j) 4 [.ref r1, .ref r2, .ref r3], oO r1 2 [.ref a1, .int (nI sz)], oO r2 2 [.ref a2, .int (nI sz)], oO r3 2 [.ref a3, .int (nI sz)], aI D a1 16 ft, aI D a2 16 fv, aI D a3 16 fe, aL D ou 1 wf] hz0) := by
  refine va_MetW (hh := [(0, 12, 15, 21), (0, 12, 19, 13)]) (cc := cL_reduce) (maxL := 6) (ret := (some .int)) (by decide +kernel) rfl ?_
  intro p e s m args below meth c s₁ B hml hv
  obtain ⟨rfl, hsz, hG, hP, hD0⟩ := hv
  have hx := B.exec
  have hb := B.bytes
  have hr := B.returns
  have hts : ∀ w ∈ wsL_law, w.before _ s = true := fun w h => atoms_spec (ws := (wsW_ yL_reduce cL_reduce 6 (some .int) [(0, 12, 15, 21), (0, 12, 19, 13)])) B.pre w (List.mem_cons_of_mem _ (wsL2_in w h))
  have hown : s.vm.findClass RL = some m.cls := findClass_of_methodNamed B.named
  have hlk := B.notSynchronized
  have hC : CallFix p m c cL_reduce 6 s _ wsL_law RL := ⟨hx, hb, hml, hown, hts⟩
  subst hsz
  have hD := hD0.self (sz := s.heap.size)
  generalize hAe : va_A [oO xo 5 [.ref lc, .ref lt, .ref bo, .ref yo, .ref no], oO lc 7 [.int m1, .ref ec, .int (nI nC)], aO D ec 10 (lsF cl nC), oO (cl c0) 0 [.int len, .ref ta, .ref (q 0), .ref (q 1)], aT D ta 4 (tkF t), oO (t j) 4 [.ref r1, .ref r2, .ref r3], oO r1 2 [.ref a1, .int (nI sz)], oO r2 2 [.ref a2, .int (nI sz)], oO r3 2 [.ref a3, .int (nI sz)], aI D a1 16 ft, aI D a2 16 fv, aI D a3 16 fe, aL D ou 1 wf] s.heap.size = A at hD ⊢
  have hA : ∀ q : Nat, s.heap.size ≤ q → A q := fun q h => by rw [← hAe]; exact Or.inr h
  have hS : va_S A s.heap s.heap [] := va_S.rf
  obtain ⟨H, hHe⟩ : ∃ H, H = s.heap := ⟨_, rfl⟩
  rw [← hHe] at hP
  have hS : va_S A s.heap H [] := by rw [hHe]; exact hS
  have hl := lv_entry ([.ref xo, .int (nI c0), .int (nI j), .int ix, .ref ou]) (n := 6) (Nat.le_of_ble_eq_true rfl)
  rw [lg_entry_eq]
  generalize (lg_sl ([.ref xo, .int (nI c0), .int (nI j), .int ix, .ref ou]) ++ List.replicate (6 - (lg_sl ([.ref xo, .int (nI c0), .int (nI j), .int ix, .ref ou])).length) Slot.unset).toArray = ls at hl ⊢
  have hl : lv_has ls 6 [(0, .ref xo), (1, .int (nI c0)), (2, .int (nI j)), (3, .int ix), (4, .ref ou)] := hl
  rw [← hHe]
  refine lv_aload hx hb dL_reduce_0 (lv_at hl 4 rfl) ?_
  refine lv_iconst (v := 0) hx hb dL_reduce_2 (by decide) ?_
  refine lv_aload_n hx hb dL_reduce_3 rfl (lv_at hl 0 rfl) ?_
  refine lv_iload_n hx hb dL_reduce_4 rfl (lv_at hl 1 rfl) ?_
  refine lv_iload_n hx hb dL_reduce_5 rfl (lv_at hl 2 rfl) ?_
  refine lv_iload_n hx hb dL_reduce_6 rfl (lv_at hl 3 rfl) ?_
  have hP9 := hP.sub (ws' := [oO xo 5 [.ref lc, .ref lt, .ref bo, .ref yo, .ref no], oO lc 7 [.int m1, .ref ec, .int (nI nC)], aO D ec 10 (lsF cl nC), oO (cl c0) 0 [.int len, .ref ta, .ref (q 0), .ref (q 1)], aT D ta 4 (tkF t), oO (t j) 4 [.ref r1, .ref r2, .ref r3], oO r1 2 [.ref a1, .int (nI sz)], oO r2 2 [.ref a2, .int (nI sz)], oO r3 2 [.ref a3, .int (nI sz)], aI D a1 16 ft, aI D a2 16 fv, aI D a3 16 fe]) [0, 1, 2, 3, 4, 5, 6, 7, 8, 9, 10, 11] rfl
  have hD9 := (hD.sub (ws' := [oO xo 5 [.ref lc, .ref lt, .ref bo, .ref yo, .ref no], oO lc 7 [.int m1, .ref ec, .int (nI nC)], aO D ec 10 (lsF cl nC), oO (cl c0) 0 [.int len, .ref ta, .ref (q 0), .ref (q 1)], aT D ta 4 (tkF t), oO (t j) 4 [.ref r1, .ref r2, .ref r3], oO r1 2 [.ref a1, .int (nI sz)], oO r2 2 [.ref a2, .int (nI sz)], oO r3 2 [.ref a3, .int (nI sz)], aI D a1 16 ft, aI D a2 16 fv, aI D a3 16 fe]) [0, 1, 2, 3, 4, 5, 6, 7, 8, 9, 10, 11] (by decide) rfl).weaken (B := fun _ => True) (fun _ _ _ _ => trivial)
  refine ki (wr := [aL D ou 1 wf]) (rV (rest := [.int 0, .ref ou]) (qc := (RX5, TX5, 5)) [.int (nI c0), .int (nI j), .int ix] 3 0 0 hC (c_reduce_few l D (xo := xo) (lc := lc) (lt := lt) (bo := bo) (yo := yo) (no := no) (ec := ec) (nC := nC) (c0 := c0) (m1 := m1) (cl := cl) (ta := ta) (len := len) (q := q) (t := t) (j := j) (r1 := r1) (r2 := r2) (r3 := r3) (a1 := a1) (a2 := a2) (a3 := a3) (sz := sz) (ft := ft) (fv := fv) (fe := fe) (ix := ix) (hz0 := H.size) (hnC) (hc) (hj) (h) (h3)) rfl (hP 0 _ rfl) (gV mM_L_53 mI_X5_reduce mS_X5_reduce mN_X5 mC_X5_reduce) (by decide +kernel) rfl rfl ⟨Nat.le_of_ble_eq_true rfl, Nat.le_of_ble_eq_true rfl⟩ hG hP9 hD9 rfl hl.1 rfl (Nat.le_of_ble_eq_true rfl) dL_reduce_7 ⟨Nat.le_of_ble_eq_true rfl, Nat.le_of_ble_eq_true rfl⟩) hP hD hS hA [0, 1, 2, 3, 4, 5, 6, 7, 8, 9, 10, 11] [12] rfl rfl (by decide) (by decide) (fun r7 u7 H locs h7 hP hD hS hz hfr => ?_)
  have hP : va_P D cls [aL D ou 1 wf, oO xo 5 [.ref lc, .ref lt, .ref bo, .ref yo, .ref no], oO lc 7 [.int m1, .ref ec, .int (nI nC)], aO D ec 10 (lsF cl nC), oO (cl c0) 0 [.int len, .ref ta, .ref (q 0), .ref (q 1)], aT D ta 4 (tkF t), oO (t j) 4 [.ref r1, .ref r2, .ref r3], oO r1 2 [.ref a1, .int (nI sz)], oO r2 2 [.ref a2, .int (nI sz)], oO r3 2 [.ref a3, .int (nI sz)], aI D a1 16 ft, aI D a2 16 fv, aI D a3 16 fe] H := hP
  have hD : va_D A [aL D ou 1 wf, oO xo 5 [.ref lc, .ref lt, .ref bo, .ref yo, .ref no], oO lc 7 [.int m1, .ref ec, .int (nI nC)], aO D ec 10 (lsF cl nC), oO (cl c0) 0 [.int len, .ref ta, .ref (q 0), .ref (q 1)], aT D ta 4 (tkF t), oO (t j) 4 [.ref r1, .ref r2, .ref r3], oO r1 2 [.ref a1, .int (nI sz)], oO r2 2 [.ref a2, .int (nI sz)], oO r3 2 [.ref a3, .int (nI sz)], aI D a1 16 ft, aI D a2 16 fv, aI D a3 16 fe] := hD
  obtain rfl : r7 = (nI sz) := h7
  refine lv_i2l hx hb dL_reduce_10 rfl ?_
  refine lst (n := 1) (j := 0) hx hb hG hP hD hS 0 rfl (by omega) (by omega) dL_reduce_11 (fun H locs hP hD hS => ?_)
  have hP : va_P D cls [aL D ou 1 (vp_updL wf 0 ((nI sz).toInt64)), oO xo 5 [.ref lc, .ref lt, .ref bo, .ref yo, .ref no], oO lc 7 [.int m1, .ref ec, .int (nI nC)], aO D ec 10 (lsF cl nC), oO (cl c0) 0 [.int len, .ref ta, .ref (q 0), .ref (q 1)], aT D ta 4 (tkF t), oO (t j) 4 [.ref r1, .ref r2, .ref r3], oO r1 2 [.ref a1, .int (nI sz)], oO r2 2 [.ref a2, .int (nI sz)], oO r3 2 [.ref a3, .int (nI sz)], aI D a1 16 ft, aI D a2 16 fv, aI D a3 16 fe] H := hP
  have hD : va_D A [aL D ou 1 (vp_updL wf 0 ((nI sz).toInt64)), oO xo 5 [.ref lc, .ref lt, .ref bo, .ref yo, .ref no], oO lc 7 [.int m1, .ref ec, .int (nI nC)], aO D ec 10 (lsF cl nC), oO (cl c0) 0 [.int len, .ref ta, .ref (q 0), .ref (q 1)], aT D ta 4 (tkF t), oO (t j) 4 [.ref r1, .ref r2, .ref r3], oO r1 2 [.ref a1, .int (nI sz)], oO r2 2 [.ref a2, .int (nI sz)], oO r3 2 [.ref a3, .int (nI sz)], aI D a1 16 ft, aI D a2 16 fv, aI D a3 16 fe] := hD
  refine lv_goto (tgt := 23) hx hb dL_reduce_12 (by decide) ?_
  refine lv_iconst (v := 0) hx hb dL_reduce_23 (by decide) ?_
  refine Wi () hx hb hr hlk ?_ (hP.sub [1, 2, 3, 4, 5, 6, 7, 8, 9, 10, 11, 12, 0] rfl) (hD.sub [1, 2, 3, 4, 5, 6, 7, 8, 9, 10, 11, 12, 0] (by decide) rfl) hS (Nat.le_of_ble_eq_true rfl) (by first | exact Nat.le_of_ble_eq_true rfl | exact Nat.le_of_eq (Nat.zero_add _)) dL_reduce_24
  exact rfl
set_option maxHeartbeats 400000 in
set_option maxRecDepth 100000 in
theorem l_reduce (l : Launch) (D : va_G) {xo lc lt bo yo no : Nat} {ec nC c0 : Nat} {m1 : Int32} {cl : Nat → Nat} {ta : Nat} {len : Int32} {q t : Nat → Nat} {j r1 r2 r3 a1 a2 a3 sz : Nat} {ft fv fe : Nat → Int32} {ix : Int32} {ou : Nat} {wf : Nat → Int64} (hz0 : Nat) (hnC : nC ≤ 6) (hc : c0 < nC) (hj : j < 4) (h : 0 ≤ ix ∧ ix ≤ 1000) (hs : sz ≤ 16) (h3 : 3 ≤ sz) (hT : tOK ft sz) : Met l yL_reduce (wsW_ yL_reduce cL_reduce 6 (some .int) [(0, 12, 15, 21), (0, 12, 19, 13)]) ({ frames := 7, cells := 0, slots := 0, locals := 153 } : Room) (va_Pc [.ref xo, .int (nI c0), .int (nI j), .int ix, .ref ou] (SW D [oO xo 5 [.ref lc, .ref lt, .ref bo, .ref yo, .ref no], oO lc 7 [.int m1, .ref ec, .int (nI nC)], aO D ec 10 (lsF cl nC), oO (cl c0) 0 [.int len, .ref ta, .ref (q 0), .ref (q 1)], aT D ta 4 (tkF t), oO (t j) 4 [.ref r1, .ref r2, .ref r3], oO r1 2 [.ref a1, .int (nI sz)], oO r2 2 [.ref a2, .int (nI sz)], oO r3 2 [.ref a3, .int (nI sz)], aI D a1 16 ft, aI D a2 16 fv, aI D a3 16 fe, aL D ou 1 wf] hz0)) (va_Qi (fun r _ => r = 0) (AT D (va_A [oO xo 5 [.ref lc, .ref lt, .ref bo, .ref yo, .ref no], oO lc 7 [.int m1, .ref ec, .int (nI nC)], aO D ec 10 (lsF cl nC), oO (cl c0) 0 [.int len, .ref ta, .ref (q 0), .ref (q 1)], aT D ta 4 (tkF t), oO (t j) 4 [.ref r1, .ref r2, .ref r3], oO r1 2 [.ref a1, .int (nI sz)], oO r2 2 [.ref a2, .int (nI sz)], oO r3 2 [.ref a3, .int (nI sz)], aI D a1 16 ft, aI D a2 16 fv, aI D a3 16 fe, aL D ou 1 wf] hz0) (fun _ : Unit => [oO xo 5 [.ref lc, .ref lt, .ref bo, .ref yo, .ref no], oO lc 7 [.int m1, .ref ec, .int (nI nC)], aO D ec 10 (lsF cl nC), oO (cl c0) 0 [.int len, .ref ta, .ref (q 0), .ref (q 1)], aT D ta 4 (tkF t), oO (t j) 4 [.ref r1, .ref r2, .ref r3], oO r1 2 [.ref a1, .int (nI (thN (nearP ft fv fe ix) sz))], oO r2 2 [.ref a2, .int (nI (thN (nearP ft fv fe ix) sz))], oO r3 2 [.ref a3, .int (nI (thN (nearP ft fv fe ix) sz))], aI D a1 16 (thF ft (thI (nearP ft fv fe ix) sz) (thN (nearP ft fv fe ix) sz)), aI D a2 16 (thF fv (thI (nearP ft fv fe ix) sz) (thN (nearP ft fv fe ix) sz)), aI D a3 16 (thF fe (thI (nearP ft fv fe ix) sz) (thN (nearP ft fv fe ix) sz)), aL D ou 1 (vp_updL wf 0 (nI (thN (nearP ft fv fe ix) sz)).toInt64)])) (va_A [oO xo 5 [.ref lc, .ref lt, .ref bo, .ref yo, .ref no], oO lc 7 [.int m1, .ref ec, .int (nI nC)], aO D ec 10 (lsF cl nC), oO (cl c0) 0 [.int len, .ref ta, .ref (q 0), .ref (q 1)], aT D ta 4 (tkF t), oO (t j) 4 [.ref r1, .ref r2, .ref r3], oO r1 2 [.ref a1, .int (nI sz)], oO r2 2 [.ref a2, .int (nI sz)], oO r3 2 [.ref a3, .int (nI sz)], aI D a1 16 ft, aI D a2 16 fv, aI D a3 16 fe, aL D ou 1 wf] hz0)) 0 0 (va_A [oO xo 5 [.ref lc, .ref lt, .ref bo, .ref yo, .ref no], oO lc 7 [.int m1, .ref ec, .int (nI nC)], aO D ec 10 (lsF cl nC), oO (cl c0) 0 [.int len, .ref ta, .ref (q 0), .ref (q 1)], aT D ta 4 (tkF t), oO (t j) 4 [.ref r1, .ref r2, .ref r3], oO r1 2 [.ref a1, .int (nI sz)], oO r2 2 [.ref a2, .int (nI sz)], oO r3 2 [.ref a3, .int (nI sz)], aI D a1 16 ft, aI D a2 16 fv, aI D a3 16 fe, aL D ou 1 wf] hz0) := by
  refine va_MetW (hh := [(0, 12, 15, 21), (0, 12, 19, 13)]) (cc := cL_reduce) (maxL := 6) (ret := (some .int)) (by decide +kernel) rfl ?_
  intro p e s m args below meth c s₁ B hml hv
  obtain ⟨rfl, hsz, hG, hP, hD0⟩ := hv
  have hx := B.exec
  have hb := B.bytes
  have hr := B.returns
  have hts : ∀ w ∈ wsL_law, w.before _ s = true := fun w h => atoms_spec (ws := (wsW_ yL_reduce cL_reduce 6 (some .int) [(0, 12, 15, 21), (0, 12, 19, 13)])) B.pre w (List.mem_cons_of_mem _ (wsL2_in w h))
  have hown : s.vm.findClass RL = some m.cls := findClass_of_methodNamed B.named
  have hlk := B.notSynchronized
  have hC : CallFix p m c cL_reduce 6 s _ wsL_law RL := ⟨hx, hb, hml, hown, hts⟩
  subst hsz
  have hD := hD0.self (sz := s.heap.size)
  generalize hAe : va_A [oO xo 5 [.ref lc, .ref lt, .ref bo, .ref yo, .ref no], oO lc 7 [.int m1, .ref ec, .int (nI nC)], aO D ec 10 (lsF cl nC), oO (cl c0) 0 [.int len, .ref ta, .ref (q 0), .ref (q 1)], aT D ta 4 (tkF t), oO (t j) 4 [.ref r1, .ref r2, .ref r3], oO r1 2 [.ref a1, .int (nI sz)], oO r2 2 [.ref a2, .int (nI sz)], oO r3 2 [.ref a3, .int (nI sz)], aI D a1 16 ft, aI D a2 16 fv, aI D a3 16 fe, aL D ou 1 wf] s.heap.size = A at hD ⊢
  have hA : ∀ q : Nat, s.heap.size ≤ q → A q := fun q h => by rw [← hAe]; exact Or.inr h
  have hS : va_S A s.heap s.heap [] := va_S.rf
  obtain ⟨H, hHe⟩ : ∃ H, H = s.heap := ⟨_, rfl⟩
  rw [← hHe] at hP
  have hS : va_S A s.heap H [] := by rw [hHe]; exact hS
  have hl := lv_entry ([.ref xo, .int (nI c0), .int (nI j), .int ix, .ref ou]) (n := 6) (Nat.le_of_ble_eq_true rfl)
  rw [lg_entry_eq]
  generalize (lg_sl ([.ref xo, .int (nI c0), .int (nI j), .int ix, .ref ou]) ++ List.replicate (6 - (lg_sl ([.ref xo, .int (nI c0), .int (nI j), .int ix, .ref ou])).length) Slot.unset).toArray = ls at hl ⊢
  have hl : lv_has ls 6 [(0, .ref xo), (1, .int (nI c0)), (2, .int (nI j)), (3, .int ix), (4, .ref ou)] := hl
  rw [← hHe]
  refine lv_aload hx hb dL_reduce_0 (lv_at hl 4 rfl) ?_
  refine lv_iconst (v := 0) hx hb dL_reduce_2 (by decide) ?_
  refine lv_aload_n hx hb dL_reduce_3 rfl (lv_at hl 0 rfl) ?_
  refine lv_iload_n hx hb dL_reduce_4 rfl (lv_at hl 1 rfl) ?_
  refine lv_iload_n hx hb dL_reduce_5 rfl (lv_at hl 2 rfl) ?_
  refine lv_iload_n hx hb dL_reduce_6 rfl (lv_at hl 3 rfl) ?_
  have hP9 := hP.sub (ws' := [oO xo 5 [.ref lc, .ref lt, .ref bo, .ref yo, .ref no], oO lc 7 [.int m1, .ref ec, .int (nI nC)], aO D ec 10 (lsF cl nC), oO (cl c0) 0 [.int len, .ref ta, .ref (q 0), .ref (q 1)], aT D ta 4 (tkF t), oO (t j) 4 [.ref r1, .ref r2, .ref r3], oO r1 2 [.ref a1, .int (nI sz)], oO r2 2 [.ref a2, .int (nI sz)], oO r3 2 [.ref a3, .int (nI sz)], aI D a1 16 ft, aI D a2 16 fv, aI D a3 16 fe]) [0, 1, 2, 3, 4, 5, 6, 7, 8, 9, 10, 11] rfl
  have hD9 := (hD.sub (ws' := [oO xo 5 [.ref lc, .ref lt, .ref bo, .ref yo, .ref no], oO lc 7 [.int m1, .ref ec, .int (nI nC)], aO D ec 10 (lsF cl nC), oO (cl c0) 0 [.int len, .ref ta, .ref (q 0), .ref (q 1)], aT D ta 4 (tkF t), oO (t j) 4 [.ref r1, .ref r2, .ref r3], oO r1 2 [.ref a1, .int (nI sz)], oO r2 2 [.ref a2, .int (nI sz)], oO r3 2 [.ref a3, .int (nI sz)], aI D a1 16 ft, aI D a2 16 fv, aI D a3 16 fe]) [0, 1, 2, 3, 4, 5, 6, 7, 8, 9, 10, 11] (by decide) rfl).weaken (B := fun _ => True) (fun _ _ _ _ => trivial)
  refine ki (wr := [aL D ou 1 wf]) (rV (rest := [.int 0, .ref ou]) (qc := (RX5, TX5, 5)) [.int (nI c0), .int (nI j), .int ix] 3 0 0 hC (c_reduce l D (xo := xo) (lc := lc) (lt := lt) (bo := bo) (yo := yo) (no := no) (ec := ec) (nC := nC) (c0 := c0) (m1 := m1) (cl := cl) (ta := ta) (len := len) (q := q) (t := t) (j := j) (r1 := r1) (r2 := r2) (r3 := r3) (a1 := a1) (a2 := a2) (a3 := a3) (sz := sz) (ft := ft) (fv := fv) (fe := fe) (ix := ix) (hz0 := H.size) (hnC) (hc) (hj) (h) (hs) (h3) (hT)) rfl (hP 0 _ rfl) (gV mM_L_53 mI_X5_reduce mS_X5_reduce mN_X5 mC_X5_reduce) (by decide +kernel) rfl rfl ⟨Nat.le_of_ble_eq_true rfl, Nat.le_of_ble_eq_true rfl⟩ hG hP9 hD9 rfl hl.1 rfl (Nat.le_of_ble_eq_true rfl) dL_reduce_7 ⟨Nat.le_of_ble_eq_true rfl, Nat.le_of_ble_eq_true rfl⟩) hP hD hS hA [0, 1, 2, 3, 4, 5, 6, 7, 8, 9, 10, 11] [12] rfl rfl (by decide) (by decide) (fun r7 u7 H locs h7 hP hD hS hz hfr => ?_)
  have hP : va_P D cls [aL D ou 1 wf, oO xo 5 [.ref lc, .ref lt, .ref bo, .ref yo, .ref no], oO lc 7 [.int m1, .ref ec, .int (nI nC)], aO D ec 10 (lsF cl nC), oO (cl c0) 0 [.int len, .ref ta, .ref (q 0), .ref (q 1)], aT D ta 4 (tkF t), oO (t j) 4 [.ref r1, .ref r2, .ref r3], oO r1 2 [.ref a1, .int (nI (thN (nearP ft fv fe ix) sz))], oO r2 2 [.ref a2, .int (nI (thN (nearP ft fv fe ix) sz))], oO r3 2 [.ref a3, .int (nI (thN (nearP ft fv fe ix) sz))], aI D a1 16 (thF ft (thI (nearP ft fv fe ix) sz) (thN (nearP ft fv fe ix) sz)), aI D a2 16 (thF fv (thI (nearP ft fv fe ix) sz) (thN (nearP ft fv fe ix) sz)), aI D a3 16 (thF fe (thI (nearP ft fv fe ix) sz) (thN (nearP ft fv fe ix) sz))] H := hP
  have hD : va_D A [aL D ou 1 wf, oO xo 5 [.ref lc, .ref lt, .ref bo, .ref yo, .ref no], oO lc 7 [.int m1, .ref ec, .int (nI nC)], aO D ec 10 (lsF cl nC), oO (cl c0) 0 [.int len, .ref ta, .ref (q 0), .ref (q 1)], aT D ta 4 (tkF t), oO (t j) 4 [.ref r1, .ref r2, .ref r3], oO r1 2 [.ref a1, .int (nI (thN (nearP ft fv fe ix) sz))], oO r2 2 [.ref a2, .int (nI (thN (nearP ft fv fe ix) sz))], oO r3 2 [.ref a3, .int (nI (thN (nearP ft fv fe ix) sz))], aI D a1 16 (thF ft (thI (nearP ft fv fe ix) sz) (thN (nearP ft fv fe ix) sz)), aI D a2 16 (thF fv (thI (nearP ft fv fe ix) sz) (thN (nearP ft fv fe ix) sz)), aI D a3 16 (thF fe (thI (nearP ft fv fe ix) sz) (thN (nearP ft fv fe ix) sz))] := hD
  obtain rfl : r7 = (nI (thN (nearP ft fv fe ix) sz)) := h7
  refine lv_i2l hx hb dL_reduce_10 rfl ?_
  refine lst (n := 1) (j := 0) hx hb hG hP hD hS 0 rfl (by omega) (by omega) dL_reduce_11 (fun H locs hP hD hS => ?_)
  have hP : va_P D cls [aL D ou 1 (vp_updL wf 0 ((nI (thN (nearP ft fv fe ix) sz)).toInt64)), oO xo 5 [.ref lc, .ref lt, .ref bo, .ref yo, .ref no], oO lc 7 [.int m1, .ref ec, .int (nI nC)], aO D ec 10 (lsF cl nC), oO (cl c0) 0 [.int len, .ref ta, .ref (q 0), .ref (q 1)], aT D ta 4 (tkF t), oO (t j) 4 [.ref r1, .ref r2, .ref r3], oO r1 2 [.ref a1, .int (nI (thN (nearP ft fv fe ix) sz))], oO r2 2 [.ref a2, .int (nI (thN (nearP ft fv fe ix) sz))], oO r3 2 [.ref a3, .int (nI (thN (nearP ft fv fe ix) sz))], aI D a1 16 (thF ft (thI (nearP ft fv fe ix) sz) (thN (nearP ft fv fe ix) sz)), aI D a2 16 (thF fv (thI (nearP ft fv fe ix) sz) (thN (nearP ft fv fe ix) sz)), aI D a3 16 (thF fe (thI (nearP ft fv fe ix) sz) (thN (nearP ft fv fe ix) sz))] H := hP
  have hD : va_D A [aL D ou 1 (vp_updL wf 0 ((nI (thN (nearP ft fv fe ix) sz)).toInt64)), oO xo 5 [.ref lc, .ref lt, .ref bo, .ref yo, .ref no], oO lc 7 [.int m1, .ref ec, .int (nI nC)], aO D ec 10 (lsF cl nC), oO (cl c0) 0 [.int len, .ref ta, .ref (q 0), .ref (q 1)], aT D ta 4 (tkF t), oO (t j) 4 [.ref r1, .ref r2, .ref r3], oO r1 2 [.ref a1, .int (nI (thN (nearP ft fv fe ix) sz))], oO r2 2 [.ref a2, .int (nI (thN (nearP ft fv fe ix) sz))], oO r3 2 [.ref a3, .int (nI (thN (nearP ft fv fe ix) sz))], aI D a1 16 (thF ft (thI (nearP ft fv fe ix) sz) (thN (nearP ft fv fe ix) sz)), aI D a2 16 (thF fv (thI (nearP ft fv fe ix) sz) (thN (nearP ft fv fe ix) sz)), aI D a3 16 (thF fe (thI (nearP ft fv fe ix) sz) (thN (nearP ft fv fe ix) sz))] := hD
  refine lv_goto (tgt := 23) hx hb dL_reduce_12 (by decide) ?_
  refine lv_iconst (v := 0) hx hb dL_reduce_23 (by decide) ?_
  refine Wi () hx hb hr hlk ?_ (hP.sub [1, 2, 3, 4, 5, 6, 7, 8, 9, 10, 11, 12, 0] rfl) (hD.sub [1, 2, 3, 4, 5, 6, 7, 8, 9, 10, 11, 12, 0] (by decide) rfl) hS (Nat.le_of_ble_eq_true rfl) (by first | exact Nat.le_of_ble_eq_true rfl | exact Nat.le_of_eq (Nat.zero_add _)) dL_reduce_24
  exact rfl
set_option maxHeartbeats 400000 in
set_option maxRecDepth 100000 in
theorem h_setBase_1 (l : Launch) (D : va_G) (hns : l.stackTraces = false) {xo lc lt bo yo no : Nat} {p1 y : Int32} {ou : Nat} (hz0 : Nat) (hp : ¬ ((0 : Int32) ≤ p1 ∧ p1 ≤ 3)) : Met l yL_setBase (wsW_ yL_setBase cL_setBase 5 (some .int) [(0, 10, 13, 21), (0, 10, 17, 13)]) ({ frames := 7, cells := 1, slots := 6, locals := 118 } : Room) (va_Pc [.ref xo, .int p1, .int y, .ref ou] (TW D [oO xo 5 [.ref lc, .ref lt, .ref bo, .ref yo, .ref no]] hz0)) (va_Qi (fun r (_ : Unit) => r = 1) (fun _ _ => True) (va_A [] hz0)) 1 6 (va_A [] hz0) := by
  refine va_MetW (hh := [(0, 10, 13, 21), (0, 10, 17, 13)]) (cc := cL_setBase) (maxL := 5) (ret := (some .int)) (by decide +kernel) rfl ?_
  intro p e s m args below meth c s₁ B hml hv
  obtain ⟨rfl, hsz, hG, hP, hZ⟩ := hv
  subst hsz
  have hx := B.exec
  have hb := B.bytes
  have hr := B.returns
  have hts : ∀ w ∈ wsL_law, w.before _ s = true := fun w h => atoms_spec (ws := (wsW_ yL_setBase cL_setBase 5 (some .int) [(0, 10, 13, 21), (0, 10, 17, 13)])) B.pre w (List.mem_cons_of_mem _ (wsL2_in w h))
  have hk15 : (Cond.classLink RL 15 "java/lang/IllegalStateException").before _ s = true := atoms_spec (ws := (wsW_ yL_setBase cL_setBase 5 (some .int) [(0, 10, 13, 21), (0, 10, 17, 13)])) B.pre _ (List.mem_cons_of_mem _ List.mem_cons_self)
  have hown : s.vm.findClass RL = some m.cls := findClass_of_methodNamed B.named
  have hlk := B.notSynchronized
  have hC : CallFix p m c cL_setBase 5 s _ wsL_law RL := ⟨hx, hb, hml, hown, hts⟩
  have hS : va_S (va_A [] s.heap.size) s.heap s.heap [] := va_S.rf
  have hl := lv_entry ([.ref xo, .int p1, .int y, .ref ou]) (n := 5) (Nat.le_of_ble_eq_true rfl)
  rw [lg_entry_eq]
  generalize (lg_sl ([.ref xo, .int p1, .int y, .ref ou]) ++ List.replicate (5 - (lg_sl ([.ref xo, .int p1, .int y, .ref ou])).length) Slot.unset).toArray = ls at hl ⊢
  have hl : lv_has ls 5 [(0, .ref xo), (1, .int p1), (2, .int y), (3, .ref ou)] := hl
  refine lv_aload_n hx hb dL_setBase_0 rfl (lv_at hl 3 rfl) ?_
  refine lv_iconst (v := 0) hx hb dL_setBase_1 (by decide) ?_
  refine lv_aload_n hx hb dL_setBase_2 rfl (lv_at hl 0 rfl) ?_
  refine lv_iload_n hx hb dL_setBase_3 rfl (lv_at hl 1 rfl) ?_
  refine lv_iload_n hx hb dL_setBase_4 rfl (lv_at hl 2 rfl) ?_
  have hP9 : va_P D cls [] s.heap := fun k q h => by simp at h
  refine vx_calli (A0 := va_A [] s.heap.size) (rX (rest := [.int 0, .ref ou]) (qc := (RX5, TX5, 5)) [.int p1, .int y] 2 hC (t_setBase_1 l D hns (xo := xo) (lc := lc) (lt := lt) (bo := bo) (yo := yo) (no := no) (p1 := p1) (y := y) (hz0 := s.heap.size) (hp)) rfl (hP 0 _ rfl) (gV mM_L_56 mI_X5_setBase mS_X5_setBase mN_X5 mC_X5_setBase) (by decide +kernel) rfl rfl ⟨Nat.le_of_ble_eq_true rfl, Nat.le_of_ble_eq_true rfl⟩ hG hP9 hZ rfl hl.1 rfl (Nat.le_of_ble_eq_true rfl) dL_setBase_5 ⟨Nat.le_of_ble_eq_true rfl, Nat.le_of_ble_eq_true rfl⟩) hS (fun q _ h => h) (fun q h => h) (fun q _ h => h) (fun E ce q9 u9 t H1 locs1 ht hvm hp9 hB hz hk hS1 hce hcv hcl => ?_) (fun r u t H1 locs1 ht hvm hp9 _ _ _ _ => hp9.elim)
  obtain rfl : E = "java/lang/IndexOutOfBoundsException" := hB
  have htb := vx_table (x := yL_setBase) B (hts _ mW_L_setBase)
  refine vx_catch (own := RL) (name := "java/lang/IndexOutOfBoundsException") (pc := 5) (rest := [.int 0, .ref ou]) hown [] ⟨0, 10, 13, 21⟩ [⟨0, 10, 17, 13⟩] (by rw [htb]; rfl) (fun z hz9 => absurd hz9 List.not_mem_nil) rfl (by decide) (hts _ mK_L_21) (va_Nw.use rfl (gkC hG 4 rfl)) hce hcv hcl ?_
  refine lv_astore (lv' := [(4, .ref q9), (0, .ref xo), (1, .int p1), (2, .int y), (3, .ref ou)]) hx hb dL_setBase_13 hl (by decide) rfl (fun ls hl => ?_)
  refine lv_iconst (v := 1) hx hb dL_setBase_15 (by decide) ?_
  exact W.iret (v := 1) hx hb hr (fun t ht _ => ⟨⟨_, (), rfl, rfl, trivial⟩, hS1.F ht⟩) hS1.2.2 dL_setBase_16 hlk
set_option maxHeartbeats 400000 in
set_option maxRecDepth 100000 in
theorem h_setBase_2 (l : Launch) (D : va_G) (hns : l.stackTraces = false) {xo lc lt bo yo no : Nat} {j : Nat} {y : Int32} {ou : Nat} (hz0 : Nat) (hj : j < 4) (h : ¬ ((-10000 : Int32) ≤ y ∧ y ≤ 10000)) : Met l yL_setBase (wsW_ yL_setBase cL_setBase 5 (some .int) [(0, 10, 13, 21), (0, 10, 17, 13)]) ({ frames := 7, cells := 1, slots := 6, locals := 118 } : Room) (va_Pc [.ref xo, .int (nI j), .int y, .ref ou] (TW D [oO xo 5 [.ref lc, .ref lt, .ref bo, .ref yo, .ref no]] hz0)) (va_Qi (fun r (_ : Unit) => r = 2) (fun _ _ => True) (va_A [] hz0)) 1 6 (va_A [] hz0) := by
  refine va_MetW (hh := [(0, 10, 13, 21), (0, 10, 17, 13)]) (cc := cL_setBase) (maxL := 5) (ret := (some .int)) (by decide +kernel) rfl ?_
  intro p e s m args below meth c s₁ B hml hv
  obtain ⟨rfl, hsz, hG, hP, hZ⟩ := hv
  subst hsz
  have hx := B.exec
  have hb := B.bytes
  have hr := B.returns
  have hts : ∀ w ∈ wsL_law, w.before _ s = true := fun w h => atoms_spec (ws := (wsW_ yL_setBase cL_setBase 5 (some .int) [(0, 10, 13, 21), (0, 10, 17, 13)])) B.pre w (List.mem_cons_of_mem _ (wsL2_in w h))
  have hk15 : (Cond.classLink RL 15 "java/lang/IllegalStateException").before _ s = true := atoms_spec (ws := (wsW_ yL_setBase cL_setBase 5 (some .int) [(0, 10, 13, 21), (0, 10, 17, 13)])) B.pre _ (List.mem_cons_of_mem _ List.mem_cons_self)
  have hown : s.vm.findClass RL = some m.cls := findClass_of_methodNamed B.named
  have hlk := B.notSynchronized
  have hC : CallFix p m c cL_setBase 5 s _ wsL_law RL := ⟨hx, hb, hml, hown, hts⟩
  have hS : va_S (va_A [] s.heap.size) s.heap s.heap [] := va_S.rf
  have hl := lv_entry ([.ref xo, .int (nI j), .int y, .ref ou]) (n := 5) (Nat.le_of_ble_eq_true rfl)
  rw [lg_entry_eq]
  generalize (lg_sl ([.ref xo, .int (nI j), .int y, .ref ou]) ++ List.replicate (5 - (lg_sl ([.ref xo, .int (nI j), .int y, .ref ou])).length) Slot.unset).toArray = ls at hl ⊢
  have hl : lv_has ls 5 [(0, .ref xo), (1, .int (nI j)), (2, .int y), (3, .ref ou)] := hl
  refine lv_aload_n hx hb dL_setBase_0 rfl (lv_at hl 3 rfl) ?_
  refine lv_iconst (v := 0) hx hb dL_setBase_1 (by decide) ?_
  refine lv_aload_n hx hb dL_setBase_2 rfl (lv_at hl 0 rfl) ?_
  refine lv_iload_n hx hb dL_setBase_3 rfl (lv_at hl 1 rfl) ?_
  refine lv_iload_n hx hb dL_setBase_4 rfl (lv_at hl 2 rfl) ?_
  have hP9 : va_P D cls [] s.heap := fun k q h => by simp at h
  refine vx_calli (A0 := va_A [] s.heap.size) (rX (rest := [.int 0, .ref ou]) (qc := (RX5, TX5, 5)) [.int (nI j), .int y] 2 hC (t_setBase_2 l D hns (xo := xo) (lc := lc) (lt := lt) (bo := bo) (yo := yo) (no := no) (j := j) (y := y) (hz0 := s.heap.size) (hj) (h)) rfl (hP 0 _ rfl) (gV mM_L_56 mI_X5_setBase mS_X5_setBase mN_X5 mC_X5_setBase) (by decide +kernel) rfl rfl ⟨Nat.le_of_ble_eq_true rfl, Nat.le_of_ble_eq_true rfl⟩ hG hP9 hZ rfl hl.1 rfl (Nat.le_of_ble_eq_true rfl) dL_setBase_5 ⟨Nat.le_of_ble_eq_true rfl, Nat.le_of_ble_eq_true rfl⟩) hS (fun q _ h => h) (fun q h => h) (fun q _ h => h) (fun E ce q9 u9 t H1 locs1 ht hvm hp9 hB hz hk hS1 hce hcv hcl => ?_) (fun r u t H1 locs1 ht hvm hp9 _ _ _ _ => hp9.elim)
  obtain rfl : E = "java/lang/IllegalArgumentException" := hB
  have htb := vx_table (x := yL_setBase) B (hts _ mW_L_setBase)
  refine vx_catch (own := RL) (name := "java/lang/IllegalArgumentException") (pc := 5) (rest := [.int 0, .ref ou]) hown [⟨0, 10, 13, 21⟩] ⟨0, 10, 17, 13⟩ [] (by rw [htb]; rfl) (fun z hz9 => by
    simp only [List.mem_cons, List.not_mem_nil, or_false] at hz9
    rcases hz9 with rfl
    · exact Or.inr ⟨by decide, _, hts _ mK_L_21, gkN hG 1 rfl⟩) rfl (by decide) (hts _ mK_L_13) (va_Nw.use rfl (gkC hG 2 rfl)) hce hcv hcl ?_
  refine lv_astore (lv' := [(4, .ref q9), (0, .ref xo), (1, .int (nI j)), (2, .int y), (3, .ref ou)]) hx hb dL_setBase_17 hl (by decide) rfl (fun ls hl => ?_)
  refine lv_iconst (v := 2) hx hb dL_setBase_19 (by decide) ?_
  exact W.iret (v := 2) hx hb hr (fun t ht _ => ⟨⟨_, (), rfl, rfl, trivial⟩, hS1.F ht⟩) hS1.2.2 dL_setBase_20 hlk
set_option maxHeartbeats 400000 in
set_option maxRecDepth 100000 in
theorem l_setBase (l : Launch) (D : va_G) {xo lc lt bo yo no : Nat} {ba : Nat} {bf : Nat → Int32} {j : Nat} {y : Int32} {ou : Nat} {wf : Nat → Int64} (hz0 : Nat) (hj : j < 4) (h : (-10000 : Int32) ≤ y ∧ y ≤ 10000) : Met l yL_setBase (wsW_ yL_setBase cL_setBase 5 (some .int) [(0, 10, 13, 21), (0, 10, 17, 13)]) ({ frames := 7, cells := 0, slots := 0, locals := 118 } : Room) (va_Pc [.ref xo, .int (nI j), .int y, .ref ou] (SW D [oO xo 5 [.ref lc, .ref lt, .ref bo, .ref yo, .ref no], oO bo 2 [.ref ba, .int (nI 4)], aI D ba 4 bf, aL D ou 1 wf] hz0)) (va_Qi (fun r _ => r = 0) (AT D (va_A [oO xo 5 [.ref lc, .ref lt, .ref bo, .ref yo, .ref no], oO bo 2 [.ref ba, .int (nI 4)], aI D ba 4 bf, aL D ou 1 wf] hz0) (fun _ : Unit => [oO xo 5 [.ref lc, .ref lt, .ref bo, .ref yo, .ref no], oO bo 2 [.ref ba, .int (nI 4)], aI D ba 4 (upd bf j y), aL D ou 1 (vp_updL wf 0 (bf j).toInt64)])) (va_A [oO xo 5 [.ref lc, .ref lt, .ref bo, .ref yo, .ref no], oO bo 2 [.ref ba, .int (nI 4)], aI D ba 4 bf, aL D ou 1 wf] hz0)) 0 0 (va_A [oO xo 5 [.ref lc, .ref lt, .ref bo, .ref yo, .ref no], oO bo 2 [.ref ba, .int (nI 4)], aI D ba 4 bf, aL D ou 1 wf] hz0) := by
  refine va_MetW (hh := [(0, 10, 13, 21), (0, 10, 17, 13)]) (cc := cL_setBase) (maxL := 5) (ret := (some .int)) (by decide +kernel) rfl ?_
  intro p e s m args below meth c s₁ B hml hv
  obtain ⟨rfl, hsz, hG, hP, hD0⟩ := hv
  have hx := B.exec
  have hb := B.bytes
  have hr := B.returns
  have hts : ∀ w ∈ wsL_law, w.before _ s = true := fun w h => atoms_spec (ws := (wsW_ yL_setBase cL_setBase 5 (some .int) [(0, 10, 13, 21), (0, 10, 17, 13)])) B.pre w (List.mem_cons_of_mem _ (wsL2_in w h))
  have hown : s.vm.findClass RL = some m.cls := findClass_of_methodNamed B.named
  have hlk := B.notSynchronized
  have hC : CallFix p m c cL_setBase 5 s _ wsL_law RL := ⟨hx, hb, hml, hown, hts⟩
  subst hsz
  have hD := hD0.self (sz := s.heap.size)
  generalize hAe : va_A [oO xo 5 [.ref lc, .ref lt, .ref bo, .ref yo, .ref no], oO bo 2 [.ref ba, .int (nI 4)], aI D ba 4 bf, aL D ou 1 wf] s.heap.size = A at hD ⊢
  have hA : ∀ q : Nat, s.heap.size ≤ q → A q := fun q h => by rw [← hAe]; exact Or.inr h
  have hS : va_S A s.heap s.heap [] := va_S.rf
  obtain ⟨H, hHe⟩ : ∃ H, H = s.heap := ⟨_, rfl⟩
  rw [← hHe] at hP
  have hS : va_S A s.heap H [] := by rw [hHe]; exact hS
  have hl := lv_entry ([.ref xo, .int (nI j), .int y, .ref ou]) (n := 5) (Nat.le_of_ble_eq_true rfl)
  rw [lg_entry_eq]
  generalize (lg_sl ([.ref xo, .int (nI j), .int y, .ref ou]) ++ List.replicate (5 - (lg_sl ([.ref xo, .int (nI j), .int y, .ref ou])).length) Slot.unset).toArray = ls at hl ⊢
  have hl : lv_has ls 5 [(0, .ref xo), (1, .int (nI j)), (2, .int y), (3, .ref ou)] := hl
  rw [← hHe]
  refine lv_aload_n hx hb dL_setBase_0 rfl (lv_at hl 3 rfl) ?_
  refine lv_iconst (v := 0) hx hb dL_setBase_1 (by decide) ?_
  refine lv_aload_n hx hb dL_setBase_2 rfl (lv_at hl 0 rfl) ?_
  refine lv_iload_n hx hb dL_setBase_3 rfl (lv_at hl 1 rfl) ?_
  refine lv_iload_n hx hb dL_setBase_4 rfl (lv_at hl 2 rfl) ?_
  have hP9 := hP.sub (ws' := [oO xo 5 [.ref lc, .ref lt, .ref bo, .ref yo, .ref no], oO bo 2 [.ref ba, .int (nI 4)], aI D ba 4 bf]) [0, 1, 2] rfl
  have hD9 := (hD.sub (ws' := [oO xo 5 [.ref lc, .ref lt, .ref bo, .ref yo, .ref no], oO bo 2 [.ref ba, .int (nI 4)], aI D ba 4 bf]) [0, 1, 2] (by decide) rfl).weaken (B := fun _ => True) (fun _ _ _ _ => trivial)
  refine ki (wr := [aL D ou 1 wf]) (rV (rest := [.int 0, .ref ou]) (qc := (RX5, TX5, 5)) [.int (nI j), .int y] 2 0 0 hC (c_setBase l D (xo := xo) (lc := lc) (lt := lt) (bo := bo) (yo := yo) (no := no) (ba := ba) (bf := bf) (j := j) (y := y) (hz0 := H.size) (hj) (h)) rfl (hP 0 _ rfl) (gV mM_L_56 mI_X5_setBase mS_X5_setBase mN_X5 mC_X5_setBase) (by decide +kernel) rfl rfl ⟨Nat.le_of_ble_eq_true rfl, Nat.le_of_ble_eq_true rfl⟩ hG hP9 hD9 rfl hl.1 rfl (Nat.le_of_ble_eq_true rfl) dL_setBase_5 ⟨Nat.le_of_ble_eq_true rfl, Nat.le_of_ble_eq_true rfl⟩) hP hD hS hA [0, 1, 2] [3] rfl rfl (by decide) (by decide) (fun r5 u5 H locs h5 hP hD hS hz hfr => ?_)
  have hP : va_P D cls [aL D ou 1 wf, oO xo 5 [.ref lc, .ref lt, .ref bo, .ref yo, .ref no], oO bo 2 [.ref ba, .int (nI 4)], aI D ba 4 (upd bf j y)] H := hP
  have hD : va_D A [aL D ou 1 wf, oO xo 5 [.ref lc, .ref lt, .ref bo, .ref yo, .ref no], oO bo 2 [.ref ba, .int (nI 4)], aI D ba 4 (upd bf j y)] := hD
  obtain rfl : r5 = (bf j) := h5
  refine lv_i2l hx hb dL_setBase_8 rfl ?_
  refine lst (n := 1) (j := 0) hx hb hG hP hD hS 0 rfl (by omega) (by omega) dL_setBase_9 (fun H locs hP hD hS => ?_)
  have hP : va_P D cls [aL D ou 1 (vp_updL wf 0 ((bf j).toInt64)), oO xo 5 [.ref lc, .ref lt, .ref bo, .ref yo, .ref no], oO bo 2 [.ref ba, .int (nI 4)], aI D ba 4 (upd bf j y)] H := hP
  have hD : va_D A [aL D ou 1 (vp_updL wf 0 ((bf j).toInt64)), oO xo 5 [.ref lc, .ref lt, .ref bo, .ref yo, .ref no], oO bo 2 [.ref ba, .int (nI 4)], aI D ba 4 (upd bf j y)] := hD
  refine lv_goto (tgt := 21) hx hb dL_setBase_10 (by decide) ?_
  refine lv_iconst (v := 0) hx hb dL_setBase_21 (by decide) ?_
  refine Wi () hx hb hr hlk ?_ (hP.sub [1, 2, 3, 0] rfl) (hD.sub [1, 2, 3, 0] (by decide) rfl) hS (Nat.le_of_ble_eq_true rfl) (by first | exact Nat.le_of_ble_eq_true rfl | exact Nat.le_of_eq (Nat.zero_add _)) dL_setBase_22
  exact rfl
set_option maxHeartbeats 400000 in
set_option maxRecDepth 100000 in
theorem h_addStrip_1 (l : Launch) (D : va_G) (hns : l.stackTraces = false) {xo lc lt bo yo no : Nat} {ec nC : Nat} {m1 : Int32} {x x1 x2 x3 : Int32} {ou : Nat} (hz0 : Nat) (hnC : nC ≤ 6) (hxx : x < 0 ∨ nI nC ≤ x) : Met l yL_addStrip (wsW_ yL_addStrip cL_addStrip 7 (some .int) [(0, 14, 17, 21), (0, 14, 21, 13), (0, 14, 25, 15)]) ({ frames := 7, cells := 1, slots := 6, locals := 191 } : Room) (va_Pc [.ref xo, .int x, .int x1, .int x2, .int x3, .ref ou] (TW D [oO xo 5 [.ref lc, .ref lt, .ref bo, .ref yo, .ref no], oO lc 7 [.int m1, .ref ec, .int (nI nC)]] hz0)) (va_Qi (fun r (_ : Unit) => r = 1) (fun _ _ => True) (va_A [] hz0)) 1 6 (va_A [] hz0) := by
  refine va_MetW (hh := [(0, 14, 17, 21), (0, 14, 21, 13), (0, 14, 25, 15)]) (cc := cL_addStrip) (maxL := 7) (ret := (some .int)) (by decide +kernel) rfl ?_
  intro p e s m args below meth c s₁ B hml hv
  obtain ⟨rfl, hsz, hG, hP, hZ⟩ := hv
  subst hsz
  have hx := B.exec
  have hb := B.bytes
  have hr := B.returns
  have hts : ∀ w ∈ wsL_law, w.before _ s = true := fun w h => atoms_spec (ws := (wsW_ yL_addStrip cL_addStrip 7 (some .int) [(0, 14, 17, 21), (0, 14, 21, 13), (0, 14, 25, 15)])) B.pre w (List.mem_cons_of_mem _ (wsL2_in w h))
  have hk15 : (Cond.classLink RL 15 "java/lang/IllegalStateException").before _ s = true := atoms_spec (ws := (wsW_ yL_addStrip cL_addStrip 7 (some .int) [(0, 14, 17, 21), (0, 14, 21, 13), (0, 14, 25, 15)])) B.pre _ (List.mem_cons_of_mem _ List.mem_cons_self)
  have hown : s.vm.findClass RL = some m.cls := findClass_of_methodNamed B.named
  have hlk := B.notSynchronized
  have hC : CallFix p m c cL_addStrip 7 s _ wsL_law RL := ⟨hx, hb, hml, hown, hts⟩
  have hS : va_S (va_A [] s.heap.size) s.heap s.heap [] := va_S.rf
  have hl := lv_entry ([.ref xo, .int x, .int x1, .int x2, .int x3, .ref ou]) (n := 7) (Nat.le_of_ble_eq_true rfl)
  rw [lg_entry_eq]
  generalize (lg_sl ([.ref xo, .int x, .int x1, .int x2, .int x3, .ref ou]) ++ List.replicate (7 - (lg_sl ([.ref xo, .int x, .int x1, .int x2, .int x3, .ref ou])).length) Slot.unset).toArray = ls at hl ⊢
  have hl : lv_has ls 7 [(0, .ref xo), (1, .int x), (2, .int x1), (3, .int x2), (4, .int x3), (5, .ref ou)] := hl
  refine lv_aload hx hb dL_addStrip_0 (lv_at hl 5 rfl) ?_
  refine lv_iconst (v := 0) hx hb dL_addStrip_2 (by decide) ?_
  refine lv_aload_n hx hb dL_addStrip_3 rfl (lv_at hl 0 rfl) ?_
  refine lv_iload_n hx hb dL_addStrip_4 rfl (lv_at hl 1 rfl) ?_
  refine lv_iload_n hx hb dL_addStrip_5 rfl (lv_at hl 2 rfl) ?_
  refine lv_iload_n hx hb dL_addStrip_6 rfl (lv_at hl 3 rfl) ?_
  refine lv_iload hx hb dL_addStrip_7 (lv_at hl 4 rfl) ?_
  have hP9 := hP.sub (ws' := [oO xo 5 [.ref lc, .ref lt, .ref bo, .ref yo, .ref no], oO lc 7 [.int m1, .ref ec, .int (nI nC)]]) [0, 1] rfl
  refine vx_calli (A0 := va_A [] s.heap.size) (rX (rest := [.int 0, .ref ou]) (qc := (RX5, TX5, 5)) [.int x, .int x1, .int x2, .int x3] 4 hC (t_addStrip_1 l D hns (xo := xo) (lc := lc) (lt := lt) (bo := bo) (yo := yo) (no := no) (ec := ec) (nC := nC) (m1 := m1) (x := x) (x1 := x1) (x2 := x2) (x3 := x3) (hz0 := s.heap.size) (hnC) (hxx)) rfl (hP 0 _ rfl) (gV mM_L_59 mI_X5_addStrip mS_X5_addStrip mN_X5 mC_X5_addStrip) (by decide +kernel) rfl rfl ⟨Nat.le_of_ble_eq_true rfl, Nat.le_of_ble_eq_true rfl⟩ hG hP9 hZ rfl hl.1 rfl (Nat.le_of_ble_eq_true rfl) dL_addStrip_9 ⟨Nat.le_of_ble_eq_true rfl, Nat.le_of_ble_eq_true rfl⟩) hS (fun q _ h => h) (fun q h => h) (fun q _ h => h) (fun E ce q9 u9 t H1 locs1 ht hvm hp9 hB hz hk hS1 hce hcv hcl => ?_) (fun r u t H1 locs1 ht hvm hp9 _ _ _ _ => hp9.elim)
  obtain rfl : E = "java/lang/IndexOutOfBoundsException" := hB
  have htb := vx_table (x := yL_addStrip) B (hts _ mW_L_addStrip)
  refine vx_catch (own := RL) (name := "java/lang/IndexOutOfBoundsException") (pc := 9) (rest := [.int 0, .ref ou]) hown [] ⟨0, 14, 17, 21⟩ [⟨0, 14, 21, 13⟩, ⟨0, 14, 25, 15⟩] (by rw [htb]; rfl) (fun z hz9 => absurd hz9 List.not_mem_nil) rfl (by decide) (hts _ mK_L_21) (va_Nw.use rfl (gkC hG 4 rfl)) hce hcv hcl ?_
  refine lv_astore (lv' := [(6, .ref q9), (0, .ref xo), (1, .int x), (2, .int x1), (3, .int x2), (4, .int x3), (5, .ref ou)]) hx hb dL_addStrip_17 hl (by decide) rfl (fun ls hl => ?_)
  refine lv_iconst (v := 1) hx hb dL_addStrip_19 (by decide) ?_
  exact W.iret (v := 1) hx hb hr (fun t ht _ => ⟨⟨_, (), rfl, rfl, trivial⟩, hS1.F ht⟩) hS1.2.2 dL_addStrip_20 hlk
set_option maxHeartbeats 400000 in
set_option maxRecDepth 100000 in
theorem h_addStrip_2 (l : Launch) (D : va_G) (hns : l.stackTraces = false) {xo lc lt bo yo no : Nat} {ec nC c0 : Nat} {m1 : Int32} {cl : Nat → Nat} {ta : Nat} {len : Int32} {q t : Nat → Nat} {x1 x2 x3 : Int32} {ou : Nat} (hz0 : Nat) (hnC : nC ≤ 6) (hc : c0 < nC) (h : ¬ ((0 ≤ x1 ∧ x1 ≤ 5000) ∧ (1 ≤ x2 ∧ x2 ≤ 9) ∧ (0 ≤ x3 ∧ x3 ≤ 2))) : Met l yL_addStrip (wsW_ yL_addStrip cL_addStrip 7 (some .int) [(0, 14, 17, 21), (0, 14, 21, 13), (0, 14, 25, 15)]) ({ frames := 7, cells := 1, slots := 6, locals := 191 } : Room) (va_Pc [.ref xo, .int (nI c0), .int x1, .int x2, .int x3, .ref ou] (TW D [oO xo 5 [.ref lc, .ref lt, .ref bo, .ref yo, .ref no], oO lc 7 [.int m1, .ref ec, .int (nI nC)], aO D ec 10 (lsF cl nC), oO (cl c0) 0 [.int len, .ref ta, .ref (q 0), .ref (q 1)]] hz0)) (va_Qi (fun r (_ : Unit) => r = 2) (fun _ _ => True) (va_A [] hz0)) 1 6 (va_A [] hz0) := by
  refine va_MetW (hh := [(0, 14, 17, 21), (0, 14, 21, 13), (0, 14, 25, 15)]) (cc := cL_addStrip) (maxL := 7) (ret := (some .int)) (by decide +kernel) rfl ?_
  intro p e s m args below meth c s₁ B hml hv
  obtain ⟨rfl, hsz, hG, hP, hZ⟩ := hv
  subst hsz
  have hx := B.exec
  have hb := B.bytes
  have hr := B.returns
  have hts : ∀ w ∈ wsL_law, w.before _ s = true := fun w h => atoms_spec (ws := (wsW_ yL_addStrip cL_addStrip 7 (some .int) [(0, 14, 17, 21), (0, 14, 21, 13), (0, 14, 25, 15)])) B.pre w (List.mem_cons_of_mem _ (wsL2_in w h))
  have hk15 : (Cond.classLink RL 15 "java/lang/IllegalStateException").before _ s = true := atoms_spec (ws := (wsW_ yL_addStrip cL_addStrip 7 (some .int) [(0, 14, 17, 21), (0, 14, 21, 13), (0, 14, 25, 15)])) B.pre _ (List.mem_cons_of_mem _ List.mem_cons_self)
  have hown : s.vm.findClass RL = some m.cls := findClass_of_methodNamed B.named
  have hlk := B.notSynchronized
  have hC : CallFix p m c cL_addStrip 7 s _ wsL_law RL := ⟨hx, hb, hml, hown, hts⟩
  have hS : va_S (va_A [] s.heap.size) s.heap s.heap [] := va_S.rf
  have hl := lv_entry ([.ref xo, .int (nI c0), .int x1, .int x2, .int x3, .ref ou]) (n := 7) (Nat.le_of_ble_eq_true rfl)
  rw [lg_entry_eq]
  generalize (lg_sl ([.ref xo, .int (nI c0), .int x1, .int x2, .int x3, .ref ou]) ++ List.replicate (7 - (lg_sl ([.ref xo, .int (nI c0), .int x1, .int x2, .int x3, .ref ou])).length) Slot.unset).toArray = ls at hl ⊢
  have hl : lv_has ls 7 [(0, .ref xo), (1, .int (nI c0)), (2, .int x1), (3, .int x2), (4, .int x3), (5, .ref ou)] := hl
  refine lv_aload hx hb dL_addStrip_0 (lv_at hl 5 rfl) ?_
  refine lv_iconst (v := 0) hx hb dL_addStrip_2 (by decide) ?_
  refine lv_aload_n hx hb dL_addStrip_3 rfl (lv_at hl 0 rfl) ?_
  refine lv_iload_n hx hb dL_addStrip_4 rfl (lv_at hl 1 rfl) ?_
  refine lv_iload_n hx hb dL_addStrip_5 rfl (lv_at hl 2 rfl) ?_
  refine lv_iload_n hx hb dL_addStrip_6 rfl (lv_at hl 3 rfl) ?_
  refine lv_iload hx hb dL_addStrip_7 (lv_at hl 4 rfl) ?_
  have hP9 := hP.sub (ws' := [oO xo 5 [.ref lc, .ref lt, .ref bo, .ref yo, .ref no], oO lc 7 [.int m1, .ref ec, .int (nI nC)], aO D ec 10 (lsF cl nC), oO (cl c0) 0 [.int len, .ref ta, .ref (q 0), .ref (q 1)]]) [0, 1, 2, 3] rfl
  refine vx_calli (A0 := va_A [] s.heap.size) (rX (rest := [.int 0, .ref ou]) (qc := (RX5, TX5, 5)) [.int (nI c0), .int x1, .int x2, .int x3] 4 hC (t_addStrip_2 l D hns (xo := xo) (lc := lc) (lt := lt) (bo := bo) (yo := yo) (no := no) (ec := ec) (nC := nC) (c0 := c0) (m1 := m1) (cl := cl) (ta := ta) (len := len) (q := q) (t := t) (x1 := x1) (x2 := x2) (x3 := x3) (hz0 := s.heap.size) (hnC) (hc) (h)) rfl (hP 0 _ rfl) (gV mM_L_59 mI_X5_addStrip mS_X5_addStrip mN_X5 mC_X5_addStrip) (by decide +kernel) rfl rfl ⟨Nat.le_of_ble_eq_true rfl, Nat.le_of_ble_eq_true rfl⟩ hG hP9 hZ rfl hl.1 rfl (Nat.le_of_ble_eq_true rfl) dL_addStrip_9 ⟨Nat.le_of_ble_eq_true rfl, Nat.le_of_ble_eq_true rfl⟩) hS (fun q _ h => h) (fun q h => h) (fun q _ h => h) (fun E ce q9 u9 t H1 locs1 ht hvm hp9 hB hz hk hS1 hce hcv hcl => ?_) (fun r u t H1 locs1 ht hvm hp9 _ _ _ _ => hp9.elim)
  obtain rfl : E = "java/lang/IllegalArgumentException" := hB
  have htb := vx_table (x := yL_addStrip) B (hts _ mW_L_addStrip)
  refine vx_catch (own := RL) (name := "java/lang/IllegalArgumentException") (pc := 9) (rest := [.int 0, .ref ou]) hown [⟨0, 14, 17, 21⟩] ⟨0, 14, 21, 13⟩ [⟨0, 14, 25, 15⟩] (by rw [htb]; rfl) (fun z hz9 => by
    simp only [List.mem_cons, List.not_mem_nil, or_false] at hz9
    rcases hz9 with rfl
    · exact Or.inr ⟨by decide, _, hts _ mK_L_21, gkN hG 1 rfl⟩) rfl (by decide) (hts _ mK_L_13) (va_Nw.use rfl (gkC hG 2 rfl)) hce hcv hcl ?_
  refine lv_astore (lv' := [(6, .ref q9), (0, .ref xo), (1, .int (nI c0)), (2, .int x1), (3, .int x2), (4, .int x3), (5, .ref ou)]) hx hb dL_addStrip_21 hl (by decide) rfl (fun ls hl => ?_)
  refine lv_iconst (v := 2) hx hb dL_addStrip_23 (by decide) ?_
  exact W.iret (v := 2) hx hb hr (fun t ht _ => ⟨⟨_, (), rfl, rfl, trivial⟩, hS1.F ht⟩) hS1.2.2 dL_addStrip_24 hlk
set_option maxHeartbeats 400000 in
set_option maxRecDepth 100000 in
theorem h_addStrip_3 (l : Launch) (D : va_G) (hns : l.stackTraces = false) {xo lc lt bo yo no : Nat} {ec nC c0 : Nat} {m1 : Int32} {cl : Nat → Nat} {ta : Nat} {len : Int32} {q t : Nat → Nat} {et nS : Nat} {m2 : Int32} {x1 x2 x3 : Int32} {ou : Nat} (hz0 : Nat) (hnC : nC ≤ 6) (hc : c0 < nC) (h : (0 ≤ x1 ∧ x1 ≤ 5000) ∧ (1 ≤ x2 ∧ x2 ≤ 9) ∧ (0 ≤ x3 ∧ x3 ≤ 2)) (hnS : nS = 10) : Met l yL_addStrip (wsW_ yL_addStrip cL_addStrip 7 (some .int) [(0, 14, 17, 21), (0, 14, 21, 13), (0, 14, 25, 15)]) ({ frames := 7, cells := 1, slots := 6, locals := 191 } : Room) (va_Pc [.ref xo, .int (nI c0), .int x1, .int x2, .int x3, .ref ou] (TW D [oO xo 5 [.ref lc, .ref lt, .ref bo, .ref yo, .ref no], oO lc 7 [.int m1, .ref ec, .int (nI nC)], aO D ec 10 (lsF cl nC), oO (cl c0) 0 [.int len, .ref ta, .ref (q 0), .ref (q 1)], oO lt 7 [.int m2, .ref et, .int (nI nS)]] hz0)) (va_Qi (fun r (_ : Unit) => r = 3) (fun _ _ => True) (va_A [] hz0)) 1 6 (va_A [] hz0) := by
  refine va_MetW (hh := [(0, 14, 17, 21), (0, 14, 21, 13), (0, 14, 25, 15)]) (cc := cL_addStrip) (maxL := 7) (ret := (some .int)) (by decide +kernel) rfl ?_
  intro p e s m args below meth c s₁ B hml hv
  obtain ⟨rfl, hsz, hG, hP, hZ⟩ := hv
  subst hsz
  have hx := B.exec
  have hb := B.bytes
  have hr := B.returns
  have hts : ∀ w ∈ wsL_law, w.before _ s = true := fun w h => atoms_spec (ws := (wsW_ yL_addStrip cL_addStrip 7 (some .int) [(0, 14, 17, 21), (0, 14, 21, 13), (0, 14, 25, 15)])) B.pre w (List.mem_cons_of_mem _ (wsL2_in w h))
  have hk15 : (Cond.classLink RL 15 "java/lang/IllegalStateException").before _ s = true := atoms_spec (ws := (wsW_ yL_addStrip cL_addStrip 7 (some .int) [(0, 14, 17, 21), (0, 14, 21, 13), (0, 14, 25, 15)])) B.pre _ (List.mem_cons_of_mem _ List.mem_cons_self)
  have hown : s.vm.findClass RL = some m.cls := findClass_of_methodNamed B.named
  have hlk := B.notSynchronized
  have hC : CallFix p m c cL_addStrip 7 s _ wsL_law RL := ⟨hx, hb, hml, hown, hts⟩
  have hS : va_S (va_A [] s.heap.size) s.heap s.heap [] := va_S.rf
  have hl := lv_entry ([.ref xo, .int (nI c0), .int x1, .int x2, .int x3, .ref ou]) (n := 7) (Nat.le_of_ble_eq_true rfl)
  rw [lg_entry_eq]
  generalize (lg_sl ([.ref xo, .int (nI c0), .int x1, .int x2, .int x3, .ref ou]) ++ List.replicate (7 - (lg_sl ([.ref xo, .int (nI c0), .int x1, .int x2, .int x3, .ref ou])).length) Slot.unset).toArray = ls at hl ⊢
  have hl : lv_has ls 7 [(0, .ref xo), (1, .int (nI c0)), (2, .int x1), (3, .int x2), (4, .int x3), (5, .ref ou)] := hl
  refine lv_aload hx hb dL_addStrip_0 (lv_at hl 5 rfl) ?_
  refine lv_iconst (v := 0) hx hb dL_addStrip_2 (by decide) ?_
  refine lv_aload_n hx hb dL_addStrip_3 rfl (lv_at hl 0 rfl) ?_
  refine lv_iload_n hx hb dL_addStrip_4 rfl (lv_at hl 1 rfl) ?_
  refine lv_iload_n hx hb dL_addStrip_5 rfl (lv_at hl 2 rfl) ?_
  refine lv_iload_n hx hb dL_addStrip_6 rfl (lv_at hl 3 rfl) ?_
  refine lv_iload hx hb dL_addStrip_7 (lv_at hl 4 rfl) ?_
  have hP9 := hP.sub (ws' := [oO xo 5 [.ref lc, .ref lt, .ref bo, .ref yo, .ref no], oO lc 7 [.int m1, .ref ec, .int (nI nC)], aO D ec 10 (lsF cl nC), oO (cl c0) 0 [.int len, .ref ta, .ref (q 0), .ref (q 1)], oO lt 7 [.int m2, .ref et, .int (nI nS)]]) [0, 1, 2, 3, 4] rfl
  refine vx_calli (A0 := va_A [] s.heap.size) (rX (rest := [.int 0, .ref ou]) (qc := (RX5, TX5, 5)) [.int (nI c0), .int x1, .int x2, .int x3] 4 hC (t_addStrip_3 l D hns (xo := xo) (lc := lc) (lt := lt) (bo := bo) (yo := yo) (no := no) (ec := ec) (nC := nC) (c0 := c0) (m1 := m1) (cl := cl) (ta := ta) (len := len) (q := q) (t := t) (et := et) (nS := nS) (m2 := m2) (x1 := x1) (x2 := x2) (x3 := x3) (hz0 := s.heap.size) (hnC) (hc) (h) (hnS)) rfl (hP 0 _ rfl) (gV mM_L_59 mI_X5_addStrip mS_X5_addStrip mN_X5 mC_X5_addStrip) (by decide +kernel) rfl rfl ⟨Nat.le_of_ble_eq_true rfl, Nat.le_of_ble_eq_true rfl⟩ hG hP9 hZ rfl hl.1 rfl (Nat.le_of_ble_eq_true rfl) dL_addStrip_9 ⟨Nat.le_of_ble_eq_true rfl, Nat.le_of_ble_eq_true rfl⟩) hS (fun q _ h => h) (fun q h => h) (fun q _ h => h) (fun E ce q9 u9 t H1 locs1 ht hvm hp9 hB hz hk hS1 hce hcv hcl => ?_) (fun r u t H1 locs1 ht hvm hp9 _ _ _ _ => hp9.elim)
  obtain rfl : E = "java/lang/IllegalStateException" := hB
  have htb := vx_table (x := yL_addStrip) B (hts _ mW_L_addStrip)
  refine vx_catch (own := RL) (name := "java/lang/IllegalStateException") (pc := 9) (rest := [.int 0, .ref ou]) hown [⟨0, 14, 17, 21⟩, ⟨0, 14, 21, 13⟩] ⟨0, 14, 25, 15⟩ [] (by rw [htb]; rfl) (fun z hz9 => by
    simp only [List.mem_cons, List.not_mem_nil, or_false] at hz9
    rcases hz9 with rfl | rfl
    · exact Or.inr ⟨by decide, _, hts _ mK_L_21, gkN hG 3 rfl⟩
    · exact Or.inr ⟨by decide, _, hts _ mK_L_13, gkN hG 2 rfl⟩) rfl (by decide) (hk15) (va_Nw.use rfl (gkC hG 3 rfl)) hce hcv hcl ?_
  refine lv_astore (lv' := [(6, .ref q9), (0, .ref xo), (1, .int (nI c0)), (2, .int x1), (3, .int x2), (4, .int x3), (5, .ref ou)]) hx hb dL_addStrip_25 hl (by decide) rfl (fun ls hl => ?_)
  refine lv_iconst (v := 3) hx hb dL_addStrip_27 (by decide) ?_
  exact W.iret (v := 3) hx hb hr (fun t ht _ => ⟨⟨_, (), rfl, rfl, trivial⟩, hS1.F ht⟩) hS1.2.2 dL_addStrip_28 hlk
set_option maxHeartbeats 400000 in
set_option maxRecDepth 100000 in
theorem l_addStrip (l : Launch) (D : va_G) {xo lc lt bo yo no : Nat} {ec nC c0 : Nat} {m1 : Int32} {cl : Nat → Nat} {ta : Nat} {len : Int32} {q : Nat → Nat} {et nS : Nat} {m2 : Int32} {sl : Nat → Nat} {x1 x2 x3 : Int32} {ou : Nat} {wf : Nat → Int64} (hz0 : Nat) (hnC : nC ≤ 6) (hc : c0 < nC) (h : (0 ≤ x1 ∧ x1 ≤ 5000) ∧ (1 ≤ x2 ∧ x2 ≤ 9) ∧ (0 ≤ x3 ∧ x3 ≤ 2)) (hnS : nS < 10) : Met l yL_addStrip (wsW_ yL_addStrip cL_addStrip 7 (some .int) [(0, 14, 17, 21), (0, 14, 21, 13), (0, 14, 25, 15)]) ({ frames := 7, cells := 1, slots := 13, locals := 191 } : Room) (va_Pc [.ref xo, .int (nI c0), .int x1, .int x2, .int x3, .ref ou] (SW D [oO xo 5 [.ref lc, .ref lt, .ref bo, .ref yo, .ref no], oO lc 7 [.int m1, .ref ec, .int (nI nC)], aO D ec 10 (lsF cl nC), oO (cl c0) 0 [.int len, .ref ta, .ref (q 0), .ref (q 1)], oO lt 7 [.int m2, .ref et, .int (nI nS)], aO D et 10 (lsF sl nS), aL D ou 1 wf] hz0)) (va_Qi (fun r _ => r = 0) (AT D (va_A [oO xo 5 [.ref lc, .ref lt, .ref bo, .ref yo, .ref no], oO lc 7 [.int m1, .ref ec, .int (nI nC)], aO D ec 10 (lsF cl nC), oO (cl c0) 0 [.int len, .ref ta, .ref (q 0), .ref (q 1)], oO lt 7 [.int m2, .ref et, .int (nI nS)], aO D et 10 (lsF sl nS), aL D ou 1 wf] hz0) (fun so : Nat => [oO xo 5 [.ref lc, .ref lt, .ref bo, .ref yo, .ref no], oO lc 7 [.int m1, .ref ec, .int (nI nC)], aO D ec 10 (lsF cl nC), oO (cl c0) 0 [.int len, .ref ta, .ref (q 0), .ref (q 1)], oO lt 7 [.int (m2 + 1), .ref et, .int (nI (nS + 1))], aO D et 10 (lsF (fun k => if k = nS then so else sl k) (nS + 1)), oO so 3 [.ref (cl c0), .int (nI c0), .int x1, .int x2, .int x3, .int 1, .int 1, .int 0, .int 100, .int 0, .int 0, .int 0, .int 0], aL D ou 1 (vp_updL wf 0 (nI nS).toInt64)])) (va_A [oO xo 5 [.ref lc, .ref lt, .ref bo, .ref yo, .ref no], oO lc 7 [.int m1, .ref ec, .int (nI nC)], aO D ec 10 (lsF cl nC), oO (cl c0) 0 [.int len, .ref ta, .ref (q 0), .ref (q 1)], oO lt 7 [.int m2, .ref et, .int (nI nS)], aO D et 10 (lsF sl nS), aL D ou 1 wf] hz0)) 1 13 (va_A [oO xo 5 [.ref lc, .ref lt, .ref bo, .ref yo, .ref no], oO lc 7 [.int m1, .ref ec, .int (nI nC)], aO D ec 10 (lsF cl nC), oO (cl c0) 0 [.int len, .ref ta, .ref (q 0), .ref (q 1)], oO lt 7 [.int m2, .ref et, .int (nI nS)], aO D et 10 (lsF sl nS), aL D ou 1 wf] hz0) := by
  refine va_MetW (hh := [(0, 14, 17, 21), (0, 14, 21, 13), (0, 14, 25, 15)]) (cc := cL_addStrip) (maxL := 7) (ret := (some .int)) (by decide +kernel) rfl ?_
  intro p e s m args below meth c s₁ B hml hv
  obtain ⟨rfl, hsz, hG, hP, hD0⟩ := hv
  have hx := B.exec
  have hb := B.bytes
  have hr := B.returns
  have hts : ∀ w ∈ wsL_law, w.before _ s = true := fun w h => atoms_spec (ws := (wsW_ yL_addStrip cL_addStrip 7 (some .int) [(0, 14, 17, 21), (0, 14, 21, 13), (0, 14, 25, 15)])) B.pre w (List.mem_cons_of_mem _ (wsL2_in w h))
  have hown : s.vm.findClass RL = some m.cls := findClass_of_methodNamed B.named
  have hlk := B.notSynchronized
  have hC : CallFix p m c cL_addStrip 7 s _ wsL_law RL := ⟨hx, hb, hml, hown, hts⟩
  subst hsz
  have hD := hD0.self (sz := s.heap.size)
  generalize hAe : va_A [oO xo 5 [.ref lc, .ref lt, .ref bo, .ref yo, .ref no], oO lc 7 [.int m1, .ref ec, .int (nI nC)], aO D ec 10 (lsF cl nC), oO (cl c0) 0 [.int len, .ref ta, .ref (q 0), .ref (q 1)], oO lt 7 [.int m2, .ref et, .int (nI nS)], aO D et 10 (lsF sl nS), aL D ou 1 wf] s.heap.size = A at hD ⊢
  have hA : ∀ q : Nat, s.heap.size ≤ q → A q := fun q h => by rw [← hAe]; exact Or.inr h
  have hS : va_S A s.heap s.heap [] := va_S.rf
  obtain ⟨H, hHe⟩ : ∃ H, H = s.heap := ⟨_, rfl⟩
  rw [← hHe] at hP
  have hS : va_S A s.heap H [] := by rw [hHe]; exact hS
  have hl := lv_entry ([.ref xo, .int (nI c0), .int x1, .int x2, .int x3, .ref ou]) (n := 7) (Nat.le_of_ble_eq_true rfl)
  rw [lg_entry_eq]
  generalize (lg_sl ([.ref xo, .int (nI c0), .int x1, .int x2, .int x3, .ref ou]) ++ List.replicate (7 - (lg_sl ([.ref xo, .int (nI c0), .int x1, .int x2, .int x3, .ref ou])).length) Slot.unset).toArray = ls at hl ⊢
  have hl : lv_has ls 7 [(0, .ref xo), (1, .int (nI c0)), (2, .int x1), (3, .int x2), (4, .int x3), (5, .ref ou)] := hl
  rw [← hHe]
  refine lv_aload hx hb dL_addStrip_0 (lv_at hl 5 rfl) ?_
  refine lv_iconst (v := 0) hx hb dL_addStrip_2 (by decide) ?_
  refine lv_aload_n hx hb dL_addStrip_3 rfl (lv_at hl 0 rfl) ?_
  refine lv_iload_n hx hb dL_addStrip_4 rfl (lv_at hl 1 rfl) ?_
  refine lv_iload_n hx hb dL_addStrip_5 rfl (lv_at hl 2 rfl) ?_
  refine lv_iload_n hx hb dL_addStrip_6 rfl (lv_at hl 3 rfl) ?_
  refine lv_iload hx hb dL_addStrip_7 (lv_at hl 4 rfl) ?_
  have hP9 := hP.sub (ws' := [oO xo 5 [.ref lc, .ref lt, .ref bo, .ref yo, .ref no], oO lc 7 [.int m1, .ref ec, .int (nI nC)], aO D ec 10 (lsF cl nC), oO (cl c0) 0 [.int len, .ref ta, .ref (q 0), .ref (q 1)], oO lt 7 [.int m2, .ref et, .int (nI nS)], aO D et 10 (lsF sl nS)]) [0, 1, 2, 3, 4, 5] rfl
  have hD9 := (hD.sub (ws' := [oO xo 5 [.ref lc, .ref lt, .ref bo, .ref yo, .ref no], oO lc 7 [.int m1, .ref ec, .int (nI nC)], aO D ec 10 (lsF cl nC), oO (cl c0) 0 [.int len, .ref ta, .ref (q 0), .ref (q 1)], oO lt 7 [.int m2, .ref et, .int (nI nS)], aO D et 10 (lsF sl nS)]) [0, 1, 2, 3, 4, 5] (by decide) rfl).weaken (B := fun _ => True) (fun _ _ _ _ => trivial)
  refine ki (wr := [aL D ou 1 wf]) (rV (rest := [.int 0, .ref ou]) (qc := (RX5, TX5, 5)) [.int (nI c0), .int x1, .int x2, .int x3] 4 1 13 hC (c_addStrip l D (xo := xo) (lc := lc) (lt := lt) (bo := bo) (yo := yo) (no := no) (ec := ec) (nC := nC) (c0 := c0) (m1 := m1) (cl := cl) (ta := ta) (len := len) (q := q) (et := et) (nS := nS) (m2 := m2) (sl := sl) (x1 := x1) (x2 := x2) (x3 := x3) (hz0 := H.size) (hnC) (hc) (h) (hnS)) rfl (hP 0 _ rfl) (gV mM_L_59 mI_X5_addStrip mS_X5_addStrip mN_X5 mC_X5_addStrip) (by decide +kernel) rfl rfl ⟨Nat.le_of_ble_eq_true rfl, Nat.le_of_ble_eq_true rfl⟩ hG hP9 hD9 rfl hl.1 rfl (Nat.le_of_ble_eq_true rfl) dL_addStrip_9 ⟨Nat.le_of_ble_eq_true rfl, Nat.le_of_ble_eq_true rfl⟩) hP hD hS hA [0, 1, 2, 3, 4, 5] [6] rfl rfl (by decide) (by decide) (fun r9 u9 H locs h9 hP hD hS hz hfr => ?_)
  obtain ⟨so, rfl⟩ : ∃ z, z = u9 := ⟨_, rfl⟩
  have hP : va_P D cls [aL D ou 1 wf, oO xo 5 [.ref lc, .ref lt, .ref bo, .ref yo, .ref no], oO lc 7 [.int m1, .ref ec, .int (nI nC)], aO D ec 10 (lsF cl nC), oO (cl c0) 0 [.int len, .ref ta, .ref (q 0), .ref (q 1)], oO lt 7 [.int (m2 + 1), .ref et, .int (nI (nS + 1))], aO D et 10 (lsF (fun k => if k = nS then so else sl k) (nS + 1)), oO so 3 [.ref (cl c0), .int (nI c0), .int x1, .int x2, .int x3, .int 1, .int 1, .int 0, .int 100, .int 0, .int 0, .int 0, .int 0]] H := hP
  have hD : va_D A [aL D ou 1 wf, oO xo 5 [.ref lc, .ref lt, .ref bo, .ref yo, .ref no], oO lc 7 [.int m1, .ref ec, .int (nI nC)], aO D ec 10 (lsF cl nC), oO (cl c0) 0 [.int len, .ref ta, .ref (q 0), .ref (q 1)], oO lt 7 [.int (m2 + 1), .ref et, .int (nI (nS + 1))], aO D et 10 (lsF (fun k => if k = nS then so else sl k) (nS + 1)), oO so 3 [.ref (cl c0), .int (nI c0), .int x1, .int x2, .int x3, .int 1, .int 1, .int 0, .int 100, .int 0, .int 0, .int 0, .int 0]] := hD
  obtain rfl : r9 = (nI nS) := h9
  refine lv_i2l hx hb dL_addStrip_12 rfl ?_
  refine lst (n := 1) (j := 0) hx hb hG hP hD hS 0 rfl (by omega) (by omega) dL_addStrip_13 (fun H locs hP hD hS => ?_)
  have hP : va_P D cls [aL D ou 1 (vp_updL wf 0 ((nI nS).toInt64)), oO xo 5 [.ref lc, .ref lt, .ref bo, .ref yo, .ref no], oO lc 7 [.int m1, .ref ec, .int (nI nC)], aO D ec 10 (lsF cl nC), oO (cl c0) 0 [.int len, .ref ta, .ref (q 0), .ref (q 1)], oO lt 7 [.int (m2 + 1), .ref et, .int (nI (nS + 1))], aO D et 10 (lsF (fun k => if k = nS then so else sl k) (nS + 1)), oO so 3 [.ref (cl c0), .int (nI c0), .int x1, .int x2, .int x3, .int 1, .int 1, .int 0, .int 100, .int 0, .int 0, .int 0, .int 0]] H := hP
  have hD : va_D A [aL D ou 1 (vp_updL wf 0 ((nI nS).toInt64)), oO xo 5 [.ref lc, .ref lt, .ref bo, .ref yo, .ref no], oO lc 7 [.int m1, .ref ec, .int (nI nC)], aO D ec 10 (lsF cl nC), oO (cl c0) 0 [.int len, .ref ta, .ref (q 0), .ref (q 1)], oO lt 7 [.int (m2 + 1), .ref et, .int (nI (nS + 1))], aO D et 10 (lsF (fun k => if k = nS then so else sl k) (nS + 1)), oO so 3 [.ref (cl c0), .int (nI c0), .int x1, .int x2, .int x3, .int 1, .int 1, .int 0, .int 100, .int 0, .int 0, .int 0, .int 0]] := hD
  refine lv_goto (tgt := 29) hx hb dL_addStrip_14 (by decide) ?_
  refine lv_iconst (v := 0) hx hb dL_addStrip_29 (by decide) ?_
  refine Wi so hx hb hr hlk ?_ (hP.sub [1, 2, 3, 4, 5, 6, 7, 0] rfl) (hD.sub [1, 2, 3, 4, 5, 6, 7, 0] (by decide) rfl) hS (Nat.le_of_ble_eq_true rfl) (by first | exact Nat.le_of_ble_eq_true rfl | exact Nat.le_of_eq (Nat.zero_add _)) dL_addStrip_30
  exact rfl
set_option maxHeartbeats 400000 in
set_option maxRecDepth 100000 in
theorem l_addStrip_first (l : Launch) (D : va_G) {xo lc lt bo yo no : Nat} {ec nC c0 : Nat} {m1 : Int32} {cl : Nat → Nat} {ta : Nat} {len : Int32} {q : Nat → Nat} {z : Nat} {m2 : Int32} {x1 x2 x3 : Int32} {ou : Nat} {wf : Nat → Int64} (hz0 : Nat) (hnC : nC ≤ 6) (hc : c0 < nC) (h : (0 ≤ x1 ∧ x1 ≤ 5000) ∧ (1 ≤ x2 ∧ x2 ≤ 9) ∧ (0 ≤ x3 ∧ x3 ≤ 2)) : Met l yL_addStrip (wsW_ yL_addStrip cL_addStrip 7 (some .int) [(0, 14, 17, 21), (0, 14, 21, 13), (0, 14, 25, 15)]) ({ frames := 7, cells := 2, slots := 23, locals := 191 } : Room) (va_Pc [.ref xo, .int (nI c0), .int x1, .int x2, .int x3, .ref ou] (SX D [oO xo 5 [.ref lc, .ref lt, .ref bo, .ref yo, .ref no], oO lc 7 [.int m1, .ref ec, .int (nI nC)], aO D ec 10 (lsF cl nC), oO (cl c0) 0 [.int len, .ref ta, .ref (q 0), .ref (q 1)], oO lt 7 [.int m2, .ref z, .int (nI 0)], aL D ou 1 wf] hz0 (ZL z (va_A [oO xo 5 [.ref lc, .ref lt, .ref bo, .ref yo, .ref no], oO lc 7 [.int m1, .ref ec, .int (nI nC)], aO D ec 10 (lsF cl nC), oO (cl c0) 0 [.int len, .ref ta, .ref (q 0), .ref (q 1)], oO lt 7 [.int m2, .ref z, .int (nI 0)], aL D ou 1 wf] hz0)))) (va_Qi (fun r _ => r = 0) (AT D (va_A [oO xo 5 [.ref lc, .ref lt, .ref bo, .ref yo, .ref no], oO lc 7 [.int m1, .ref ec, .int (nI nC)], aO D ec 10 (lsF cl nC), oO (cl c0) 0 [.int len, .ref ta, .ref (q 0), .ref (q 1)], oO lt 7 [.int m2, .ref z, .int (nI 0)], aL D ou 1 wf] hz0) (fun ((et, so) : Nat × Nat) => [oO xo 5 [.ref lc, .ref lt, .ref bo, .ref yo, .ref no], oO lc 7 [.int m1, .ref ec, .int (nI nC)], aO D ec 10 (lsF cl nC), oO (cl c0) 0 [.int len, .ref ta, .ref (q 0), .ref (q 1)], oO lt 7 [.int (m2 + 1), .ref et, .int (nI 1)], aO D et 10 (lsF (fun _ => so) 1), oO so 3 [.ref (cl c0), .int (nI c0), .int x1, .int x2, .int x3, .int 1, .int 1, .int 0, .int 100, .int 0, .int 0, .int 0, .int 0], aL D ou 1 (vp_updL wf 0 (nI 0).toInt64)])) (va_A [oO xo 5 [.ref lc, .ref lt, .ref bo, .ref yo, .ref no], oO lc 7 [.int m1, .ref ec, .int (nI nC)], aO D ec 10 (lsF cl nC), oO (cl c0) 0 [.int len, .ref ta, .ref (q 0), .ref (q 1)], oO lt 7 [.int m2, .ref z, .int (nI 0)], aL D ou 1 wf] hz0)) 2 23 (va_A [oO xo 5 [.ref lc, .ref lt, .ref bo, .ref yo, .ref no], oO lc 7 [.int m1, .ref ec, .int (nI nC)], aO D ec 10 (lsF cl nC), oO (cl c0) 0 [.int len, .ref ta, .ref (q 0), .ref (q 1)], oO lt 7 [.int m2, .ref z, .int (nI 0)], aL D ou 1 wf] hz0) := by
  refine va_MetW (hh := [(0, 14, 17, 21), (0, 14, 21, 13), (0, 14, 25, 15)]) (cc := cL_addStrip) (maxL := 7) (ret := (some .int)) (by decide +kernel) rfl ?_
  intro p e s m args below meth c s₁ B hml hv
  obtain ⟨rfl, ⟨hsz, hG, hP, hD0⟩, hX⟩ := hv
  have hx := B.exec
  have hb := B.bytes
  have hr := B.returns
  have hts : ∀ w ∈ wsL_law, w.before _ s = true := fun w h => atoms_spec (ws := (wsW_ yL_addStrip cL_addStrip 7 (some .int) [(0, 14, 17, 21), (0, 14, 21, 13), (0, 14, 25, 15)])) B.pre w (List.mem_cons_of_mem _ (wsL2_in w h))
  have hown : s.vm.findClass RL = some m.cls := findClass_of_methodNamed B.named
  have hlk := B.notSynchronized
  have hC : CallFix p m c cL_addStrip 7 s _ wsL_law RL := ⟨hx, hb, hml, hown, hts⟩
  subst hsz
  have hD := hD0.self (sz := s.heap.size)
  generalize hAe : va_A [oO xo 5 [.ref lc, .ref lt, .ref bo, .ref yo, .ref no], oO lc 7 [.int m1, .ref ec, .int (nI nC)], aO D ec 10 (lsF cl nC), oO (cl c0) 0 [.int len, .ref ta, .ref (q 0), .ref (q 1)], oO lt 7 [.int m2, .ref z, .int (nI 0)], aL D ou 1 wf] s.heap.size = A at hD hX ⊢
  have hA : ∀ q : Nat, s.heap.size ≤ q → A q := fun q h => by rw [← hAe]; exact Or.inr h
  have hS : va_S A s.heap s.heap [] := va_S.rf
  obtain ⟨H, hHe⟩ : ∃ H, H = s.heap := ⟨_, rfl⟩
  rw [← hHe] at hP
  have hS : va_S A s.heap H [] := by rw [hHe]; exact hS
  have hl := lv_entry ([.ref xo, .int (nI c0), .int x1, .int x2, .int x3, .ref ou]) (n := 7) (Nat.le_of_ble_eq_true rfl)
  rw [lg_entry_eq]
  generalize (lg_sl ([.ref xo, .int (nI c0), .int x1, .int x2, .int x3, .ref ou]) ++ List.replicate (7 - (lg_sl ([.ref xo, .int (nI c0), .int x1, .int x2, .int x3, .ref ou])).length) Slot.unset).toArray = ls at hl ⊢
  have hl : lv_has ls 7 [(0, .ref xo), (1, .int (nI c0)), (2, .int x1), (3, .int x2), (4, .int x3), (5, .ref ou)] := hl
  rw [← hHe]
  refine lv_aload hx hb dL_addStrip_0 (lv_at hl 5 rfl) ?_
  refine lv_iconst (v := 0) hx hb dL_addStrip_2 (by decide) ?_
  refine lv_aload_n hx hb dL_addStrip_3 rfl (lv_at hl 0 rfl) ?_
  refine lv_iload_n hx hb dL_addStrip_4 rfl (lv_at hl 1 rfl) ?_
  refine lv_iload_n hx hb dL_addStrip_5 rfl (lv_at hl 2 rfl) ?_
  refine lv_iload_n hx hb dL_addStrip_6 rfl (lv_at hl 3 rfl) ?_
  refine lv_iload hx hb dL_addStrip_7 (lv_at hl 4 rfl) ?_
  have hP9 := hP.sub (ws' := [oO xo 5 [.ref lc, .ref lt, .ref bo, .ref yo, .ref no], oO lc 7 [.int m1, .ref ec, .int (nI nC)], aO D ec 10 (lsF cl nC), oO (cl c0) 0 [.int len, .ref ta, .ref (q 0), .ref (q 1)], oO lt 7 [.int m2, .ref z, .int (nI 0)]]) [0, 1, 2, 3, 4] rfl
  have hD9 := (hD.sub (ws' := [oO xo 5 [.ref lc, .ref lt, .ref bo, .ref yo, .ref no], oO lc 7 [.int m1, .ref ec, .int (nI nC)], aO D ec 10 (lsF cl nC), oO (cl c0) 0 [.int len, .ref ta, .ref (q 0), .ref (q 1)], oO lt 7 [.int m2, .ref z, .int (nI 0)]]) [0, 1, 2, 3, 4] (by decide) rfl).weaken (B := fun _ => True) (fun _ _ _ _ => trivial)
  refine ki (wr := [aL D ou 1 wf]) (rVX (ZL.blind) (ZL.pre hX hS (va_free' hD hS hA [0, 1, 2, 3, 4] rfl).2) (rest := [.int 0, .ref ou]) (qc := (RX5, TX5, 5)) [.int (nI c0), .int x1, .int x2, .int x3] 4 2 23 hC (c_addStrip_first l D (xo := xo) (lc := lc) (lt := lt) (bo := bo) (yo := yo) (no := no) (ec := ec) (nC := nC) (c0 := c0) (m1 := m1) (cl := cl) (ta := ta) (len := len) (q := q) (z := z) (m2 := m2) (x1 := x1) (x2 := x2) (x3 := x3) (hz0 := H.size) (hnC) (hc) (h)) rfl (hP 0 _ rfl) (gV mM_L_59 mI_X5_addStrip mS_X5_addStrip mN_X5 mC_X5_addStrip) (by decide +kernel) rfl rfl ⟨Nat.le_of_ble_eq_true rfl, Nat.le_of_ble_eq_true rfl⟩ hG hP9 hD9 rfl hl.1 rfl (Nat.le_of_ble_eq_true rfl) dL_addStrip_9 ⟨Nat.le_of_ble_eq_true rfl, Nat.le_of_ble_eq_true rfl⟩) hP hD hS hA [0, 1, 2, 3, 4] [5] rfl rfl (by decide) (by decide) (fun r9 u9 H locs h9 hP hD hS hz hfr => ?_)
  obtain ⟨et, so⟩ := u9
  have hP : va_P D cls [aL D ou 1 wf, oO xo 5 [.ref lc, .ref lt, .ref bo, .ref yo, .ref no], oO lc 7 [.int m1, .ref ec, .int (nI nC)], aO D ec 10 (lsF cl nC), oO (cl c0) 0 [.int len, .ref ta, .ref (q 0), .ref (q 1)], oO lt 7 [.int (m2 + 1), .ref et, .int (nI 1)], aO D et 10 (lsF (fun _ => so) 1), oO so 3 [.ref (cl c0), .int (nI c0), .int x1, .int x2, .int x3, .int 1, .int 1, .int 0, .int 100, .int 0, .int 0, .int 0, .int 0]] H := hP
  have hD : va_D A [aL D ou 1 wf, oO xo 5 [.ref lc, .ref lt, .ref bo, .ref yo, .ref no], oO lc 7 [.int m1, .ref ec, .int (nI nC)], aO D ec 10 (lsF cl nC), oO (cl c0) 0 [.int len, .ref ta, .ref (q 0), .ref (q 1)], oO lt 7 [.int (m2 + 1), .ref et, .int (nI 1)], aO D et 10 (lsF (fun _ => so) 1), oO so 3 [.ref (cl c0), .int (nI c0), .int x1, .int x2, .int x3, .int 1, .int 1, .int 0, .int 100, .int 0, .int 0, .int 0, .int 0]] := hD
  obtain rfl : r9 = (nI 0) := h9
  refine lv_i2l hx hb dL_addStrip_12 rfl ?_
  refine lst (n := 1) (j := 0) hx hb hG hP hD hS 0 rfl (by omega) (by omega) dL_addStrip_13 (fun H locs hP hD hS => ?_)
  have hP : va_P D cls [aL D ou 1 (vp_updL wf 0 ((nI 0).toInt64)), oO xo 5 [.ref lc, .ref lt, .ref bo, .ref yo, .ref no], oO lc 7 [.int m1, .ref ec, .int (nI nC)], aO D ec 10 (lsF cl nC), oO (cl c0) 0 [.int len, .ref ta, .ref (q 0), .ref (q 1)], oO lt 7 [.int (m2 + 1), .ref et, .int (nI 1)], aO D et 10 (lsF (fun _ => so) 1), oO so 3 [.ref (cl c0), .int (nI c0), .int x1, .int x2, .int x3, .int 1, .int 1, .int 0, .int 100, .int 0, .int 0, .int 0, .int 0]] H := hP
  have hD : va_D A [aL D ou 1 (vp_updL wf 0 ((nI 0).toInt64)), oO xo 5 [.ref lc, .ref lt, .ref bo, .ref yo, .ref no], oO lc 7 [.int m1, .ref ec, .int (nI nC)], aO D ec 10 (lsF cl nC), oO (cl c0) 0 [.int len, .ref ta, .ref (q 0), .ref (q 1)], oO lt 7 [.int (m2 + 1), .ref et, .int (nI 1)], aO D et 10 (lsF (fun _ => so) 1), oO so 3 [.ref (cl c0), .int (nI c0), .int x1, .int x2, .int x3, .int 1, .int 1, .int 0, .int 100, .int 0, .int 0, .int 0, .int 0]] := hD
  refine lv_goto (tgt := 29) hx hb dL_addStrip_14 (by decide) ?_
  refine lv_iconst (v := 0) hx hb dL_addStrip_29 (by decide) ?_
  refine Wi (et, so) hx hb hr hlk ?_ (hP.sub [1, 2, 3, 4, 5, 6, 7, 0] rfl) (hD.sub [1, 2, 3, 4, 5, 6, 7, 0] (by decide) rfl) hS (Nat.le_of_ble_eq_true rfl) (by first | exact Nat.le_of_ble_eq_true rfl | exact Nat.le_of_eq (Nat.zero_add _)) dL_addStrip_30
  exact rfl
set_option maxHeartbeats 400000 in
set_option maxRecDepth 100000 in
theorem h_removeStrip_1 (l : Launch) (D : va_G) (hns : l.stackTraces = false) {xo lc lt bo yo no : Nat} {et nS : Nat} {m2 : Int32} {x : Int32} {ou : Nat} (hz0 : Nat) (hnS : nS ≤ 10) (h : ¬ (0 ≤ x ∧ x ≤ nI nS - 1)) : Met l yL_removeStrip (wsW_ yL_removeStrip cL_removeStrip 4 (some .int) [(0, 9, 12, 21)]) ({ frames := 7, cells := 1, slots := 6, locals := 144 } : Room) (va_Pc [.ref xo, .int x, .ref ou] (TW D [oO xo 5 [.ref lc, .ref lt, .ref bo, .ref yo, .ref no], oO lt 7 [.int m2, .ref et, .int (nI nS)]] hz0)) (va_Qi (fun r (_ : Unit) => r = 1) (fun _ _ => True) (va_A [] hz0)) 1 6 (va_A [] hz0) := by
  refine va_MetW (hh := [(0, 9, 12, 21)]) (cc := cL_removeStrip) (maxL := 4) (ret := (some .int)) (by decide +kernel) rfl ?_
  intro p e s m args below meth c s₁ B hml hv
  obtain ⟨rfl, hsz, hG, hP, hZ⟩ := hv
  subst hsz
  have hx := B.exec
  have hb := B.bytes
  have hr := B.returns
  have hts : ∀ w ∈ wsL_law, w.before _ s = true := fun w h => atoms_spec (ws := (wsW_ yL_removeStrip cL_removeStrip 4 (some .int) [(0, 9, 12, 21)])) B.pre w (List.mem_cons_of_mem _ (wsL2_in w h))
  have hk15 : (Cond.classLink RL 15 "java/lang/IllegalStateException").before _ s = true := atoms_spec (ws := (wsW_ yL_removeStrip cL_removeStrip 4 (some .int) [(0, 9, 12, 21)])) B.pre _ (List.mem_cons_of_mem _ List.mem_cons_self)
  have hown : s.vm.findClass RL = some m.cls := findClass_of_methodNamed B.named
  have hlk := B.notSynchronized
  have hC : CallFix p m c cL_removeStrip 4 s _ wsL_law RL := ⟨hx, hb, hml, hown, hts⟩
  have hS : va_S (va_A [] s.heap.size) s.heap s.heap [] := va_S.rf
  have hl := lv_entry ([.ref xo, .int x, .ref ou]) (n := 4) (Nat.le_of_ble_eq_true rfl)
  rw [lg_entry_eq]
  generalize (lg_sl ([.ref xo, .int x, .ref ou]) ++ List.replicate (4 - (lg_sl ([.ref xo, .int x, .ref ou])).length) Slot.unset).toArray = ls at hl ⊢
  have hl : lv_has ls 4 [(0, .ref xo), (1, .int x), (2, .ref ou)] := hl
  refine lv_aload_n hx hb dL_removeStrip_0 rfl (lv_at hl 2 rfl) ?_
  refine lv_iconst (v := 0) hx hb dL_removeStrip_1 (by decide) ?_
  refine lv_aload_n hx hb dL_removeStrip_2 rfl (lv_at hl 0 rfl) ?_
  refine lv_iload_n hx hb dL_removeStrip_3 rfl (lv_at hl 1 rfl) ?_
  have hP9 := hP.sub (ws' := [oO xo 5 [.ref lc, .ref lt, .ref bo, .ref yo, .ref no], oO lt 7 [.int m2, .ref et, .int (nI nS)]]) [0, 1] rfl
  refine vx_calli (A0 := va_A [] s.heap.size) (rX (rest := [.int 0, .ref ou]) (qc := (RX5, TX5, 5)) [.int x] 1 hC (t_removeStrip_1 l D hns (xo := xo) (lc := lc) (lt := lt) (bo := bo) (yo := yo) (no := no) (et := et) (nS := nS) (m2 := m2) (x := x) (hz0 := s.heap.size) (hnS) (h)) rfl (hP 0 _ rfl) (gV mM_L_62 mI_X5_removeStrip mS_X5_removeStrip mN_X5 mC_X5_removeStrip) (by decide +kernel) rfl rfl ⟨Nat.le_of_ble_eq_true rfl, Nat.le_of_ble_eq_true rfl⟩ hG hP9 hZ rfl hl.1 rfl (Nat.le_of_ble_eq_true rfl) dL_removeStrip_4 ⟨Nat.le_of_ble_eq_true rfl, Nat.le_of_ble_eq_true rfl⟩) hS (fun q _ h => h) (fun q h => h) (fun q _ h => h) (fun E ce q9 u9 t H1 locs1 ht hvm hp9 hB hz hk hS1 hce hcv hcl => ?_) (fun r u t H1 locs1 ht hvm hp9 _ _ _ _ => hp9.elim)
  obtain rfl : E = "java/lang/IndexOutOfBoundsException" := hB
  have htb := vx_table (x := yL_removeStrip) B (hts _ mW_L_removeStrip)
  refine vx_catch (own := RL) (name := "java/lang/IndexOutOfBoundsException") (pc := 4) (rest := [.int 0, .ref ou]) hown [] ⟨0, 9, 12, 21⟩ [] (by rw [htb]; rfl) (fun z hz9 => absurd hz9 List.not_mem_nil) rfl (by decide) (hts _ mK_L_21) (va_Nw.use rfl (gkC hG 4 rfl)) hce hcv hcl ?_
  refine lv_astore_n (lv' := [(3, .ref q9), (0, .ref xo), (1, .int x), (2, .ref ou)]) hx hb dL_removeStrip_12 rfl hl (by decide) rfl (fun ls hl => ?_)
  refine lv_iconst (v := 1) hx hb dL_removeStrip_13 (by decide) ?_
  exact W.iret (v := 1) hx hb hr (fun t ht _ => ⟨⟨_, (), rfl, rfl, trivial⟩, hS1.F ht⟩) hS1.2.2 dL_removeStrip_14 hlk
set_option maxHeartbeats 400000 in
set_option maxRecDepth 100000 in
theorem l_removeStrip (l : Launch) (D : va_G) {xo lc lt bo yo no : Nat} {et nS : Nat} {m2 : Int32} {s0 : Nat} {sl : Nat → Nat} {ou : Nat} {wf : Nat → Int64} (hz0 : Nat) (hnS : nS ≤ 10) (hs0 : s0 < nS) : Met l yL_removeStrip (wsW_ yL_removeStrip cL_removeStrip 4 (some .int) [(0, 9, 12, 21)]) ({ frames := 7, cells := 0, slots := 0, locals := 144 } : Room) (va_Pc [.ref xo, .int (nI s0), .ref ou] (SX D [oO xo 5 [.ref lc, .ref lt, .ref bo, .ref yo, .ref no], oO lt 7 [.int m2, .ref et, .int (nI nS)], aO D et 10 (lsF sl nS), aL D ou 1 wf] hz0 (EL D (lsF sl nS) nS lt et))) (va_Qi (fun r _ => r = 0) (AT D (va_A [oO xo 5 [.ref lc, .ref lt, .ref bo, .ref yo, .ref no], oO lt 7 [.int m2, .ref et, .int (nI nS)], aO D et 10 (lsF sl nS), aL D ou 1 wf] hz0) (fun _ : Unit => [oO xo 5 [.ref lc, .ref lt, .ref bo, .ref yo, .ref no], oO lt 7 [.int (m2 + 1), .ref et, .int (nI (nS - 1))], aO D et 10 (rmQ (lsF sl nS) s0 nS), aL D ou 1 (vp_updL wf 0 (nI (nS - 1)).toInt64)])) (va_A [oO xo 5 [.ref lc, .ref lt, .ref bo, .ref yo, .ref no], oO lt 7 [.int m2, .ref et, .int (nI nS)], aO D et 10 (lsF sl nS), aL D ou 1 wf] hz0)) 0 0 (va_A [oO xo 5 [.ref lc, .ref lt, .ref bo, .ref yo, .ref no], oO lt 7 [.int m2, .ref et, .int (nI nS)], aO D et 10 (lsF sl nS), aL D ou 1 wf] hz0) := by
  refine va_MetW (hh := [(0, 9, 12, 21)]) (cc := cL_removeStrip) (maxL := 4) (ret := (some .int)) (by decide +kernel) rfl ?_
  intro p e s m args below meth c s₁ B hml hv
  obtain ⟨rfl, ⟨hsz, hG, hP, hD0⟩, hX⟩ := hv
  have hx := B.exec
  have hb := B.bytes
  have hr := B.returns
  have hts : ∀ w ∈ wsL_law, w.before _ s = true := fun w h => atoms_spec (ws := (wsW_ yL_removeStrip cL_removeStrip 4 (some .int) [(0, 9, 12, 21)])) B.pre w (List.mem_cons_of_mem _ (wsL2_in w h))
  have hown : s.vm.findClass RL = some m.cls := findClass_of_methodNamed B.named
  have hlk := B.notSynchronized
  have hC : CallFix p m c cL_removeStrip 4 s _ wsL_law RL := ⟨hx, hb, hml, hown, hts⟩
  subst hsz
  have hD := hD0.self (sz := s.heap.size)
  generalize hAe : va_A [oO xo 5 [.ref lc, .ref lt, .ref bo, .ref yo, .ref no], oO lt 7 [.int m2, .ref et, .int (nI nS)], aO D et 10 (lsF sl nS), aL D ou 1 wf] s.heap.size = A at hD hX ⊢
  have hA : ∀ q : Nat, s.heap.size ≤ q → A q := fun q h => by rw [← hAe]; exact Or.inr h
  have hS : va_S A s.heap s.heap [] := va_S.rf
  obtain ⟨H, hHe⟩ : ∃ H, H = s.heap := ⟨_, rfl⟩
  rw [← hHe] at hP
  have hS : va_S A s.heap H [] := by rw [hHe]; exact hS
  have hl := lv_entry ([.ref xo, .int (nI s0), .ref ou]) (n := 4) (Nat.le_of_ble_eq_true rfl)
  rw [lg_entry_eq]
  generalize (lg_sl ([.ref xo, .int (nI s0), .ref ou]) ++ List.replicate (4 - (lg_sl ([.ref xo, .int (nI s0), .ref ou])).length) Slot.unset).toArray = ls at hl ⊢
  have hl : lv_has ls 4 [(0, .ref xo), (1, .int (nI s0)), (2, .ref ou)] := hl
  rw [← hHe]
  refine lv_aload_n hx hb dL_removeStrip_0 rfl (lv_at hl 2 rfl) ?_
  refine lv_iconst (v := 0) hx hb dL_removeStrip_1 (by decide) ?_
  refine lv_aload_n hx hb dL_removeStrip_2 rfl (lv_at hl 0 rfl) ?_
  refine lv_iload_n hx hb dL_removeStrip_3 rfl (lv_at hl 1 rfl) ?_
  have hP9 := hP.sub (ws' := [oO xo 5 [.ref lc, .ref lt, .ref bo, .ref yo, .ref no], oO lt 7 [.int m2, .ref et, .int (nI nS)], aO D et 10 (lsF sl nS)]) [0, 1, 2] rfl
  have hD9 := (hD.sub (ws' := [oO xo 5 [.ref lc, .ref lt, .ref bo, .ref yo, .ref no], oO lt 7 [.int m2, .ref et, .int (nI nS)], aO D et 10 (lsF sl nS)]) [0, 1, 2] (by decide) rfl).weaken (B := fun _ => True) (fun _ _ _ _ => trivial)
  refine ki (wr := [aL D ou 1 wf]) (rVX (EL.blind) (fun U hU _ => by
    intro k9 h9 y9 h8
    obtain ⟨a1, a2, a3⟩ := hX k9 h9 y9 h8
    rw [hU, hHe]
    exact ⟨a1, a2, a3⟩) (rest := [.int 0, .ref ou]) (qc := (RX5, TX5, 5)) [.int (nI s0)] 1 0 0 hC (c_removeStrip l D (xo := xo) (lc := lc) (lt := lt) (bo := bo) (yo := yo) (no := no) (et := et) (nS := nS) (m2 := m2) (s0 := s0) (sl := sl) (hz0 := H.size) (hnS) (hs0)) rfl (hP 0 _ rfl) (gV mM_L_62 mI_X5_removeStrip mS_X5_removeStrip mN_X5 mC_X5_removeStrip) (by decide +kernel) rfl rfl ⟨Nat.le_of_ble_eq_true rfl, Nat.le_of_ble_eq_true rfl⟩ hG hP9 hD9 rfl hl.1 rfl (Nat.le_of_ble_eq_true rfl) dL_removeStrip_4 ⟨Nat.le_of_ble_eq_true rfl, Nat.le_of_ble_eq_true rfl⟩) hP hD hS hA [0, 1, 2] [3] rfl rfl (by decide) (by decide) (fun r4 u4 H locs h4 hP hD hS hz hfr => ?_)
  have hP : va_P D cls [aL D ou 1 wf, oO xo 5 [.ref lc, .ref lt, .ref bo, .ref yo, .ref no], oO lt 7 [.int (m2 + 1), .ref et, .int (nI (nS - 1))], aO D et 10 (rmQ (lsF sl nS) s0 nS)] H := hP
  have hD : va_D A [aL D ou 1 wf, oO xo 5 [.ref lc, .ref lt, .ref bo, .ref yo, .ref no], oO lt 7 [.int (m2 + 1), .ref et, .int (nI (nS - 1))], aO D et 10 (rmQ (lsF sl nS) s0 nS)] := hD
  obtain rfl : r4 = (nI (nS - 1)) := h4
  refine lv_i2l hx hb dL_removeStrip_7 rfl ?_
  refine lst (n := 1) (j := 0) hx hb hG hP hD hS 0 rfl (by omega) (by omega) dL_removeStrip_8 (fun H locs hP hD hS => ?_)
  have hP : va_P D cls [aL D ou 1 (vp_updL wf 0 ((nI (nS - 1)).toInt64)), oO xo 5 [.ref lc, .ref lt, .ref bo, .ref yo, .ref no], oO lt 7 [.int (m2 + 1), .ref et, .int (nI (nS - 1))], aO D et 10 (rmQ (lsF sl nS) s0 nS)] H := hP
  have hD : va_D A [aL D ou 1 (vp_updL wf 0 ((nI (nS - 1)).toInt64)), oO xo 5 [.ref lc, .ref lt, .ref bo, .ref yo, .ref no], oO lt 7 [.int (m2 + 1), .ref et, .int (nI (nS - 1))], aO D et 10 (rmQ (lsF sl nS) s0 nS)] := hD
  refine lv_goto (tgt := 15) hx hb dL_removeStrip_9 (by decide) ?_
  refine lv_iconst (v := 0) hx hb dL_removeStrip_15 (by decide) ?_
  refine Wi () hx hb hr hlk ?_ (hP.sub [1, 2, 3, 0] rfl) (hD.sub [1, 2, 3, 0] (by decide) rfl) hS (Nat.le_of_ble_eq_true rfl) (by first | exact Nat.le_of_ble_eq_true rfl | exact Nat.le_of_eq (Nat.zero_add _)) dL_removeStrip_16
  exact rfl
set_option maxHeartbeats 400000 in
set_option maxRecDepth 100000 in
theorem h_setSpeed_1 (l : Launch) (D : va_G) (hns : l.stackTraces = false) {xo lc lt bo yo no : Nat} {et nS : Nat} {m2 : Int32} {x p1 q1 : Int32} {ou : Nat} (hz0 : Nat) (hnS : nS ≤ 10) (hxx : x < 0 ∨ nI nS ≤ x) : Met l yL_setSpeed (wsW_ yL_setSpeed cL_setSpeed 6 (some .int) [(0, 12, 15, 21), (0, 12, 19, 13)]) ({ frames := 7, cells := 1, slots := 6, locals := 126 } : Room) (va_Pc [.ref xo, .int x, .int p1, .int q1, .ref ou] (TW D [oO xo 5 [.ref lc, .ref lt, .ref bo, .ref yo, .ref no], oO lt 7 [.int m2, .ref et, .int (nI nS)]] hz0)) (va_Qi (fun r (_ : Unit) => r = 1) (fun _ _ => True) (va_A [] hz0)) 1 6 (va_A [] hz0) := by
  refine va_MetW (hh := [(0, 12, 15, 21), (0, 12, 19, 13)]) (cc := cL_setSpeed) (maxL := 6) (ret := (some .int)) (by decide +kernel) rfl ?_
  intro p e s m args below meth c s₁ B hml hv
  obtain ⟨rfl, hsz, hG, hP, hZ⟩ := hv
  subst hsz
  have hx := B.exec
  have hb := B.bytes
  have hr := B.returns
  have hts : ∀ w ∈ wsL_law, w.before _ s = true := fun w h => atoms_spec (ws := (wsW_ yL_setSpeed cL_setSpeed 6 (some .int) [(0, 12, 15, 21), (0, 12, 19, 13)])) B.pre w (List.mem_cons_of_mem _ (wsL2_in w h))
  have hk15 : (Cond.classLink RL 15 "java/lang/IllegalStateException").before _ s = true := atoms_spec (ws := (wsW_ yL_setSpeed cL_setSpeed 6 (some .int) [(0, 12, 15, 21), (0, 12, 19, 13)])) B.pre _ (List.mem_cons_of_mem _ List.mem_cons_self)
  have hown : s.vm.findClass RL = some m.cls := findClass_of_methodNamed B.named
  have hlk := B.notSynchronized
  have hC : CallFix p m c cL_setSpeed 6 s _ wsL_law RL := ⟨hx, hb, hml, hown, hts⟩
  have hS : va_S (va_A [] s.heap.size) s.heap s.heap [] := va_S.rf
  have hl := lv_entry ([.ref xo, .int x, .int p1, .int q1, .ref ou]) (n := 6) (Nat.le_of_ble_eq_true rfl)
  rw [lg_entry_eq]
  generalize (lg_sl ([.ref xo, .int x, .int p1, .int q1, .ref ou]) ++ List.replicate (6 - (lg_sl ([.ref xo, .int x, .int p1, .int q1, .ref ou])).length) Slot.unset).toArray = ls at hl ⊢
  have hl : lv_has ls 6 [(0, .ref xo), (1, .int x), (2, .int p1), (3, .int q1), (4, .ref ou)] := hl
  refine lv_aload hx hb dL_setSpeed_0 (lv_at hl 4 rfl) ?_
  refine lv_iconst (v := 0) hx hb dL_setSpeed_2 (by decide) ?_
  refine lv_aload_n hx hb dL_setSpeed_3 rfl (lv_at hl 0 rfl) ?_
  refine lv_iload_n hx hb dL_setSpeed_4 rfl (lv_at hl 1 rfl) ?_
  refine lv_iload_n hx hb dL_setSpeed_5 rfl (lv_at hl 2 rfl) ?_
  refine lv_iload_n hx hb dL_setSpeed_6 rfl (lv_at hl 3 rfl) ?_
  have hP9 := hP.sub (ws' := [oO xo 5 [.ref lc, .ref lt, .ref bo, .ref yo, .ref no], oO lt 7 [.int m2, .ref et, .int (nI nS)]]) [0, 1] rfl
  refine vx_calli (A0 := va_A [] s.heap.size) (rX (rest := [.int 0, .ref ou]) (qc := (RX5, TX5, 5)) [.int x, .int p1, .int q1] 3 hC (t_setSpeed_1 l D hns (xo := xo) (lc := lc) (lt := lt) (bo := bo) (yo := yo) (no := no) (et := et) (nS := nS) (m2 := m2) (x := x) (p1 := p1) (q1 := q1) (hz0 := s.heap.size) (hnS) (hxx)) rfl (hP 0 _ rfl) (gV mM_L_65 mI_X5_setSpeed mS_X5_setSpeed mN_X5 mC_X5_setSpeed) (by decide +kernel) rfl rfl ⟨Nat.le_of_ble_eq_true rfl, Nat.le_of_ble_eq_true rfl⟩ hG hP9 hZ rfl hl.1 rfl (Nat.le_of_ble_eq_true rfl) dL_setSpeed_7 ⟨Nat.le_of_ble_eq_true rfl, Nat.le_of_ble_eq_true rfl⟩) hS (fun q _ h => h) (fun q h => h) (fun q _ h => h) (fun E ce q9 u9 t H1 locs1 ht hvm hp9 hB hz hk hS1 hce hcv hcl => ?_) (fun r u t H1 locs1 ht hvm hp9 _ _ _ _ => hp9.elim)
  obtain rfl : E = "java/lang/IndexOutOfBoundsException" := hB
  have htb := vx_table (x := yL_setSpeed) B (hts _ mW_L_setSpeed)
  refine vx_catch (own := RL) (name := "java/lang/IndexOutOfBoundsException") (pc := 7) (rest := [.int 0, .ref ou]) hown [] ⟨0, 12, 15, 21⟩ [⟨0, 12, 19, 13⟩] (by rw [htb]; rfl) (fun z hz9 => absurd hz9 List.not_mem_nil) rfl (by decide) (hts _ mK_L_21) (va_Nw.use rfl (gkC hG 4 rfl)) hce hcv hcl ?_
  refine lv_astore (lv' := [(5, .ref q9), (0, .ref xo), (1, .int x), (2, .int p1), (3, .int q1), (4, .ref ou)]) hx hb dL_setSpeed_15 hl (by decide) rfl (fun ls hl => ?_)
  refine lv_iconst (v := 1) hx hb dL_setSpeed_17 (by decide) ?_
  exact W.iret (v := 1) hx hb hr (fun t ht _ => ⟨⟨_, (), rfl, rfl, trivial⟩, hS1.F ht⟩) hS1.2.2 dL_setSpeed_18 hlk
set_option maxHeartbeats 400000 in
set_option maxRecDepth 100000 in
theorem h_setSpeed_2 (l : Launch) (D : va_G) (hns : l.stackTraces = false) {xo lc lt bo yo no : Nat} {et nS : Nat} {m2 : Int32} {s0 co : Nat} {sl : Nat → Nat} {pt : Nat → Int32} {p1 q1 : Int32} {ou : Nat} (hz0 : Nat) (hnS : nS ≤ 10) (hs0 : s0 < nS) (h : ¬ ((1 ≤ p1 ∧ p1 ≤ 9) ∧ (1 ≤ q1 ∧ q1 ≤ 9))) : Met l yL_setSpeed (wsW_ yL_setSpeed cL_setSpeed 6 (some .int) [(0, 12, 15, 21), (0, 12, 19, 13)]) ({ frames := 7, cells := 1, slots := 6, locals := 126 } : Room) (va_Pc [.ref xo, .int (nI s0), .int p1, .int q1, .ref ou] (TW D [oO xo 5 [.ref lc, .ref lt, .ref bo, .ref yo, .ref no], oO lt 7 [.int m2, .ref et, .int (nI nS)], aO D et 10 (lsF sl nS), oO (sl s0) 3 [.ref co, .int (pt 0), .int (pt 1), .int (pt 3), .int (pt 4), .int (pt 5), .int (pt 6), .int (pt 7), .int (pt 8), .int (pt 9), .int (pt 10), .int (pt 11), .int (pt 12)]] hz0)) (va_Qi (fun r (_ : Unit) => r = 2) (fun _ _ => True) (va_A [] hz0)) 1 6 (va_A [] hz0) := by
  refine va_MetW (hh := [(0, 12, 15, 21), (0, 12, 19, 13)]) (cc := cL_setSpeed) (maxL := 6) (ret := (some .int)) (by decide +kernel) rfl ?_
  intro p e s m args below meth c s₁ B hml hv
  obtain ⟨rfl, hsz, hG, hP, hZ⟩ := hv
  subst hsz
  have hx := B.exec
  have hb := B.bytes
  have hr := B.returns
  have hts : ∀ w ∈ wsL_law, w.before _ s = true := fun w h => atoms_spec (ws := (wsW_ yL_setSpeed cL_setSpeed 6 (some .int) [(0, 12, 15, 21), (0, 12, 19, 13)])) B.pre w (List.mem_cons_of_mem _ (wsL2_in w h))
  have hk15 : (Cond.classLink RL 15 "java/lang/IllegalStateException").before _ s = true := atoms_spec (ws := (wsW_ yL_setSpeed cL_setSpeed 6 (some .int) [(0, 12, 15, 21), (0, 12, 19, 13)])) B.pre _ (List.mem_cons_of_mem _ List.mem_cons_self)
  have hown : s.vm.findClass RL = some m.cls := findClass_of_methodNamed B.named
  have hlk := B.notSynchronized
  have hC : CallFix p m c cL_setSpeed 6 s _ wsL_law RL := ⟨hx, hb, hml, hown, hts⟩
  have hS : va_S (va_A [] s.heap.size) s.heap s.heap [] := va_S.rf
  have hl := lv_entry ([.ref xo, .int (nI s0), .int p1, .int q1, .ref ou]) (n := 6) (Nat.le_of_ble_eq_true rfl)
  rw [lg_entry_eq]
  generalize (lg_sl ([.ref xo, .int (nI s0), .int p1, .int q1, .ref ou]) ++ List.replicate (6 - (lg_sl ([.ref xo, .int (nI s0), .int p1, .int q1, .ref ou])).length) Slot.unset).toArray = ls at hl ⊢
  have hl : lv_has ls 6 [(0, .ref xo), (1, .int (nI s0)), (2, .int p1), (3, .int q1), (4, .ref ou)] := hl
  refine lv_aload hx hb dL_setSpeed_0 (lv_at hl 4 rfl) ?_
  refine lv_iconst (v := 0) hx hb dL_setSpeed_2 (by decide) ?_
  refine lv_aload_n hx hb dL_setSpeed_3 rfl (lv_at hl 0 rfl) ?_
  refine lv_iload_n hx hb dL_setSpeed_4 rfl (lv_at hl 1 rfl) ?_
  refine lv_iload_n hx hb dL_setSpeed_5 rfl (lv_at hl 2 rfl) ?_
  refine lv_iload_n hx hb dL_setSpeed_6 rfl (lv_at hl 3 rfl) ?_
  have hP9 := hP.sub (ws' := [oO xo 5 [.ref lc, .ref lt, .ref bo, .ref yo, .ref no], oO lt 7 [.int m2, .ref et, .int (nI nS)], aO D et 10 (lsF sl nS), oO (sl s0) 3 [.ref co, .int (pt 0), .int (pt 1), .int (pt 3), .int (pt 4), .int (pt 5), .int (pt 6), .int (pt 7), .int (pt 8), .int (pt 9), .int (pt 10), .int (pt 11), .int (pt 12)]]) [0, 1, 2, 3] rfl
  refine vx_calli (A0 := va_A [] s.heap.size) (rX (rest := [.int 0, .ref ou]) (qc := (RX5, TX5, 5)) [.int (nI s0), .int p1, .int q1] 3 hC (t_setSpeed_2 l D hns (xo := xo) (lc := lc) (lt := lt) (bo := bo) (yo := yo) (no := no) (et := et) (nS := nS) (m2 := m2) (s0 := s0) (co := co) (sl := sl) (pt := pt) (p1 := p1) (q1 := q1) (hz0 := s.heap.size) (hnS) (hs0) (h)) rfl (hP 0 _ rfl) (gV mM_L_65 mI_X5_setSpeed mS_X5_setSpeed mN_X5 mC_X5_setSpeed) (by decide +kernel) rfl rfl ⟨Nat.le_of_ble_eq_true rfl, Nat.le_of_ble_eq_true rfl⟩ hG hP9 hZ rfl hl.1 rfl (Nat.le_of_ble_eq_true rfl) dL_setSpeed_7 ⟨Nat.le_of_ble_eq_true rfl, Nat.le_of_ble_eq_true rfl⟩) hS (fun q _ h => h) (fun q h => h) (fun q _ h => h) (fun E ce q9 u9 t H1 locs1 ht hvm hp9 hB hz hk hS1 hce hcv hcl => ?_) (fun r u t H1 locs1 ht hvm hp9 _ _ _ _ => hp9.elim)
  obtain rfl : E = "java/lang/IllegalArgumentException" := hB
  have htb := vx_table (x := yL_setSpeed) B (hts _ mW_L_setSpeed)
  refine vx_catch (own := RL) (name := "java/lang/IllegalArgumentException") (pc := 7) (rest := [.int 0, .ref ou]) hown [⟨0, 12, 15, 21⟩] ⟨0, 12, 19, 13⟩ [] (by rw [htb]; rfl) (fun z hz9 => by
    simp only [List.mem_cons, List.not_mem_nil, or_false] at hz9
    rcases hz9 with rfl
    · exact Or.inr ⟨by decide, _, hts _ mK_L_21, gkN hG 1 rfl⟩) rfl (by decide) (hts _ mK_L_13) (va_Nw.use rfl (gkC hG 2 rfl)) hce hcv hcl ?_
  refine lv_astore (lv' := [(5, .ref q9), (0, .ref xo), (1, .int (nI s0)), (2, .int p1), (3, .int q1), (4, .ref ou)]) hx hb dL_setSpeed_19 hl (by decide) rfl (fun ls hl => ?_)
  refine lv_iconst (v := 2) hx hb dL_setSpeed_21 (by decide) ?_
  exact W.iret (v := 2) hx hb hr (fun t ht _ => ⟨⟨_, (), rfl, rfl, trivial⟩, hS1.F ht⟩) hS1.2.2 dL_setSpeed_22 hlk
set_option maxHeartbeats 400000 in
set_option maxRecDepth 100000 in
theorem l_setSpeed (l : Launch) (D : va_G) {xo lc lt bo yo no : Nat} {et nS : Nat} {m2 : Int32} {s0 co : Nat} {sl : Nat → Nat} {pt : Nat → Int32} {ta : Nat} {q : Nat → Nat} {len : Int32} {p1 q1 : Int32} {ou : Nat} {wf : Nat → Int64} (hz0 : Nat) (hnS : nS ≤ 10) (hs0 : s0 < nS) (h : (1 ≤ p1 ∧ p1 ≤ 9) ∧ (1 ≤ q1 ∧ q1 ≤ 9)) : Met l yL_setSpeed (wsW_ yL_setSpeed cL_setSpeed 6 (some .int) [(0, 12, 15, 21), (0, 12, 19, 13)]) ({ frames := 7, cells := 0, slots := 0, locals := 126 } : Room) (va_Pc [.ref xo, .int (nI s0), .int p1, .int q1, .ref ou] (SW D [oO xo 5 [.ref lc, .ref lt, .ref bo, .ref yo, .ref no], oO lt 7 [.int m2, .ref et, .int (nI nS)], aO D et 10 (lsF sl nS), oO (sl s0) 3 [.ref co, .int (pt 0), .int (pt 1), .int (pt 3), .int (pt 4), .int (pt 5), .int (pt 6), .int (pt 7), .int (pt 8), .int (pt 9), .int (pt 10), .int (pt 11), .int (pt 12)], oO co 0 [.int len, .ref ta, .ref (q 0), .ref (q 1)], aL D ou 1 wf] hz0)) (va_Qi (fun r _ => r = 0) (AT D (va_A [oO xo 5 [.ref lc, .ref lt, .ref bo, .ref yo, .ref no], oO lt 7 [.int m2, .ref et, .int (nI nS)], aO D et 10 (lsF sl nS), oO (sl s0) 3 [.ref co, .int (pt 0), .int (pt 1), .int (pt 3), .int (pt 4), .int (pt 5), .int (pt 6), .int (pt 7), .int (pt 8), .int (pt 9), .int (pt 10), .int (pt 11), .int (pt 12)], oO co 0 [.int len, .ref ta, .ref (q 0), .ref (q 1)], aL D ou 1 wf] hz0) (fun _ : Unit => [oO xo 5 [.ref lc, .ref lt, .ref bo, .ref yo, .ref no], oO lt 7 [.int m2, .ref et, .int (nI nS)], aO D et 10 (lsF sl nS), oO (sl s0) 3 [.ref co, .int ((upd (upd pt 5 p1) 6 q1) 0), .int ((upd (upd pt 5 p1) 6 q1) 1), .int ((upd (upd pt 5 p1) 6 q1) 3), .int ((upd (upd pt 5 p1) 6 q1) 4), .int ((upd (upd pt 5 p1) 6 q1) 5), .int ((upd (upd pt 5 p1) 6 q1) 6), .int ((upd (upd pt 5 p1) 6 q1) 7), .int ((upd (upd pt 5 p1) 6 q1) 8), .int ((upd (upd pt 5 p1) 6 q1) 9), .int ((upd (upd pt 5 p1) 6 q1) 10), .int ((upd (upd pt 5 p1) 6 q1) 11), .int ((upd (upd pt 5 p1) 6 q1) 12)], oO co 0 [.int len, .ref ta, .ref (q 0), .ref (q 1)], aL D ou 1 (vp_updL wf 0 (endS len (upd (upd pt 5 p1) 6 q1)).toInt64)])) (va_A [oO xo 5 [.ref lc, .ref lt, .ref bo, .ref yo, .ref no], oO lt 7 [.int m2, .ref et, .int (nI nS)], aO D et 10 (lsF sl nS), oO (sl s0) 3 [.ref co, .int (pt 0), .int (pt 1), .int (pt 3), .int (pt 4), .int (pt 5), .int (pt 6), .int (pt 7), .int (pt 8), .int (pt 9), .int (pt 10), .int (pt 11), .int (pt 12)], oO co 0 [.int len, .ref ta, .ref (q 0), .ref (q 1)], aL D ou 1 wf] hz0)) 0 0 (va_A [oO xo 5 [.ref lc, .ref lt, .ref bo, .ref yo, .ref no], oO lt 7 [.int m2, .ref et, .int (nI nS)], aO D et 10 (lsF sl nS), oO (sl s0) 3 [.ref co, .int (pt 0), .int (pt 1), .int (pt 3), .int (pt 4), .int (pt 5), .int (pt 6), .int (pt 7), .int (pt 8), .int (pt 9), .int (pt 10), .int (pt 11), .int (pt 12)], oO co 0 [.int len, .ref ta, .ref (q 0), .ref (q 1)], aL D ou 1 wf] hz0) := by
  refine va_MetW (hh := [(0, 12, 15, 21), (0, 12, 19, 13)]) (cc := cL_setSpeed) (maxL := 6) (ret := (some .int)) (by decide +kernel) rfl ?_
  intro p e s m args below meth c s₁ B hml hv
  obtain ⟨rfl, hsz, hG, hP, hD0⟩ := hv
  have hx := B.exec
  have hb := B.bytes
  have hr := B.returns
  have hts : ∀ w ∈ wsL_law, w.before _ s = true := fun w h => atoms_spec (ws := (wsW_ yL_setSpeed cL_setSpeed 6 (some .int) [(0, 12, 15, 21), (0, 12, 19, 13)])) B.pre w (List.mem_cons_of_mem _ (wsL2_in w h))
  have hown : s.vm.findClass RL = some m.cls := findClass_of_methodNamed B.named
  have hlk := B.notSynchronized
  have hC : CallFix p m c cL_setSpeed 6 s _ wsL_law RL := ⟨hx, hb, hml, hown, hts⟩
  subst hsz
  have hD := hD0.self (sz := s.heap.size)
  generalize hAe : va_A [oO xo 5 [.ref lc, .ref lt, .ref bo, .ref yo, .ref no], oO lt 7 [.int m2, .ref et, .int (nI nS)], aO D et 10 (lsF sl nS), oO (sl s0) 3 [.ref co, .int (pt 0), .int (pt 1), .int (pt 3), .int (pt 4), .int (pt 5), .int (pt 6), .int (pt 7), .int (pt 8), .int (pt 9), .int (pt 10), .int (pt 11), .int (pt 12)], oO co 0 [.int len, .ref ta, .ref (q 0), .ref (q 1)], aL D ou 1 wf] s.heap.size = A at hD ⊢
  have hA : ∀ q : Nat, s.heap.size ≤ q → A q := fun q h => by rw [← hAe]; exact Or.inr h
  have hS : va_S A s.heap s.heap [] := va_S.rf
  obtain ⟨H, hHe⟩ : ∃ H, H = s.heap := ⟨_, rfl⟩
  rw [← hHe] at hP
  have hS : va_S A s.heap H [] := by rw [hHe]; exact hS
  have hl := lv_entry ([.ref xo, .int (nI s0), .int p1, .int q1, .ref ou]) (n := 6) (Nat.le_of_ble_eq_true rfl)
  rw [lg_entry_eq]
  generalize (lg_sl ([.ref xo, .int (nI s0), .int p1, .int q1, .ref ou]) ++ List.replicate (6 - (lg_sl ([.ref xo, .int (nI s0), .int p1, .int q1, .ref ou])).length) Slot.unset).toArray = ls at hl ⊢
  have hl : lv_has ls 6 [(0, .ref xo), (1, .int (nI s0)), (2, .int p1), (3, .int q1), (4, .ref ou)] := hl
  rw [← hHe]
  refine lv_aload hx hb dL_setSpeed_0 (lv_at hl 4 rfl) ?_
  refine lv_iconst (v := 0) hx hb dL_setSpeed_2 (by decide) ?_
  refine lv_aload_n hx hb dL_setSpeed_3 rfl (lv_at hl 0 rfl) ?_
  refine lv_iload_n hx hb dL_setSpeed_4 rfl (lv_at hl 1 rfl) ?_
  refine lv_iload_n hx hb dL_setSpeed_5 rfl (lv_at hl 2 rfl) ?_
  refine lv_iload_n hx hb dL_setSpeed_6 rfl (lv_at hl 3 rfl) ?_
  have hP9 := hP.sub (ws' := [oO xo 5 [.ref lc, .ref lt, .ref bo, .ref yo, .ref no], oO lt 7 [.int m2, .ref et, .int (nI nS)], aO D et 10 (lsF sl nS), oO (sl s0) 3 [.ref co, .int (pt 0), .int (pt 1), .int (pt 3), .int (pt 4), .int (pt 5), .int (pt 6), .int (pt 7), .int (pt 8), .int (pt 9), .int (pt 10), .int (pt 11), .int (pt 12)], oO co 0 [.int len, .ref ta, .ref (q 0), .ref (q 1)]]) [0, 1, 2, 3, 4] rfl
  have hD9 := (hD.sub (ws' := [oO xo 5 [.ref lc, .ref lt, .ref bo, .ref yo, .ref no], oO lt 7 [.int m2, .ref et, .int (nI nS)], aO D et 10 (lsF sl nS), oO (sl s0) 3 [.ref co, .int (pt 0), .int (pt 1), .int (pt 3), .int (pt 4), .int (pt 5), .int (pt 6), .int (pt 7), .int (pt 8), .int (pt 9), .int (pt 10), .int (pt 11), .int (pt 12)], oO co 0 [.int len, .ref ta, .ref (q 0), .ref (q 1)]]) [0, 1, 2, 3, 4] (by decide) rfl).weaken (B := fun _ => True) (fun _ _ _ _ => trivial)
  refine ki (wr := [aL D ou 1 wf]) (rV (rest := [.int 0, .ref ou]) (qc := (RX5, TX5, 5)) [.int (nI s0), .int p1, .int q1] 3 0 0 hC (c_setSpeed l D (xo := xo) (lc := lc) (lt := lt) (bo := bo) (yo := yo) (no := no) (et := et) (nS := nS) (m2 := m2) (s0 := s0) (co := co) (sl := sl) (pt := pt) (ta := ta) (q := q) (len := len) (p1 := p1) (q1 := q1) (hz0 := H.size) (hnS) (hs0) (h)) rfl (hP 0 _ rfl) (gV mM_L_65 mI_X5_setSpeed mS_X5_setSpeed mN_X5 mC_X5_setSpeed) (by decide +kernel) rfl rfl ⟨Nat.le_of_ble_eq_true rfl, Nat.le_of_ble_eq_true rfl⟩ hG hP9 hD9 rfl hl.1 rfl (Nat.le_of_ble_eq_true rfl) dL_setSpeed_7 ⟨Nat.le_of_ble_eq_true rfl, Nat.le_of_ble_eq_true rfl⟩) hP hD hS hA [0, 1, 2, 3, 4] [5] rfl rfl (by decide) (by decide) (fun r7 u7 H locs h7 hP hD hS hz hfr => ?_)
  have hP : va_P D cls [aL D ou 1 wf, oO xo 5 [.ref lc, .ref lt, .ref bo, .ref yo, .ref no], oO lt 7 [.int m2, .ref et, .int (nI nS)], aO D et 10 (lsF sl nS), oO (sl s0) 3 [.ref co, .int ((upd (upd pt 5 p1) 6 q1) 0), .int ((upd (upd pt 5 p1) 6 q1) 1), .int ((upd (upd pt 5 p1) 6 q1) 3), .int ((upd (upd pt 5 p1) 6 q1) 4), .int ((upd (upd pt 5 p1) 6 q1) 5), .int ((upd (upd pt 5 p1) 6 q1) 6), .int ((upd (upd pt 5 p1) 6 q1) 7), .int ((upd (upd pt 5 p1) 6 q1) 8), .int ((upd (upd pt 5 p1) 6 q1) 9), .int ((upd (upd pt 5 p1) 6 q1) 10), .int ((upd (upd pt 5 p1) 6 q1) 11), .int ((upd (upd pt 5 p1) 6 q1) 12)], oO co 0 [.int len, .ref ta, .ref (q 0), .ref (q 1)]] H := hP
  have hD : va_D A [aL D ou 1 wf, oO xo 5 [.ref lc, .ref lt, .ref bo, .ref yo, .ref no], oO lt 7 [.int m2, .ref et, .int (nI nS)], aO D et 10 (lsF sl nS), oO (sl s0) 3 [.ref co, .int ((upd (upd pt 5 p1) 6 q1) 0), .int ((upd (upd pt 5 p1) 6 q1) 1), .int ((upd (upd pt 5 p1) 6 q1) 3), .int ((upd (upd pt 5 p1) 6 q1) 4), .int ((upd (upd pt 5 p1) 6 q1) 5), .int ((upd (upd pt 5 p1) 6 q1) 6), .int ((upd (upd pt 5 p1) 6 q1) 7), .int ((upd (upd pt 5 p1) 6 q1) 8), .int ((upd (upd pt 5 p1) 6 q1) 9), .int ((upd (upd pt 5 p1) 6 q1) 10), .int ((upd (upd pt 5 p1) 6 q1) 11), .int ((upd (upd pt 5 p1) 6 q1) 12)], oO co 0 [.int len, .ref ta, .ref (q 0), .ref (q 1)]] := hD
  obtain rfl : r7 = (endS len (upd (upd pt 5 p1) 6 q1)) := h7
  refine lv_i2l hx hb dL_setSpeed_10 rfl ?_
  refine lst (n := 1) (j := 0) hx hb hG hP hD hS 0 rfl (by omega) (by omega) dL_setSpeed_11 (fun H locs hP hD hS => ?_)
  have hP : va_P D cls [aL D ou 1 (vp_updL wf 0 ((endS len (upd (upd pt 5 p1) 6 q1)).toInt64)), oO xo 5 [.ref lc, .ref lt, .ref bo, .ref yo, .ref no], oO lt 7 [.int m2, .ref et, .int (nI nS)], aO D et 10 (lsF sl nS), oO (sl s0) 3 [.ref co, .int ((upd (upd pt 5 p1) 6 q1) 0), .int ((upd (upd pt 5 p1) 6 q1) 1), .int ((upd (upd pt 5 p1) 6 q1) 3), .int ((upd (upd pt 5 p1) 6 q1) 4), .int ((upd (upd pt 5 p1) 6 q1) 5), .int ((upd (upd pt 5 p1) 6 q1) 6), .int ((upd (upd pt 5 p1) 6 q1) 7), .int ((upd (upd pt 5 p1) 6 q1) 8), .int ((upd (upd pt 5 p1) 6 q1) 9), .int ((upd (upd pt 5 p1) 6 q1) 10), .int ((upd (upd pt 5 p1) 6 q1) 11), .int ((upd (upd pt 5 p1) 6 q1) 12)], oO co 0 [.int len, .ref ta, .ref (q 0), .ref (q 1)]] H := hP
  have hD : va_D A [aL D ou 1 (vp_updL wf 0 ((endS len (upd (upd pt 5 p1) 6 q1)).toInt64)), oO xo 5 [.ref lc, .ref lt, .ref bo, .ref yo, .ref no], oO lt 7 [.int m2, .ref et, .int (nI nS)], aO D et 10 (lsF sl nS), oO (sl s0) 3 [.ref co, .int ((upd (upd pt 5 p1) 6 q1) 0), .int ((upd (upd pt 5 p1) 6 q1) 1), .int ((upd (upd pt 5 p1) 6 q1) 3), .int ((upd (upd pt 5 p1) 6 q1) 4), .int ((upd (upd pt 5 p1) 6 q1) 5), .int ((upd (upd pt 5 p1) 6 q1) 6), .int ((upd (upd pt 5 p1) 6 q1) 7), .int ((upd (upd pt 5 p1) 6 q1) 8), .int ((upd (upd pt 5 p1) 6 q1) 9), .int ((upd (upd pt 5 p1) 6 q1) 10), .int ((upd (upd pt 5 p1) 6 q1) 11), .int ((upd (upd pt 5 p1) 6 q1) 12)], oO co 0 [.int len, .ref ta, .ref (q 0), .ref (q 1)]] := hD
  refine lv_goto (tgt := 23) hx hb dL_setSpeed_12 (by decide) ?_
  refine lv_iconst (v := 0) hx hb dL_setSpeed_23 (by decide) ?_
  refine Wi () hx hb hr hlk ?_ (hP.sub [1, 2, 3, 4, 5, 0] rfl) (hD.sub [1, 2, 3, 4, 5, 0] (by decide) rfl) hS (Nat.le_of_ble_eq_true rfl) (by first | exact Nat.le_of_ble_eq_true rfl | exact Nat.le_of_eq (Nat.zero_add _)) dL_setSpeed_24
  exact rfl
set_option maxHeartbeats 400000 in
set_option maxRecDepth 100000 in
theorem h_setBlend_1 (l : Launch) (D : va_G) (hns : l.stackTraces = false) {xo lc lt bo yo no : Nat} {et nS : Nat} {m2 : Int32} {x p1 q1 ad hd : Int32} {ou : Nat} (hz0 : Nat) (hnS : nS ≤ 10) (hxx : x < 0 ∨ nI nS ≤ x) : Met l yL_setBlend (wsW_ yL_setBlend cL_setBlend 8 (some .int) [(0, 16, 19, 21), (0, 16, 23, 13)]) ({ frames := 7, cells := 1, slots := 6, locals := 129 } : Room) (va_Pc [.ref xo, .int x, .int p1, .int q1, .int ad, .int hd, .ref ou] (TW D [oO xo 5 [.ref lc, .ref lt, .ref bo, .ref yo, .ref no], oO lt 7 [.int m2, .ref et, .int (nI nS)]] hz0)) (va_Qi (fun r (_ : Unit) => r = 1) (fun _ _ => True) (va_A [] hz0)) 1 6 (va_A [] hz0) := by
  refine va_MetW (hh := [(0, 16, 19, 21), (0, 16, 23, 13)]) (cc := cL_setBlend) (maxL := 8) (ret := (some .int)) (by decide +kernel) rfl ?_
  intro p e s m args below meth c s₁ B hml hv
  obtain ⟨rfl, hsz, hG, hP, hZ⟩ := hv
  subst hsz
  have hx := B.exec
  have hb := B.bytes
  have hr := B.returns
  have hts : ∀ w ∈ wsL_law, w.before _ s = true := fun w h => atoms_spec (ws := (wsW_ yL_setBlend cL_setBlend 8 (some .int) [(0, 16, 19, 21), (0, 16, 23, 13)])) B.pre w (List.mem_cons_of_mem _ (wsL2_in w h))
  have hk15 : (Cond.classLink RL 15 "java/lang/IllegalStateException").before _ s = true := atoms_spec (ws := (wsW_ yL_setBlend cL_setBlend 8 (some .int) [(0, 16, 19, 21), (0, 16, 23, 13)])) B.pre _ (List.mem_cons_of_mem _ List.mem_cons_self)
  have hown : s.vm.findClass RL = some m.cls := findClass_of_methodNamed B.named
  have hlk := B.notSynchronized
  have hC : CallFix p m c cL_setBlend 8 s _ wsL_law RL := ⟨hx, hb, hml, hown, hts⟩
  have hS : va_S (va_A [] s.heap.size) s.heap s.heap [] := va_S.rf
  have hl := lv_entry ([.ref xo, .int x, .int p1, .int q1, .int ad, .int hd, .ref ou]) (n := 8) (Nat.le_of_ble_eq_true rfl)
  rw [lg_entry_eq]
  generalize (lg_sl ([.ref xo, .int x, .int p1, .int q1, .int ad, .int hd, .ref ou]) ++ List.replicate (8 - (lg_sl ([.ref xo, .int x, .int p1, .int q1, .int ad, .int hd, .ref ou])).length) Slot.unset).toArray = ls at hl ⊢
  have hl : lv_has ls 8 [(0, .ref xo), (1, .int x), (2, .int p1), (3, .int q1), (4, .int ad), (5, .int hd), (6, .ref ou)] := hl
  refine lv_aload hx hb dL_setBlend_0 (lv_at hl 6 rfl) ?_
  refine lv_iconst (v := 0) hx hb dL_setBlend_2 (by decide) ?_
  refine lv_aload_n hx hb dL_setBlend_3 rfl (lv_at hl 0 rfl) ?_
  refine lv_iload_n hx hb dL_setBlend_4 rfl (lv_at hl 1 rfl) ?_
  refine lv_iload_n hx hb dL_setBlend_5 rfl (lv_at hl 2 rfl) ?_
  refine lv_iload_n hx hb dL_setBlend_6 rfl (lv_at hl 3 rfl) ?_
  refine lv_iload hx hb dL_setBlend_7 (lv_at hl 4 rfl) ?_
  refine lv_iload hx hb dL_setBlend_9 (lv_at hl 5 rfl) ?_
  have hP9 := hP.sub (ws' := [oO xo 5 [.ref lc, .ref lt, .ref bo, .ref yo, .ref no], oO lt 7 [.int m2, .ref et, .int (nI nS)]]) [0, 1] rfl
  refine vx_calli (A0 := va_A [] s.heap.size) (rX (rest := [.int 0, .ref ou]) (qc := (RX5, TX5, 5)) [.int x, .int p1, .int q1, .int ad, .int hd] 5 hC (t_setBlend_1 l D hns (xo := xo) (lc := lc) (lt := lt) (bo := bo) (yo := yo) (no := no) (et := et) (nS := nS) (m2 := m2) (x := x) (p1 := p1) (q1 := q1) (ad := ad) (hd := hd) (hz0 := s.heap.size) (hnS) (hxx)) rfl (hP 0 _ rfl) (gV mM_L_68 mI_X5_setBlend mS_X5_setBlend mN_X5 mC_X5_setBlend) (by decide +kernel) rfl rfl ⟨Nat.le_of_ble_eq_true rfl, Nat.le_of_ble_eq_true rfl⟩ hG hP9 hZ rfl hl.1 rfl (Nat.le_of_ble_eq_true rfl) dL_setBlend_11 ⟨Nat.le_of_ble_eq_true rfl, Nat.le_of_ble_eq_true rfl⟩) hS (fun q _ h => h) (fun q h => h) (fun q _ h => h) (fun E ce q9 u9 t H1 locs1 ht hvm hp9 hB hz hk hS1 hce hcv hcl => ?_) (fun r u t H1 locs1 ht hvm hp9 _ _ _ _ => hp9.elim)
  obtain rfl : E = "java/lang/IndexOutOfBoundsException" := hB
  have htb := vx_table (x := yL_setBlend) B (hts _ mW_L_setBlend)
  refine vx_catch (own := RL) (name := "java/lang/IndexOutOfBoundsException") (pc := 11) (rest := [.int 0, .ref ou]) hown [] ⟨0, 16, 19, 21⟩ [⟨0, 16, 23, 13⟩] (by rw [htb]; rfl) (fun z hz9 => absurd hz9 List.not_mem_nil) rfl (by decide) (hts _ mK_L_21) (va_Nw.use rfl (gkC hG 4 rfl)) hce hcv hcl ?_
  refine lv_astore (lv' := [(7, .ref q9), (0, .ref xo), (1, .int x), (2, .int p1), (3, .int q1), (4, .int ad), (5, .int hd), (6, .ref ou)]) hx hb dL_setBlend_19 hl (by decide) rfl (fun ls hl => ?_)
  refine lv_iconst (v := 1) hx hb dL_setBlend_21 (by decide) ?_
  exact W.iret (v := 1) hx hb hr (fun t ht _ => ⟨⟨_, (), rfl, rfl, trivial⟩, hS1.F ht⟩) hS1.2.2 dL_setBlend_22 hlk
set_option maxHeartbeats 400000 in
set_option maxRecDepth 100000 in
theorem h_setBlend_2 (l : Launch) (D : va_G) (hns : l.stackTraces = false) {xo lc lt bo yo no : Nat} {et nS : Nat} {m2 : Int32} {s0 co : Nat} {sl : Nat → Nat} {pt : Nat → Int32} {p1 q1 ad hd : Int32} {ou : Nat} (hz0 : Nat) (hnS : nS ≤ 10) (hs0 : s0 < nS) (h : ¬ ((0 ≤ p1 ∧ p1 ≤ 9) ∧ (0 ≤ q1 ∧ q1 ≤ 100))) : Met l yL_setBlend (wsW_ yL_setBlend cL_setBlend 8 (some .int) [(0, 16, 19, 21), (0, 16, 23, 13)]) ({ frames := 7, cells := 1, slots := 6, locals := 129 } : Room) (va_Pc [.ref xo, .int (nI s0), .int p1, .int q1, .int ad, .int hd, .ref ou] (TW D [oO xo 5 [.ref lc, .ref lt, .ref bo, .ref yo, .ref no], oO lt 7 [.int m2, .ref et, .int (nI nS)], aO D et 10 (lsF sl nS), oO (sl s0) 3 [.ref co, .int (pt 0), .int (pt 1), .int (pt 3), .int (pt 4), .int (pt 5), .int (pt 6), .int (pt 7), .int (pt 8), .int (pt 9), .int (pt 10), .int (pt 11), .int (pt 12)]] hz0)) (va_Qi (fun r (_ : Unit) => r = 2) (fun _ _ => True) (va_A [] hz0)) 1 6 (va_A [] hz0) := by
  refine va_MetW (hh := [(0, 16, 19, 21), (0, 16, 23, 13)]) (cc := cL_setBlend) (maxL := 8) (ret := (some .int)) (by decide +kernel) rfl ?_
  intro p e s m args below meth c s₁ B hml hv
  obtain ⟨rfl, hsz, hG, hP, hZ⟩ := hv
  subst hsz
  have hx := B.exec
  have hb := B.bytes
  have hr := B.returns
  have hts : ∀ w ∈ wsL_law, w.before _ s = true := fun w h => atoms_spec (ws := (wsW_ yL_setBlend cL_setBlend 8 (some .int) [(0, 16, 19, 21), (0, 16, 23, 13)])) B.pre w (List.mem_cons_of_mem _ (wsL2_in w h))
  have hk15 : (Cond.classLink RL 15 "java/lang/IllegalStateException").before _ s = true := atoms_spec (ws := (wsW_ yL_setBlend cL_setBlend 8 (some .int) [(0, 16, 19, 21), (0, 16, 23, 13)])) B.pre _ (List.mem_cons_of_mem _ List.mem_cons_self)
  have hown : s.vm.findClass RL = some m.cls := findClass_of_methodNamed B.named
  have hlk := B.notSynchronized
  have hC : CallFix p m c cL_setBlend 8 s _ wsL_law RL := ⟨hx, hb, hml, hown, hts⟩
  have hS : va_S (va_A [] s.heap.size) s.heap s.heap [] := va_S.rf
  have hl := lv_entry ([.ref xo, .int (nI s0), .int p1, .int q1, .int ad, .int hd, .ref ou]) (n := 8) (Nat.le_of_ble_eq_true rfl)
  rw [lg_entry_eq]
  generalize (lg_sl ([.ref xo, .int (nI s0), .int p1, .int q1, .int ad, .int hd, .ref ou]) ++ List.replicate (8 - (lg_sl ([.ref xo, .int (nI s0), .int p1, .int q1, .int ad, .int hd, .ref ou])).length) Slot.unset).toArray = ls at hl ⊢
  have hl : lv_has ls 8 [(0, .ref xo), (1, .int (nI s0)), (2, .int p1), (3, .int q1), (4, .int ad), (5, .int hd), (6, .ref ou)] := hl
  refine lv_aload hx hb dL_setBlend_0 (lv_at hl 6 rfl) ?_
  refine lv_iconst (v := 0) hx hb dL_setBlend_2 (by decide) ?_
  refine lv_aload_n hx hb dL_setBlend_3 rfl (lv_at hl 0 rfl) ?_
  refine lv_iload_n hx hb dL_setBlend_4 rfl (lv_at hl 1 rfl) ?_
  refine lv_iload_n hx hb dL_setBlend_5 rfl (lv_at hl 2 rfl) ?_
  refine lv_iload_n hx hb dL_setBlend_6 rfl (lv_at hl 3 rfl) ?_
  refine lv_iload hx hb dL_setBlend_7 (lv_at hl 4 rfl) ?_
  refine lv_iload hx hb dL_setBlend_9 (lv_at hl 5 rfl) ?_
  have hP9 := hP.sub (ws' := [oO xo 5 [.ref lc, .ref lt, .ref bo, .ref yo, .ref no], oO lt 7 [.int m2, .ref et, .int (nI nS)], aO D et 10 (lsF sl nS), oO (sl s0) 3 [.ref co, .int (pt 0), .int (pt 1), .int (pt 3), .int (pt 4), .int (pt 5), .int (pt 6), .int (pt 7), .int (pt 8), .int (pt 9), .int (pt 10), .int (pt 11), .int (pt 12)]]) [0, 1, 2, 3] rfl
  refine vx_calli (A0 := va_A [] s.heap.size) (rX (rest := [.int 0, .ref ou]) (qc := (RX5, TX5, 5)) [.int (nI s0), .int p1, .int q1, .int ad, .int hd] 5 hC (t_setBlend_2 l D hns (xo := xo) (lc := lc) (lt := lt) (bo := bo) (yo := yo) (no := no) (et := et) (nS := nS) (m2 := m2) (s0 := s0) (co := co) (sl := sl) (pt := pt) (p1 := p1) (q1 := q1) (ad := ad) (hd := hd) (hz0 := s.heap.size) (hnS) (hs0) (h)) rfl (hP 0 _ rfl) (gV mM_L_68 mI_X5_setBlend mS_X5_setBlend mN_X5 mC_X5_setBlend) (by decide +kernel) rfl rfl ⟨Nat.le_of_ble_eq_true rfl, Nat.le_of_ble_eq_true rfl⟩ hG hP9 hZ rfl hl.1 rfl (Nat.le_of_ble_eq_true rfl) dL_setBlend_11 ⟨Nat.le_of_ble_eq_true rfl, Nat.le_of_ble_eq_true rfl⟩) hS (fun q _ h => h) (fun q h => h) (fun q _ h => h) (fun E ce q9 u9 t H1 locs1 ht hvm hp9 hB hz hk hS1 hce hcv hcl => ?_) (fun r u t H1 locs1 ht hvm hp9 _ _ _ _ => hp9.elim)
  obtain rfl : E = "java/lang/IllegalArgumentException" := hB
  have htb := vx_table (x := yL_setBlend) B (hts _ mW_L_setBlend)
  refine vx_catch (own := RL) (name := "java/lang/IllegalArgumentException") (pc := 11) (rest := [.int 0, .ref ou]) hown [⟨0, 16, 19, 21⟩] ⟨0, 16, 23, 13⟩ [] (by rw [htb]; rfl) (fun z hz9 => by
    simp only [List.mem_cons, List.not_mem_nil, or_false] at hz9
    rcases hz9 with rfl
    · exact Or.inr ⟨by decide, _, hts _ mK_L_21, gkN hG 1 rfl⟩) rfl (by decide) (hts _ mK_L_13) (va_Nw.use rfl (gkC hG 2 rfl)) hce hcv hcl ?_
  refine lv_astore (lv' := [(7, .ref q9), (0, .ref xo), (1, .int (nI s0)), (2, .int p1), (3, .int q1), (4, .int ad), (5, .int hd), (6, .ref ou)]) hx hb dL_setBlend_23 hl (by decide) rfl (fun ls hl => ?_)
  refine lv_iconst (v := 2) hx hb dL_setBlend_25 (by decide) ?_
  exact W.iret (v := 2) hx hb hr (fun t ht _ => ⟨⟨_, (), rfl, rfl, trivial⟩, hS1.F ht⟩) hS1.2.2 dL_setBlend_26 hlk
set_option maxHeartbeats 400000 in
set_option maxRecDepth 100000 in
theorem l_setBlend (l : Launch) (D : va_G) {xo lc lt bo yo no : Nat} {et nS : Nat} {m2 : Int32} {s0 co : Nat} {sl : Nat → Nat} {pt : Nat → Int32} {p1 q1 ad hd : Int32} {ou : Nat} {wf : Nat → Int64} (hz0 : Nat) (hnS : nS ≤ 10) (hs0 : s0 < nS) (h : (0 ≤ p1 ∧ p1 ≤ 9) ∧ (0 ≤ q1 ∧ q1 ≤ 100)) (had : ad = 0 ∨ ad = 1) (hhd : hd = 0 ∨ hd = 1) : Met l yL_setBlend (wsW_ yL_setBlend cL_setBlend 8 (some .int) [(0, 16, 19, 21), (0, 16, 23, 13)]) ({ frames := 7, cells := 0, slots := 0, locals := 129 } : Room) (va_Pc [.ref xo, .int (nI s0), .int p1, .int q1, .int ad, .int hd, .ref ou] (SW D [oO xo 5 [.ref lc, .ref lt, .ref bo, .ref yo, .ref no], oO lt 7 [.int m2, .ref et, .int (nI nS)], aO D et 10 (lsF sl nS), oO (sl s0) 3 [.ref co, .int (pt 0), .int (pt 1), .int (pt 3), .int (pt 4), .int (pt 5), .int (pt 6), .int (pt 7), .int (pt 8), .int (pt 9), .int (pt 10), .int (pt 11), .int (pt 12)], aL D ou 1 wf] hz0)) (va_Qi (fun r _ => r = 0) (AT D (va_A [oO xo 5 [.ref lc, .ref lt, .ref bo, .ref yo, .ref no], oO lt 7 [.int m2, .ref et, .int (nI nS)], aO D et 10 (lsF sl nS), oO (sl s0) 3 [.ref co, .int (pt 0), .int (pt 1), .int (pt 3), .int (pt 4), .int (pt 5), .int (pt 6), .int (pt 7), .int (pt 8), .int (pt 9), .int (pt 10), .int (pt 11), .int (pt 12)], aL D ou 1 wf] hz0) (fun _ : Unit => [oO xo 5 [.ref lc, .ref lt, .ref bo, .ref yo, .ref no], oO lt 7 [.int m2, .ref et, .int (nI nS)], aO D et 10 (lsF sl nS), oO (sl s0) 3 [.ref co, .int ((upd (upd (upd (upd pt 7 p1) 8 q1) 9 ad) 10 hd) 0), .int ((upd (upd (upd (upd pt 7 p1) 8 q1) 9 ad) 10 hd) 1), .int ((upd (upd (upd (upd pt 7 p1) 8 q1) 9 ad) 10 hd) 3), .int ((upd (upd (upd (upd pt 7 p1) 8 q1) 9 ad) 10 hd) 4), .int ((upd (upd (upd (upd pt 7 p1) 8 q1) 9 ad) 10 hd) 5), .int ((upd (upd (upd (upd pt 7 p1) 8 q1) 9 ad) 10 hd) 6), .int ((upd (upd (upd (upd pt 7 p1) 8 q1) 9 ad) 10 hd) 7), .int ((upd (upd (upd (upd pt 7 p1) 8 q1) 9 ad) 10 hd) 8), .int ((upd (upd (upd (upd pt 7 p1) 8 q1) 9 ad) 10 hd) 9), .int ((upd (upd (upd (upd pt 7 p1) 8 q1) 9 ad) 10 hd) 10), .int ((upd (upd (upd (upd pt 7 p1) 8 q1) 9 ad) 10 hd) 11), .int ((upd (upd (upd (upd pt 7 p1) 8 q1) 9 ad) 10 hd) 12)], aL D ou 1 (vp_updL wf 0 (pt 7).toInt64)])) (va_A [oO xo 5 [.ref lc, .ref lt, .ref bo, .ref yo, .ref no], oO lt 7 [.int m2, .ref et, .int (nI nS)], aO D et 10 (lsF sl nS), oO (sl s0) 3 [.ref co, .int (pt 0), .int (pt 1), .int (pt 3), .int (pt 4), .int (pt 5), .int (pt 6), .int (pt 7), .int (pt 8), .int (pt 9), .int (pt 10), .int (pt 11), .int (pt 12)], aL D ou 1 wf] hz0)) 0 0 (va_A [oO xo 5 [.ref lc, .ref lt, .ref bo, .ref yo, .ref no], oO lt 7 [.int m2, .ref et, .int (nI nS)], aO D et 10 (lsF sl nS), oO (sl s0) 3 [.ref co, .int (pt 0), .int (pt 1), .int (pt 3), .int (pt 4), .int (pt 5), .int (pt 6), .int (pt 7), .int (pt 8), .int (pt 9), .int (pt 10), .int (pt 11), .int (pt 12)], aL D ou 1 wf] hz0) := by
  refine va_MetW (hh := [(0, 16, 19, 21), (0, 16, 23, 13)]) (cc := cL_setBlend) (maxL := 8) (ret := (some .int)) (by decide +kernel) rfl ?_
  intro p e s m args below meth c s₁ B hml hv
  obtain ⟨rfl, hsz, hG, hP, hD0⟩ := hv
  have hx := B.exec
  have hb := B.bytes
  have hr := B.returns
  have hts : ∀ w ∈ wsL_law, w.before _ s = true := fun w h => atoms_spec (ws := (wsW_ yL_setBlend cL_setBlend 8 (some .int) [(0, 16, 19, 21), (0, 16, 23, 13)])) B.pre w (List.mem_cons_of_mem _ (wsL2_in w h))
  have hown : s.vm.findClass RL = some m.cls := findClass_of_methodNamed B.named
  have hlk := B.notSynchronized
  have hC : CallFix p m c cL_setBlend 8 s _ wsL_law RL := ⟨hx, hb, hml, hown, hts⟩
  subst hsz
  have hD := hD0.self (sz := s.heap.size)
  generalize hAe : va_A [oO xo 5 [.ref lc, .ref lt, .ref bo, .ref yo, .ref no], oO lt 7 [.int m2, .ref et, .int (nI nS)], aO D et 10 (lsF sl nS), oO (sl s0) 3 [.ref co, .int (pt 0), .int (pt 1), .int (pt 3), .int (pt 4), .int (pt 5), .int (pt 6), .int (pt 7), .int (pt 8), .int (pt 9), .int (pt 10), .int (pt 11), .int (pt 12)], aL D ou 1 wf] s.heap.size = A at hD ⊢
  have hA : ∀ q : Nat, s.heap.size ≤ q → A q := fun q h => by rw [← hAe]; exact Or.inr h
  have hS : va_S A s.heap s.heap [] := va_S.rf
  obtain ⟨H, hHe⟩ : ∃ H, H = s.heap := ⟨_, rfl⟩
  rw [← hHe] at hP
  have hS : va_S A s.heap H [] := by rw [hHe]; exact hS
  have hl := lv_entry ([.ref xo, .int (nI s0), .int p1, .int q1, .int ad, .int hd, .ref ou]) (n := 8) (Nat.le_of_ble_eq_true rfl)
  rw [lg_entry_eq]
  generalize (lg_sl ([.ref xo, .int (nI s0), .int p1, .int q1, .int ad, .int hd, .ref ou]) ++ List.replicate (8 - (lg_sl ([.ref xo, .int (nI s0), .int p1, .int q1, .int ad, .int hd, .ref ou])).length) Slot.unset).toArray = ls at hl ⊢
  have hl : lv_has ls 8 [(0, .ref xo), (1, .int (nI s0)), (2, .int p1), (3, .int q1), (4, .int ad), (5, .int hd), (6, .ref ou)] := hl
  rw [← hHe]
  refine lv_aload hx hb dL_setBlend_0 (lv_at hl 6 rfl) ?_
  refine lv_iconst (v := 0) hx hb dL_setBlend_2 (by decide) ?_
  refine lv_aload_n hx hb dL_setBlend_3 rfl (lv_at hl 0 rfl) ?_
  refine lv_iload_n hx hb dL_setBlend_4 rfl (lv_at hl 1 rfl) ?_
  refine lv_iload_n hx hb dL_setBlend_5 rfl (lv_at hl 2 rfl) ?_
  refine lv_iload_n hx hb dL_setBlend_6 rfl (lv_at hl 3 rfl) ?_
  refine lv_iload hx hb dL_setBlend_7 (lv_at hl 4 rfl) ?_
  refine lv_iload hx hb dL_setBlend_9 (lv_at hl 5 rfl) ?_
  have hP9 := hP.sub (ws' := [oO xo 5 [.ref lc, .ref lt, .ref bo, .ref yo, .ref no], oO lt 7 [.int m2, .ref et, .int (nI nS)], aO D et 10 (lsF sl nS), oO (sl s0) 3 [.ref co, .int (pt 0), .int (pt 1), .int (pt 3), .int (pt 4), .int (pt 5), .int (pt 6), .int (pt 7), .int (pt 8), .int (pt 9), .int (pt 10), .int (pt 11), .int (pt 12)]]) [0, 1, 2, 3] rfl
  have hD9 := (hD.sub (ws' := [oO xo 5 [.ref lc, .ref lt, .ref bo, .ref yo, .ref no], oO lt 7 [.int m2, .ref et, .int (nI nS)], aO D et 10 (lsF sl nS), oO (sl s0) 3 [.ref co, .int (pt 0), .int (pt 1), .int (pt 3), .int (pt 4), .int (pt 5), .int (pt 6), .int (pt 7), .int (pt 8), .int (pt 9), .int (pt 10), .int (pt 11), .int (pt 12)]]) [0, 1, 2, 3] (by decide) rfl).weaken (B := fun _ => True) (fun _ _ _ _ => trivial)
  refine ki (wr := [aL D ou 1 wf]) (rV (rest := [.int 0, .ref ou]) (qc := (RX5, TX5, 5)) [.int (nI s0), .int p1, .int q1, .int ad, .int hd] 5 0 0 hC (c_setBlend l D (xo := xo) (lc := lc) (lt := lt) (bo := bo) (yo := yo) (no := no) (et := et) (nS := nS) (m2 := m2) (s0 := s0) (co := co) (sl := sl) (pt := pt) (p1 := p1) (q1 := q1) (ad := ad) (hd := hd) (hz0 := H.size) (hnS) (hs0) (h) (had) (hhd)) rfl (hP 0 _ rfl) (gV mM_L_68 mI_X5_setBlend mS_X5_setBlend mN_X5 mC_X5_setBlend) (by decide +kernel) rfl rfl ⟨Nat.le_of_ble_eq_true rfl, Nat.le_of_ble_eq_true rfl⟩ hG hP9 hD9 rfl hl.1 rfl (Nat.le_of_ble_eq_true rfl) dL_setBlend_11 ⟨Nat.le_of_ble_eq_true rfl, Nat.le_of_ble_eq_true rfl⟩) hP hD hS hA [0, 1, 2, 3] [4] rfl rfl (by decide) (by decide) (fun r11 u11 H locs h11 hP hD hS hz hfr => ?_)
  have hP : va_P D cls [aL D ou 1 wf, oO xo 5 [.ref lc, .ref lt, .ref bo, .ref yo, .ref no], oO lt 7 [.int m2, .ref et, .int (nI nS)], aO D et 10 (lsF sl nS), oO (sl s0) 3 [.ref co, .int ((upd (upd (upd (upd pt 7 p1) 8 q1) 9 ad) 10 hd) 0), .int ((upd (upd (upd (upd pt 7 p1) 8 q1) 9 ad) 10 hd) 1), .int ((upd (upd (upd (upd pt 7 p1) 8 q1) 9 ad) 10 hd) 3), .int ((upd (upd (upd (upd pt 7 p1) 8 q1) 9 ad) 10 hd) 4), .int ((upd (upd (upd (upd pt 7 p1) 8 q1) 9 ad) 10 hd) 5), .int ((upd (upd (upd (upd pt 7 p1) 8 q1) 9 ad) 10 hd) 6), .int ((upd (upd (upd (upd pt 7 p1) 8 q1) 9 ad) 10 hd) 7), .int ((upd (upd (upd (upd pt 7 p1) 8 q1) 9 ad) 10 hd) 8), .int ((upd (upd (upd (upd pt 7 p1) 8 q1) 9 ad) 10 hd) 9), .int ((upd (upd (upd (upd pt 7 p1) 8 q1) 9 ad) 10 hd) 10), .int ((upd (upd (upd (upd pt 7 p1) 8 q1) 9 ad) 10 hd) 11), .int ((upd (upd (upd (upd pt 7 p1) 8 q1) 9 ad) 10 hd) 12)]] H := hP
  have hD : va_D A [aL D ou 1 wf, oO xo 5 [.ref lc, .ref lt, .ref bo, .ref yo, .ref no], oO lt 7 [.int m2, .ref et, .int (nI nS)], aO D et 10 (lsF sl nS), oO (sl s0) 3 [.ref co, .int ((upd (upd (upd (upd pt 7 p1) 8 q1) 9 ad) 10 hd) 0), .int ((upd (upd (upd (upd pt 7 p1) 8 q1) 9 ad) 10 hd) 1), .int ((upd (upd (upd (upd pt 7 p1) 8 q1) 9 ad) 10 hd) 3), .int ((upd (upd (upd (upd pt 7 p1) 8 q1) 9 ad) 10 hd) 4), .int ((upd (upd (upd (upd pt 7 p1) 8 q1) 9 ad) 10 hd) 5), .int ((upd (upd (upd (upd pt 7 p1) 8 q1) 9 ad) 10 hd) 6), .int ((upd (upd (upd (upd pt 7 p1) 8 q1) 9 ad) 10 hd) 7), .int ((upd (upd (upd (upd pt 7 p1) 8 q1) 9 ad) 10 hd) 8), .int ((upd (upd (upd (upd pt 7 p1) 8 q1) 9 ad) 10 hd) 9), .int ((upd (upd (upd (upd pt 7 p1) 8 q1) 9 ad) 10 hd) 10), .int ((upd (upd (upd (upd pt 7 p1) 8 q1) 9 ad) 10 hd) 11), .int ((upd (upd (upd (upd pt 7 p1) 8 q1) 9 ad) 10 hd) 12)]] := hD
  obtain rfl : r11 = (pt 7) := h11
  refine lv_i2l hx hb dL_setBlend_14 rfl ?_
  refine lst (n := 1) (j := 0) hx hb hG hP hD hS 0 rfl (by omega) (by omega) dL_setBlend_15 (fun H locs hP hD hS => ?_)
  have hP : va_P D cls [aL D ou 1 (vp_updL wf 0 ((pt 7).toInt64)), oO xo 5 [.ref lc, .ref lt, .ref bo, .ref yo, .ref no], oO lt 7 [.int m2, .ref et, .int (nI nS)], aO D et 10 (lsF sl nS), oO (sl s0) 3 [.ref co, .int ((upd (upd (upd (upd pt 7 p1) 8 q1) 9 ad) 10 hd) 0), .int ((upd (upd (upd (upd pt 7 p1) 8 q1) 9 ad) 10 hd) 1), .int ((upd (upd (upd (upd pt 7 p1) 8 q1) 9 ad) 10 hd) 3), .int ((upd (upd (upd (upd pt 7 p1) 8 q1) 9 ad) 10 hd) 4), .int ((upd (upd (upd (upd pt 7 p1) 8 q1) 9 ad) 10 hd) 5), .int ((upd (upd (upd (upd pt 7 p1) 8 q1) 9 ad) 10 hd) 6), .int ((upd (upd (upd (upd pt 7 p1) 8 q1) 9 ad) 10 hd) 7), .int ((upd (upd (upd (upd pt 7 p1) 8 q1) 9 ad) 10 hd) 8), .int ((upd (upd (upd (upd pt 7 p1) 8 q1) 9 ad) 10 hd) 9), .int ((upd (upd (upd (upd pt 7 p1) 8 q1) 9 ad) 10 hd) 10), .int ((upd (upd (upd (upd pt 7 p1) 8 q1) 9 ad) 10 hd) 11), .int ((upd (upd (upd (upd pt 7 p1) 8 q1) 9 ad) 10 hd) 12)]] H := hP
  have hD : va_D A [aL D ou 1 (vp_updL wf 0 ((pt 7).toInt64)), oO xo 5 [.ref lc, .ref lt, .ref bo, .ref yo, .ref no], oO lt 7 [.int m2, .ref et, .int (nI nS)], aO D et 10 (lsF sl nS), oO (sl s0) 3 [.ref co, .int ((upd (upd (upd (upd pt 7 p1) 8 q1) 9 ad) 10 hd) 0), .int ((upd (upd (upd (upd pt 7 p1) 8 q1) 9 ad) 10 hd) 1), .int ((upd (upd (upd (upd pt 7 p1) 8 q1) 9 ad) 10 hd) 3), .int ((upd (upd (upd (upd pt 7 p1) 8 q1) 9 ad) 10 hd) 4), .int ((upd (upd (upd (upd pt 7 p1) 8 q1) 9 ad) 10 hd) 5), .int ((upd (upd (upd (upd pt 7 p1) 8 q1) 9 ad) 10 hd) 6), .int ((upd (upd (upd (upd pt 7 p1) 8 q1) 9 ad) 10 hd) 7), .int ((upd (upd (upd (upd pt 7 p1) 8 q1) 9 ad) 10 hd) 8), .int ((upd (upd (upd (upd pt 7 p1) 8 q1) 9 ad) 10 hd) 9), .int ((upd (upd (upd (upd pt 7 p1) 8 q1) 9 ad) 10 hd) 10), .int ((upd (upd (upd (upd pt 7 p1) 8 q1) 9 ad) 10 hd) 11), .int ((upd (upd (upd (upd pt 7 p1) 8 q1) 9 ad) 10 hd) 12)]] := hD
  refine lv_goto (tgt := 27) hx hb dL_setBlend_16 (by decide) ?_
  refine lv_iconst (v := 0) hx hb dL_setBlend_27 (by decide) ?_
  refine Wi () hx hb hr hlk ?_ (hP.sub [1, 2, 3, 4, 0] rfl) (hD.sub [1, 2, 3, 4, 0] (by decide) rfl) hS (Nat.le_of_ble_eq_true rfl) (by first | exact Nat.le_of_ble_eq_true rfl | exact Nat.le_of_eq (Nat.zero_add _)) dL_setBlend_28
  exact rfl
set_option maxHeartbeats 400000 in
set_option maxRecDepth 100000 in
theorem h_setFade_1 (l : Launch) (D : va_G) (hns : l.stackTraces = false) {xo lc lt bo yo no : Nat} {et nS : Nat} {m2 : Int32} {x p1 q1 : Int32} {ou : Nat} (hz0 : Nat) (hnS : nS ≤ 10) (hxx : x < 0 ∨ nI nS ≤ x) : Met l yL_setFade (wsW_ yL_setFade cL_setFade 6 (some .int) [(0, 12, 15, 21), (0, 12, 19, 13)]) ({ frames := 7, cells := 1, slots := 6, locals := 127 } : Room) (va_Pc [.ref xo, .int x, .int p1, .int q1, .ref ou] (TW D [oO xo 5 [.ref lc, .ref lt, .ref bo, .ref yo, .ref no], oO lt 7 [.int m2, .ref et, .int (nI nS)]] hz0)) (va_Qi (fun r (_ : Unit) => r = 1) (fun _ _ => True) (va_A [] hz0)) 1 6 (va_A [] hz0) := by
  refine va_MetW (hh := [(0, 12, 15, 21), (0, 12, 19, 13)]) (cc := cL_setFade) (maxL := 6) (ret := (some .int)) (by decide +kernel) rfl ?_
  intro p e s m args below meth c s₁ B hml hv
  obtain ⟨rfl, hsz, hG, hP, hZ⟩ := hv
  subst hsz
  have hx := B.exec
  have hb := B.bytes
  have hr := B.returns
  have hts : ∀ w ∈ wsL_law, w.before _ s = true := fun w h => atoms_spec (ws := (wsW_ yL_setFade cL_setFade 6 (some .int) [(0, 12, 15, 21), (0, 12, 19, 13)])) B.pre w (List.mem_cons_of_mem _ (wsL2_in w h))
  have hk15 : (Cond.classLink RL 15 "java/lang/IllegalStateException").before _ s = true := atoms_spec (ws := (wsW_ yL_setFade cL_setFade 6 (some .int) [(0, 12, 15, 21), (0, 12, 19, 13)])) B.pre _ (List.mem_cons_of_mem _ List.mem_cons_self)
  have hown : s.vm.findClass RL = some m.cls := findClass_of_methodNamed B.named
  have hlk := B.notSynchronized
  have hC : CallFix p m c cL_setFade 6 s _ wsL_law RL := ⟨hx, hb, hml, hown, hts⟩
  have hS : va_S (va_A [] s.heap.size) s.heap s.heap [] := va_S.rf
  have hl := lv_entry ([.ref xo, .int x, .int p1, .int q1, .ref ou]) (n := 6) (Nat.le_of_ble_eq_true rfl)
  rw [lg_entry_eq]
  generalize (lg_sl ([.ref xo, .int x, .int p1, .int q1, .ref ou]) ++ List.replicate (6 - (lg_sl ([.ref xo, .int x, .int p1, .int q1, .ref ou])).length) Slot.unset).toArray = ls at hl ⊢
  have hl : lv_has ls 6 [(0, .ref xo), (1, .int x), (2, .int p1), (3, .int q1), (4, .ref ou)] := hl
  refine lv_aload hx hb dL_setFade_0 (lv_at hl 4 rfl) ?_
  refine lv_iconst (v := 0) hx hb dL_setFade_2 (by decide) ?_
  refine lv_aload_n hx hb dL_setFade_3 rfl (lv_at hl 0 rfl) ?_
  refine lv_iload_n hx hb dL_setFade_4 rfl (lv_at hl 1 rfl) ?_
  refine lv_iload_n hx hb dL_setFade_5 rfl (lv_at hl 2 rfl) ?_
  refine lv_iload_n hx hb dL_setFade_6 rfl (lv_at hl 3 rfl) ?_
  have hP9 := hP.sub (ws' := [oO xo 5 [.ref lc, .ref lt, .ref bo, .ref yo, .ref no], oO lt 7 [.int m2, .ref et, .int (nI nS)]]) [0, 1] rfl
  refine vx_calli (A0 := va_A [] s.heap.size) (rX (rest := [.int 0, .ref ou]) (qc := (RX5, TX5, 5)) [.int x, .int p1, .int q1] 3 hC (t_setFade_1 l D hns (xo := xo) (lc := lc) (lt := lt) (bo := bo) (yo := yo) (no := no) (et := et) (nS := nS) (m2 := m2) (x := x) (p1 := p1) (q1 := q1) (hz0 := s.heap.size) (hnS) (hxx)) rfl (hP 0 _ rfl) (gV mM_L_72 mI_X5_setFade mS_X5_setFade mN_X5 mC_X5_setFade) (by decide +kernel) rfl rfl ⟨Nat.le_of_ble_eq_true rfl, Nat.le_of_ble_eq_true rfl⟩ hG hP9 hZ rfl hl.1 rfl (Nat.le_of_ble_eq_true rfl) dL_setFade_7 ⟨Nat.le_of_ble_eq_true rfl, Nat.le_of_ble_eq_true rfl⟩) hS (fun q _ h => h) (fun q h => h) (fun q _ h => h) (fun E ce q9 u9 t H1 locs1 ht hvm hp9 hB hz hk hS1 hce hcv hcl => ?_) (fun r u t H1 locs1 ht hvm hp9 _ _ _ _ => hp9.elim)
  obtain rfl : E = "java/lang/IndexOutOfBoundsException" := hB
  have htb := vx_table (x := yL_setFade) B (hts _ mW_L_setFade)
  refine vx_catch (own := RL) (name := "java/lang/IndexOutOfBoundsException") (pc := 7) (rest := [.int 0, .ref ou]) hown [] ⟨0, 12, 15, 21⟩ [⟨0, 12, 19, 13⟩] (by rw [htb]; rfl) (fun z hz9 => absurd hz9 List.not_mem_nil) rfl (by decide) (hts _ mK_L_21) (va_Nw.use rfl (gkC hG 4 rfl)) hce hcv hcl ?_
  refine lv_astore (lv' := [(5, .ref q9), (0, .ref xo), (1, .int x), (2, .int p1), (3, .int q1), (4, .ref ou)]) hx hb dL_setFade_15 hl (by decide) rfl (fun ls hl => ?_)
  refine lv_iconst (v := 1) hx hb dL_setFade_17 (by decide) ?_
  exact W.iret (v := 1) hx hb hr (fun t ht _ => ⟨⟨_, (), rfl, rfl, trivial⟩, hS1.F ht⟩) hS1.2.2 dL_setFade_18 hlk
set_option maxHeartbeats 400000 in
set_option maxRecDepth 100000 in
theorem h_setFade_2 (l : Launch) (D : va_G) (hns : l.stackTraces = false) {xo lc lt bo yo no : Nat} {et nS : Nat} {m2 : Int32} {s0 co : Nat} {sl : Nat → Nat} {pt : Nat → Int32} {p1 q1 : Int32} {ou : Nat} (hz0 : Nat) (hnS : nS ≤ 10) (hs0 : s0 < nS) (h : ¬ ((0 ≤ p1 ∧ p1 ≤ 2000) ∧ (0 ≤ q1 ∧ q1 ≤ 2000))) : Met l yL_setFade (wsW_ yL_setFade cL_setFade 6 (some .int) [(0, 12, 15, 21), (0, 12, 19, 13)]) ({ frames := 7, cells := 1, slots := 6, locals := 127 } : Room) (va_Pc [.ref xo, .int (nI s0), .int p1, .int q1, .ref ou] (TW D [oO xo 5 [.ref lc, .ref lt, .ref bo, .ref yo, .ref no], oO lt 7 [.int m2, .ref et, .int (nI nS)], aO D et 10 (lsF sl nS), oO (sl s0) 3 [.ref co, .int (pt 0), .int (pt 1), .int (pt 3), .int (pt 4), .int (pt 5), .int (pt 6), .int (pt 7), .int (pt 8), .int (pt 9), .int (pt 10), .int (pt 11), .int (pt 12)]] hz0)) (va_Qi (fun r (_ : Unit) => r = 2) (fun _ _ => True) (va_A [] hz0)) 1 6 (va_A [] hz0) := by
  refine va_MetW (hh := [(0, 12, 15, 21), (0, 12, 19, 13)]) (cc := cL_setFade) (maxL := 6) (ret := (some .int)) (by decide +kernel) rfl ?_
  intro p e s m args below meth c s₁ B hml hv
  obtain ⟨rfl, hsz, hG, hP, hZ⟩ := hv
  subst hsz
  have hx := B.exec
  have hb := B.bytes
  have hr := B.returns
  have hts : ∀ w ∈ wsL_law, w.before _ s = true := fun w h => atoms_spec (ws := (wsW_ yL_setFade cL_setFade 6 (some .int) [(0, 12, 15, 21), (0, 12, 19, 13)])) B.pre w (List.mem_cons_of_mem _ (wsL2_in w h))
  have hk15 : (Cond.classLink RL 15 "java/lang/IllegalStateException").before _ s = true := atoms_spec (ws := (wsW_ yL_setFade cL_setFade 6 (some .int) [(0, 12, 15, 21), (0, 12, 19, 13)])) B.pre _ (List.mem_cons_of_mem _ List.mem_cons_self)
  have hown : s.vm.findClass RL = some m.cls := findClass_of_methodNamed B.named
  have hlk := B.notSynchronized
  have hC : CallFix p m c cL_setFade 6 s _ wsL_law RL := ⟨hx, hb, hml, hown, hts⟩
  have hS : va_S (va_A [] s.heap.size) s.heap s.heap [] := va_S.rf
  have hl := lv_entry ([.ref xo, .int (nI s0), .int p1, .int q1, .ref ou]) (n := 6) (Nat.le_of_ble_eq_true rfl)
  rw [lg_entry_eq]
  generalize (lg_sl ([.ref xo, .int (nI s0), .int p1, .int q1, .ref ou]) ++ List.replicate (6 - (lg_sl ([.ref xo, .int (nI s0), .int p1, .int q1, .ref ou])).length) Slot.unset).toArray = ls at hl ⊢
  have hl : lv_has ls 6 [(0, .ref xo), (1, .int (nI s0)), (2, .int p1), (3, .int q1), (4, .ref ou)] := hl
  refine lv_aload hx hb dL_setFade_0 (lv_at hl 4 rfl) ?_
  refine lv_iconst (v := 0) hx hb dL_setFade_2 (by decide) ?_
  refine lv_aload_n hx hb dL_setFade_3 rfl (lv_at hl 0 rfl) ?_
  refine lv_iload_n hx hb dL_setFade_4 rfl (lv_at hl 1 rfl) ?_
  refine lv_iload_n hx hb dL_setFade_5 rfl (lv_at hl 2 rfl) ?_
  refine lv_iload_n hx hb dL_setFade_6 rfl (lv_at hl 3 rfl) ?_
  have hP9 := hP.sub (ws' := [oO xo 5 [.ref lc, .ref lt, .ref bo, .ref yo, .ref no], oO lt 7 [.int m2, .ref et, .int (nI nS)], aO D et 10 (lsF sl nS), oO (sl s0) 3 [.ref co, .int (pt 0), .int (pt 1), .int (pt 3), .int (pt 4), .int (pt 5), .int (pt 6), .int (pt 7), .int (pt 8), .int (pt 9), .int (pt 10), .int (pt 11), .int (pt 12)]]) [0, 1, 2, 3] rfl
  refine vx_calli (A0 := va_A [] s.heap.size) (rX (rest := [.int 0, .ref ou]) (qc := (RX5, TX5, 5)) [.int (nI s0), .int p1, .int q1] 3 hC (t_setFade_2 l D hns (xo := xo) (lc := lc) (lt := lt) (bo := bo) (yo := yo) (no := no) (et := et) (nS := nS) (m2 := m2) (s0 := s0) (co := co) (sl := sl) (pt := pt) (p1 := p1) (q1 := q1) (hz0 := s.heap.size) (hnS) (hs0) (h)) rfl (hP 0 _ rfl) (gV mM_L_72 mI_X5_setFade mS_X5_setFade mN_X5 mC_X5_setFade) (by decide +kernel) rfl rfl ⟨Nat.le_of_ble_eq_true rfl, Nat.le_of_ble_eq_true rfl⟩ hG hP9 hZ rfl hl.1 rfl (Nat.le_of_ble_eq_true rfl) dL_setFade_7 ⟨Nat.le_of_ble_eq_true rfl, Nat.le_of_ble_eq_true rfl⟩) hS (fun q _ h => h) (fun q h => h) (fun q _ h => h) (fun E ce q9 u9 t H1 locs1 ht hvm hp9 hB hz hk hS1 hce hcv hcl => ?_) (fun r u t H1 locs1 ht hvm hp9 _ _ _ _ => hp9.elim)
  obtain rfl : E = "java/lang/IllegalArgumentException" := hB
  have htb := vx_table (x := yL_setFade) B (hts _ mW_L_setFade)
  refine vx_catch (own := RL) (name := "java/lang/IllegalArgumentException") (pc := 7) (rest := [.int 0, .ref ou]) hown [⟨0, 12, 15, 21⟩] ⟨0, 12, 19, 13⟩ [] (by rw [htb]; rfl) (fun z hz9 => by
    simp only [List.mem_cons, List.not_mem_nil, or_false] at hz9
    rcases hz9 with rfl
    · exact Or.inr ⟨by decide, _, hts _ mK_L_21, gkN hG 1 rfl⟩) rfl (by decide) (hts _ mK_L_13) (va_Nw.use rfl (gkC hG 2 rfl)) hce hcv hcl ?_
  refine lv_astore (lv' := [(5, .ref q9), (0, .ref xo), (1, .int (nI s0)), (2, .int p1), (3, .int q1), (4, .ref ou)]) hx hb dL_setFade_19 hl (by decide) rfl (fun ls hl => ?_)
  refine lv_iconst (v := 2) hx hb dL_setFade_21 (by decide) ?_
  exact W.iret (v := 2) hx hb hr (fun t ht _ => ⟨⟨_, (), rfl, rfl, trivial⟩, hS1.F ht⟩) hS1.2.2 dL_setFade_22 hlk
set_option maxHeartbeats 400000 in
set_option maxRecDepth 100000 in
theorem l_setFade (l : Launch) (D : va_G) {xo lc lt bo yo no : Nat} {et nS : Nat} {m2 : Int32} {s0 co : Nat} {sl : Nat → Nat} {pt : Nat → Int32} {p1 q1 : Int32} {ou : Nat} {wf : Nat → Int64} (hz0 : Nat) (hnS : nS ≤ 10) (hs0 : s0 < nS) (h : (0 ≤ p1 ∧ p1 ≤ 2000) ∧ (0 ≤ q1 ∧ q1 ≤ 2000)) : Met l yL_setFade (wsW_ yL_setFade cL_setFade 6 (some .int) [(0, 12, 15, 21), (0, 12, 19, 13)]) ({ frames := 7, cells := 0, slots := 0, locals := 127 } : Room) (va_Pc [.ref xo, .int (nI s0), .int p1, .int q1, .ref ou] (SW D [oO xo 5 [.ref lc, .ref lt, .ref bo, .ref yo, .ref no], oO lt 7 [.int m2, .ref et, .int (nI nS)], aO D et 10 (lsF sl nS), oO (sl s0) 3 [.ref co, .int (pt 0), .int (pt 1), .int (pt 3), .int (pt 4), .int (pt 5), .int (pt 6), .int (pt 7), .int (pt 8), .int (pt 9), .int (pt 10), .int (pt 11), .int (pt 12)], aL D ou 1 wf] hz0)) (va_Qi (fun r _ => r = 0) (AT D (va_A [oO xo 5 [.ref lc, .ref lt, .ref bo, .ref yo, .ref no], oO lt 7 [.int m2, .ref et, .int (nI nS)], aO D et 10 (lsF sl nS), oO (sl s0) 3 [.ref co, .int (pt 0), .int (pt 1), .int (pt 3), .int (pt 4), .int (pt 5), .int (pt 6), .int (pt 7), .int (pt 8), .int (pt 9), .int (pt 10), .int (pt 11), .int (pt 12)], aL D ou 1 wf] hz0) (fun _ : Unit => [oO xo 5 [.ref lc, .ref lt, .ref bo, .ref yo, .ref no], oO lt 7 [.int m2, .ref et, .int (nI nS)], aO D et 10 (lsF sl nS), oO (sl s0) 3 [.ref co, .int ((upd (upd pt 11 p1) 12 q1) 0), .int ((upd (upd pt 11 p1) 12 q1) 1), .int ((upd (upd pt 11 p1) 12 q1) 3), .int ((upd (upd pt 11 p1) 12 q1) 4), .int ((upd (upd pt 11 p1) 12 q1) 5), .int ((upd (upd pt 11 p1) 12 q1) 6), .int ((upd (upd pt 11 p1) 12 q1) 7), .int ((upd (upd pt 11 p1) 12 q1) 8), .int ((upd (upd pt 11 p1) 12 q1) 9), .int ((upd (upd pt 11 p1) 12 q1) 10), .int ((upd (upd pt 11 p1) 12 q1) 11), .int ((upd (upd pt 11 p1) 12 q1) 12)], aL D ou 1 (vp_updL wf 0 (pt 11).toInt64)])) (va_A [oO xo 5 [.ref lc, .ref lt, .ref bo, .ref yo, .ref no], oO lt 7 [.int m2, .ref et, .int (nI nS)], aO D et 10 (lsF sl nS), oO (sl s0) 3 [.ref co, .int (pt 0), .int (pt 1), .int (pt 3), .int (pt 4), .int (pt 5), .int (pt 6), .int (pt 7), .int (pt 8), .int (pt 9), .int (pt 10), .int (pt 11), .int (pt 12)], aL D ou 1 wf] hz0)) 0 0 (va_A [oO xo 5 [.ref lc, .ref lt, .ref bo, .ref yo, .ref no], oO lt 7 [.int m2, .ref et, .int (nI nS)], aO D et 10 (lsF sl nS), oO (sl s0) 3 [.ref co, .int (pt 0), .int (pt 1), .int (pt 3), .int (pt 4), .int (pt 5), .int (pt 6), .int (pt 7), .int (pt 8), .int (pt 9), .int (pt 10), .int (pt 11), .int (pt 12)], aL D ou 1 wf] hz0) := by
  refine va_MetW (hh := [(0, 12, 15, 21), (0, 12, 19, 13)]) (cc := cL_setFade) (maxL := 6) (ret := (some .int)) (by decide +kernel) rfl ?_
  intro p e s m args below meth c s₁ B hml hv
  obtain ⟨rfl, hsz, hG, hP, hD0⟩ := hv
  have hx := B.exec
  have hb := B.bytes
  have hr := B.returns
  have hts : ∀ w ∈ wsL_law, w.before _ s = true := fun w h => atoms_spec (ws := (wsW_ yL_setFade cL_setFade 6 (some .int) [(0, 12, 15, 21), (0, 12, 19, 13)])) B.pre w (List.mem_cons_of_mem _ (wsL2_in w h))
  have hown : s.vm.findClass RL = some m.cls := findClass_of_methodNamed B.named
  have hlk := B.notSynchronized
  have hC : CallFix p m c cL_setFade 6 s _ wsL_law RL := ⟨hx, hb, hml, hown, hts⟩
  subst hsz
  have hD := hD0.self (sz := s.heap.size)
  generalize hAe : va_A [oO xo 5 [.ref lc, .ref lt, .ref bo, .ref yo, .ref no], oO lt 7 [.int m2, .ref et, .int (nI nS)], aO D et 10 (lsF sl nS), oO (sl s0) 3 [.ref co, .int (pt 0), .int (pt 1), .int (pt 3), .int (pt 4), .int (pt 5), .int (pt 6), .int (pt 7), .int (pt 8), .int (pt 9), .int (pt 10), .int (pt 11), .int (pt 12)], aL D ou 1 wf] s.heap.size = A at hD ⊢
  have hA : ∀ q : Nat, s.heap.size ≤ q → A q := fun q h => by rw [← hAe]; exact Or.inr h
  have hS : va_S A s.heap s.heap [] := va_S.rf
  obtain ⟨H, hHe⟩ : ∃ H, H = s.heap := ⟨_, rfl⟩
  rw [← hHe] at hP
  have hS : va_S A s.heap H [] := by rw [hHe]; exact hS
  have hl := lv_entry ([.ref xo, .int (nI s0), .int p1, .int q1, .ref ou]) (n := 6) (Nat.le_of_ble_eq_true rfl)
  rw [lg_entry_eq]
  generalize (lg_sl ([.ref xo, .int (nI s0), .int p1, .int q1, .ref ou]) ++ List.replicate (6 - (lg_sl ([.ref xo, .int (nI s0), .int p1, .int q1, .ref ou])).length) Slot.unset).toArray = ls at hl ⊢
  have hl : lv_has ls 6 [(0, .ref xo), (1, .int (nI s0)), (2, .int p1), (3, .int q1), (4, .ref ou)] := hl
  rw [← hHe]
  refine lv_aload hx hb dL_setFade_0 (lv_at hl 4 rfl) ?_
  refine lv_iconst (v := 0) hx hb dL_setFade_2 (by decide) ?_
  refine lv_aload_n hx hb dL_setFade_3 rfl (lv_at hl 0 rfl) ?_
  refine lv_iload_n hx hb dL_setFade_4 rfl (lv_at hl 1 rfl) ?_
  refine lv_iload_n hx hb dL_setFade_5 rfl (lv_at hl 2 rfl) ?_
  refine lv_iload_n hx hb dL_setFade_6 rfl (lv_at hl 3 rfl) ?_
  have hP9 := hP.sub (ws' := [oO xo 5 [.ref lc, .ref lt, .ref bo, .ref yo, .ref no], oO lt 7 [.int m2, .ref et, .int (nI nS)], aO D et 10 (lsF sl nS), oO (sl s0) 3 [.ref co, .int (pt 0), .int (pt 1), .int (pt 3), .int (pt 4), .int (pt 5), .int (pt 6), .int (pt 7), .int (pt 8), .int (pt 9), .int (pt 10), .int (pt 11), .int (pt 12)]]) [0, 1, 2, 3] rfl
  have hD9 := (hD.sub (ws' := [oO xo 5 [.ref lc, .ref lt, .ref bo, .ref yo, .ref no], oO lt 7 [.int m2, .ref et, .int (nI nS)], aO D et 10 (lsF sl nS), oO (sl s0) 3 [.ref co, .int (pt 0), .int (pt 1), .int (pt 3), .int (pt 4), .int (pt 5), .int (pt 6), .int (pt 7), .int (pt 8), .int (pt 9), .int (pt 10), .int (pt 11), .int (pt 12)]]) [0, 1, 2, 3] (by decide) rfl).weaken (B := fun _ => True) (fun _ _ _ _ => trivial)
  refine ki (wr := [aL D ou 1 wf]) (rV (rest := [.int 0, .ref ou]) (qc := (RX5, TX5, 5)) [.int (nI s0), .int p1, .int q1] 3 0 0 hC (c_setFade l D (xo := xo) (lc := lc) (lt := lt) (bo := bo) (yo := yo) (no := no) (et := et) (nS := nS) (m2 := m2) (s0 := s0) (co := co) (sl := sl) (pt := pt) (p1 := p1) (q1 := q1) (hz0 := H.size) (hnS) (hs0) (h)) rfl (hP 0 _ rfl) (gV mM_L_72 mI_X5_setFade mS_X5_setFade mN_X5 mC_X5_setFade) (by decide +kernel) rfl rfl ⟨Nat.le_of_ble_eq_true rfl, Nat.le_of_ble_eq_true rfl⟩ hG hP9 hD9 rfl hl.1 rfl (Nat.le_of_ble_eq_true rfl) dL_setFade_7 ⟨Nat.le_of_ble_eq_true rfl, Nat.le_of_ble_eq_true rfl⟩) hP hD hS hA [0, 1, 2, 3] [4] rfl rfl (by decide) (by decide) (fun r7 u7 H locs h7 hP hD hS hz hfr => ?_)
  have hP : va_P D cls [aL D ou 1 wf, oO xo 5 [.ref lc, .ref lt, .ref bo, .ref yo, .ref no], oO lt 7 [.int m2, .ref et, .int (nI nS)], aO D et 10 (lsF sl nS), oO (sl s0) 3 [.ref co, .int ((upd (upd pt 11 p1) 12 q1) 0), .int ((upd (upd pt 11 p1) 12 q1) 1), .int ((upd (upd pt 11 p1) 12 q1) 3), .int ((upd (upd pt 11 p1) 12 q1) 4), .int ((upd (upd pt 11 p1) 12 q1) 5), .int ((upd (upd pt 11 p1) 12 q1) 6), .int ((upd (upd pt 11 p1) 12 q1) 7), .int ((upd (upd pt 11 p1) 12 q1) 8), .int ((upd (upd pt 11 p1) 12 q1) 9), .int ((upd (upd pt 11 p1) 12 q1) 10), .int ((upd (upd pt 11 p1) 12 q1) 11), .int ((upd (upd pt 11 p1) 12 q1) 12)]] H := hP
  have hD : va_D A [aL D ou 1 wf, oO xo 5 [.ref lc, .ref lt, .ref bo, .ref yo, .ref no], oO lt 7 [.int m2, .ref et, .int (nI nS)], aO D et 10 (lsF sl nS), oO (sl s0) 3 [.ref co, .int ((upd (upd pt 11 p1) 12 q1) 0), .int ((upd (upd pt 11 p1) 12 q1) 1), .int ((upd (upd pt 11 p1) 12 q1) 3), .int ((upd (upd pt 11 p1) 12 q1) 4), .int ((upd (upd pt 11 p1) 12 q1) 5), .int ((upd (upd pt 11 p1) 12 q1) 6), .int ((upd (upd pt 11 p1) 12 q1) 7), .int ((upd (upd pt 11 p1) 12 q1) 8), .int ((upd (upd pt 11 p1) 12 q1) 9), .int ((upd (upd pt 11 p1) 12 q1) 10), .int ((upd (upd pt 11 p1) 12 q1) 11), .int ((upd (upd pt 11 p1) 12 q1) 12)]] := hD
  obtain rfl : r7 = (pt 11) := h7
  refine lv_i2l hx hb dL_setFade_10 rfl ?_
  refine lst (n := 1) (j := 0) hx hb hG hP hD hS 0 rfl (by omega) (by omega) dL_setFade_11 (fun H locs hP hD hS => ?_)
  have hP : va_P D cls [aL D ou 1 (vp_updL wf 0 ((pt 11).toInt64)), oO xo 5 [.ref lc, .ref lt, .ref bo, .ref yo, .ref no], oO lt 7 [.int m2, .ref et, .int (nI nS)], aO D et 10 (lsF sl nS), oO (sl s0) 3 [.ref co, .int ((upd (upd pt 11 p1) 12 q1) 0), .int ((upd (upd pt 11 p1) 12 q1) 1), .int ((upd (upd pt 11 p1) 12 q1) 3), .int ((upd (upd pt 11 p1) 12 q1) 4), .int ((upd (upd pt 11 p1) 12 q1) 5), .int ((upd (upd pt 11 p1) 12 q1) 6), .int ((upd (upd pt 11 p1) 12 q1) 7), .int ((upd (upd pt 11 p1) 12 q1) 8), .int ((upd (upd pt 11 p1) 12 q1) 9), .int ((upd (upd pt 11 p1) 12 q1) 10), .int ((upd (upd pt 11 p1) 12 q1) 11), .int ((upd (upd pt 11 p1) 12 q1) 12)]] H := hP
  have hD : va_D A [aL D ou 1 (vp_updL wf 0 ((pt 11).toInt64)), oO xo 5 [.ref lc, .ref lt, .ref bo, .ref yo, .ref no], oO lt 7 [.int m2, .ref et, .int (nI nS)], aO D et 10 (lsF sl nS), oO (sl s0) 3 [.ref co, .int ((upd (upd pt 11 p1) 12 q1) 0), .int ((upd (upd pt 11 p1) 12 q1) 1), .int ((upd (upd pt 11 p1) 12 q1) 3), .int ((upd (upd pt 11 p1) 12 q1) 4), .int ((upd (upd pt 11 p1) 12 q1) 5), .int ((upd (upd pt 11 p1) 12 q1) 6), .int ((upd (upd pt 11 p1) 12 q1) 7), .int ((upd (upd pt 11 p1) 12 q1) 8), .int ((upd (upd pt 11 p1) 12 q1) 9), .int ((upd (upd pt 11 p1) 12 q1) 10), .int ((upd (upd pt 11 p1) 12 q1) 11), .int ((upd (upd pt 11 p1) 12 q1) 12)]] := hD
  refine lv_goto (tgt := 23) hx hb dL_setFade_12 (by decide) ?_
  refine lv_iconst (v := 0) hx hb dL_setFade_23 (by decide) ?_
  refine Wi () hx hb hr hlk ?_ (hP.sub [1, 2, 3, 4, 0] rfl) (hD.sub [1, 2, 3, 4, 0] (by decide) rfl) hS (Nat.le_of_ble_eq_true rfl) (by first | exact Nat.le_of_ble_eq_true rfl | exact Nat.le_of_eq (Nat.zero_add _)) dL_setFade_24
  exact rfl
set_option maxHeartbeats 400000 in
set_option maxRecDepth 100000 in
theorem h_strip_1 (l : Launch) (D : va_G) (hns : l.stackTraces = false) {xo lc lt bo yo no : Nat} {et nS : Nat} {m2 : Int32} {x w : Int32} {ou : Nat} (hz0 : Nat) (hnS : nS ≤ 10) (hxx : x < 0 ∨ nI nS ≤ x) : Met l yL_strip (wsW_ yL_strip cL_strip 5 (some .int) [(0, 10, 13, 21)]) ({ frames := 7, cells := 1, slots := 6, locals := 125 } : Room) (va_Pc [.ref xo, .int x, .int w, .ref ou] (TW D [oO xo 5 [.ref lc, .ref lt, .ref bo, .ref yo, .ref no], oO lt 7 [.int m2, .ref et, .int (nI nS)]] hz0)) (va_Qi (fun r (_ : Unit) => r = 1) (fun _ _ => True) (va_A [] hz0)) 1 6 (va_A [] hz0) := by
  refine va_MetW (hh := [(0, 10, 13, 21)]) (cc := cL_strip) (maxL := 5) (ret := (some .int)) (by decide +kernel) rfl ?_
  intro p e s m args below meth c s₁ B hml hv
  obtain ⟨rfl, hsz, hG, hP, hZ⟩ := hv
  subst hsz
  have hx := B.exec
  have hb := B.bytes
  have hr := B.returns
  have hts : ∀ w ∈ wsL_law, w.before _ s = true := fun w h => atoms_spec (ws := (wsW_ yL_strip cL_strip 5 (some .int) [(0, 10, 13, 21)])) B.pre w (List.mem_cons_of_mem _ (wsL2_in w h))
  have hk15 : (Cond.classLink RL 15 "java/lang/IllegalStateException").before _ s = true := atoms_spec (ws := (wsW_ yL_strip cL_strip 5 (some .int) [(0, 10, 13, 21)])) B.pre _ (List.mem_cons_of_mem _ List.mem_cons_self)
  have hown : s.vm.findClass RL = some m.cls := findClass_of_methodNamed B.named
  have hlk := B.notSynchronized
  have hC : CallFix p m c cL_strip 5 s _ wsL_law RL := ⟨hx, hb, hml, hown, hts⟩
  have hS : va_S (va_A [] s.heap.size) s.heap s.heap [] := va_S.rf
  have hl := lv_entry ([.ref xo, .int x, .int w, .ref ou]) (n := 5) (Nat.le_of_ble_eq_true rfl)
  rw [lg_entry_eq]
  generalize (lg_sl ([.ref xo, .int x, .int w, .ref ou]) ++ List.replicate (5 - (lg_sl ([.ref xo, .int x, .int w, .ref ou])).length) Slot.unset).toArray = ls at hl ⊢
  have hl : lv_has ls 5 [(0, .ref xo), (1, .int x), (2, .int w), (3, .ref ou)] := hl
  refine lv_aload_n hx hb dL_strip_0 rfl (lv_at hl 3 rfl) ?_
  refine lv_iconst (v := 0) hx hb dL_strip_1 (by decide) ?_
  refine lv_aload_n hx hb dL_strip_2 rfl (lv_at hl 0 rfl) ?_
  refine lv_iload_n hx hb dL_strip_3 rfl (lv_at hl 1 rfl) ?_
  refine lv_iload_n hx hb dL_strip_4 rfl (lv_at hl 2 rfl) ?_
  have hP9 := hP.sub (ws' := [oO xo 5 [.ref lc, .ref lt, .ref bo, .ref yo, .ref no], oO lt 7 [.int m2, .ref et, .int (nI nS)]]) [0, 1] rfl
  refine vx_calli (A0 := va_A [] s.heap.size) (rX (rest := [.int 0, .ref ou]) (qc := (RX5, TX5, 5)) [.int x, .int w] 2 hC (t_strip_1 l D hns (xo := xo) (lc := lc) (lt := lt) (bo := bo) (yo := yo) (no := no) (et := et) (nS := nS) (m2 := m2) (x := x) (w := w) (hz0 := s.heap.size) (hnS) (hxx)) rfl (hP 0 _ rfl) (gV mM_L_75 mI_X5_strip mS_X5_strip mN_X5 mC_X5_strip) (by decide +kernel) rfl rfl ⟨Nat.le_of_ble_eq_true rfl, Nat.le_of_ble_eq_true rfl⟩ hG hP9 hZ rfl hl.1 rfl (Nat.le_of_ble_eq_true rfl) dL_strip_5 ⟨Nat.le_of_ble_eq_true rfl, Nat.le_of_ble_eq_true rfl⟩) hS (fun q _ h => h) (fun q h => h) (fun q _ h => h) (fun E ce q9 u9 t H1 locs1 ht hvm hp9 hB hz hk hS1 hce hcv hcl => ?_) (fun r u t H1 locs1 ht hvm hp9 _ _ _ _ => hp9.elim)
  obtain rfl : E = "java/lang/IndexOutOfBoundsException" := hB
  have htb := vx_table (x := yL_strip) B (hts _ mW_L_strip)
  refine vx_catch (own := RL) (name := "java/lang/IndexOutOfBoundsException") (pc := 5) (rest := [.int 0, .ref ou]) hown [] ⟨0, 10, 13, 21⟩ [] (by rw [htb]; rfl) (fun z hz9 => absurd hz9 List.not_mem_nil) rfl (by decide) (hts _ mK_L_21) (va_Nw.use rfl (gkC hG 4 rfl)) hce hcv hcl ?_
  refine lv_astore (lv' := [(4, .ref q9), (0, .ref xo), (1, .int x), (2, .int w), (3, .ref ou)]) hx hb dL_strip_13 hl (by decide) rfl (fun ls hl => ?_)
  refine lv_iconst (v := 1) hx hb dL_strip_15 (by decide) ?_
  exact W.iret (v := 1) hx hb hr (fun t ht _ => ⟨⟨_, (), rfl, rfl, trivial⟩, hS1.F ht⟩) hS1.2.2 dL_strip_16 hlk
set_option maxHeartbeats 400000 in
set_option maxRecDepth 100000 in
theorem h_strip_2 (l : Launch) (D : va_G) (hns : l.stackTraces = false) {xo lc lt bo yo no : Nat} {et nS : Nat} {m2 : Int32} {s0 co : Nat} {sl : Nat → Nat} {pt : Nat → Int32} {w : Int32} {ou : Nat} (hz0 : Nat) (hnS : nS ≤ 10) (hs0 : s0 < nS) (h : ¬ (0 ≤ w ∧ w ≤ 12)) : Met l yL_strip (wsW_ yL_strip cL_strip 5 (some .int) [(0, 10, 13, 21)]) ({ frames := 7, cells := 1, slots := 6, locals := 125 } : Room) (va_Pc [.ref xo, .int (nI s0), .int w, .ref ou] (TW D [oO xo 5 [.ref lc, .ref lt, .ref bo, .ref yo, .ref no], oO lt 7 [.int m2, .ref et, .int (nI nS)], aO D et 10 (lsF sl nS), oO (sl s0) 3 [.ref co, .int (pt 0), .int (pt 1), .int (pt 3), .int (pt 4), .int (pt 5), .int (pt 6), .int (pt 7), .int (pt 8), .int (pt 9), .int (pt 10), .int (pt 11), .int (pt 12)]] hz0)) (va_Qi (fun r (_ : Unit) => r = 1) (fun _ _ => True) (va_A [] hz0)) 1 6 (va_A [] hz0) := by
  refine va_MetW (hh := [(0, 10, 13, 21)]) (cc := cL_strip) (maxL := 5) (ret := (some .int)) (by decide +kernel) rfl ?_
  intro p e s m args below meth c s₁ B hml hv
  obtain ⟨rfl, hsz, hG, hP, hZ⟩ := hv
  subst hsz
  have hx := B.exec
  have hb := B.bytes
  have hr := B.returns
  have hts : ∀ w ∈ wsL_law, w.before _ s = true := fun w h => atoms_spec (ws := (wsW_ yL_strip cL_strip 5 (some .int) [(0, 10, 13, 21)])) B.pre w (List.mem_cons_of_mem _ (wsL2_in w h))
  have hk15 : (Cond.classLink RL 15 "java/lang/IllegalStateException").before _ s = true := atoms_spec (ws := (wsW_ yL_strip cL_strip 5 (some .int) [(0, 10, 13, 21)])) B.pre _ (List.mem_cons_of_mem _ List.mem_cons_self)
  have hown : s.vm.findClass RL = some m.cls := findClass_of_methodNamed B.named
  have hlk := B.notSynchronized
  have hC : CallFix p m c cL_strip 5 s _ wsL_law RL := ⟨hx, hb, hml, hown, hts⟩
  have hS : va_S (va_A [] s.heap.size) s.heap s.heap [] := va_S.rf
  have hl := lv_entry ([.ref xo, .int (nI s0), .int w, .ref ou]) (n := 5) (Nat.le_of_ble_eq_true rfl)
  rw [lg_entry_eq]
  generalize (lg_sl ([.ref xo, .int (nI s0), .int w, .ref ou]) ++ List.replicate (5 - (lg_sl ([.ref xo, .int (nI s0), .int w, .ref ou])).length) Slot.unset).toArray = ls at hl ⊢
  have hl : lv_has ls 5 [(0, .ref xo), (1, .int (nI s0)), (2, .int w), (3, .ref ou)] := hl
  refine lv_aload_n hx hb dL_strip_0 rfl (lv_at hl 3 rfl) ?_
  refine lv_iconst (v := 0) hx hb dL_strip_1 (by decide) ?_
  refine lv_aload_n hx hb dL_strip_2 rfl (lv_at hl 0 rfl) ?_
  refine lv_iload_n hx hb dL_strip_3 rfl (lv_at hl 1 rfl) ?_
  refine lv_iload_n hx hb dL_strip_4 rfl (lv_at hl 2 rfl) ?_
  have hP9 := hP.sub (ws' := [oO xo 5 [.ref lc, .ref lt, .ref bo, .ref yo, .ref no], oO lt 7 [.int m2, .ref et, .int (nI nS)], aO D et 10 (lsF sl nS), oO (sl s0) 3 [.ref co, .int (pt 0), .int (pt 1), .int (pt 3), .int (pt 4), .int (pt 5), .int (pt 6), .int (pt 7), .int (pt 8), .int (pt 9), .int (pt 10), .int (pt 11), .int (pt 12)]]) [0, 1, 2, 3] rfl
  refine vx_calli (A0 := va_A [] s.heap.size) (rX (rest := [.int 0, .ref ou]) (qc := (RX5, TX5, 5)) [.int (nI s0), .int w] 2 hC (t_strip_2 l D hns (xo := xo) (lc := lc) (lt := lt) (bo := bo) (yo := yo) (no := no) (et := et) (nS := nS) (m2 := m2) (s0 := s0) (co := co) (sl := sl) (pt := pt) (w := w) (hz0 := s.heap.size) (hnS) (hs0) (h)) rfl (hP 0 _ rfl) (gV mM_L_75 mI_X5_strip mS_X5_strip mN_X5 mC_X5_strip) (by decide +kernel) rfl rfl ⟨Nat.le_of_ble_eq_true rfl, Nat.le_of_ble_eq_true rfl⟩ hG hP9 hZ rfl hl.1 rfl (Nat.le_of_ble_eq_true rfl) dL_strip_5 ⟨Nat.le_of_ble_eq_true rfl, Nat.le_of_ble_eq_true rfl⟩) hS (fun q _ h => h) (fun q h => h) (fun q _ h => h) (fun E ce q9 u9 t H1 locs1 ht hvm hp9 hB hz hk hS1 hce hcv hcl => ?_) (fun r u t H1 locs1 ht hvm hp9 _ _ _ _ => hp9.elim)
  obtain rfl : E = "java/lang/IndexOutOfBoundsException" := hB
  have htb := vx_table (x := yL_strip) B (hts _ mW_L_strip)
  refine vx_catch (own := RL) (name := "java/lang/IndexOutOfBoundsException") (pc := 5) (rest := [.int 0, .ref ou]) hown [] ⟨0, 10, 13, 21⟩ [] (by rw [htb]; rfl) (fun z hz9 => absurd hz9 List.not_mem_nil) rfl (by decide) (hts _ mK_L_21) (va_Nw.use rfl (gkC hG 4 rfl)) hce hcv hcl ?_
  refine lv_astore (lv' := [(4, .ref q9), (0, .ref xo), (1, .int (nI s0)), (2, .int w), (3, .ref ou)]) hx hb dL_strip_13 hl (by decide) rfl (fun ls hl => ?_)
  refine lv_iconst (v := 1) hx hb dL_strip_15 (by decide) ?_
  exact W.iret (v := 1) hx hb hr (fun t ht _ => ⟨⟨_, (), rfl, rfl, trivial⟩, hS1.F ht⟩) hS1.2.2 dL_strip_16 hlk
set_option maxHeartbeats 400000 in
set_option maxRecDepth 100000 in
theorem l_strip (l : Launch) (D : va_G) {xo lc lt bo yo no : Nat} {et nS : Nat} {m2 : Int32} {s0 co : Nat} {sl : Nat → Nat} {pt : Nat → Int32} {ta : Nat} {q : Nat → Nat} {len : Int32} {w : Nat} {ou : Nat} {wf : Nat → Int64} (hz0 : Nat) (hnS : nS ≤ 10) (hs0 : s0 < nS) (hp : 0 < pt 5) (h9 : pt 9 = 0 ∨ pt 9 = 1) (h10 : pt 10 = 0 ∨ pt 10 = 1) (hw : w < 13) : Met l yL_strip (wsW_ yL_strip cL_strip 5 (some .int) [(0, 10, 13, 21)]) ({ frames := 7, cells := 0, slots := 0, locals := 125 } : Room) (va_Pc [.ref xo, .int (nI s0), .int (nI w), .ref ou] (SW D [oO xo 5 [.ref lc, .ref lt, .ref bo, .ref yo, .ref no], oO lt 7 [.int m2, .ref et, .int (nI nS)], aO D et 10 (lsF sl nS), oO (sl s0) 3 [.ref co, .int (pt 0), .int (pt 1), .int (pt 3), .int (pt 4), .int (pt 5), .int (pt 6), .int (pt 7), .int (pt 8), .int (pt 9), .int (pt 10), .int (pt 11), .int (pt 12)], oO co 0 [.int len, .ref ta, .ref (q 0), .ref (q 1)], aL D ou 1 wf] hz0)) (va_Qi (fun r _ => r = 0) (AT D (va_A [oO xo 5 [.ref lc, .ref lt, .ref bo, .ref yo, .ref no], oO lt 7 [.int m2, .ref et, .int (nI nS)], aO D et 10 (lsF sl nS), oO (sl s0) 3 [.ref co, .int (pt 0), .int (pt 1), .int (pt 3), .int (pt 4), .int (pt 5), .int (pt 6), .int (pt 7), .int (pt 8), .int (pt 9), .int (pt 10), .int (pt 11), .int (pt 12)], oO co 0 [.int len, .ref ta, .ref (q 0), .ref (q 1)], aL D ou 1 wf] hz0) (fun _ : Unit => [oO xo 5 [.ref lc, .ref lt, .ref bo, .ref yo, .ref no], oO lt 7 [.int m2, .ref et, .int (nI nS)], aO D et 10 (lsF sl nS), oO (sl s0) 3 [.ref co, .int (pt 0), .int (pt 1), .int (pt 3), .int (pt 4), .int (pt 5), .int (pt 6), .int (pt 7), .int (pt 8), .int (pt 9), .int (pt 10), .int (pt 11), .int (pt 12)], oO co 0 [.int len, .ref ta, .ref (q 0), .ref (q 1)], aL D ou 1 (vp_updL wf 0 (factS len pt w).toInt64)])) (va_A [oO xo 5 [.ref lc, .ref lt, .ref bo, .ref yo, .ref no], oO lt 7 [.int m2, .ref et, .int (nI nS)], aO D et 10 (lsF sl nS), oO (sl s0) 3 [.ref co, .int (pt 0), .int (pt 1), .int (pt 3), .int (pt 4), .int (pt 5), .int (pt 6), .int (pt 7), .int (pt 8), .int (pt 9), .int (pt 10), .int (pt 11), .int (pt 12)], oO co 0 [.int len, .ref ta, .ref (q 0), .ref (q 1)], aL D ou 1 wf] hz0)) 0 0 (va_A [oO xo 5 [.ref lc, .ref lt, .ref bo, .ref yo, .ref no], oO lt 7 [.int m2, .ref et, .int (nI nS)], aO D et 10 (lsF sl nS), oO (sl s0) 3 [.ref co, .int (pt 0), .int (pt 1), .int (pt 3), .int (pt 4), .int (pt 5), .int (pt 6), .int (pt 7), .int (pt 8), .int (pt 9), .int (pt 10), .int (pt 11), .int (pt 12)], oO co 0 [.int len, .ref ta, .ref (q 0), .ref (q 1)], aL D ou 1 wf] hz0) := by
  refine va_MetW (hh := [(0, 10, 13, 21)]) (cc := cL_strip) (maxL := 5) (ret := (some .int)) (by decide +kernel) rfl ?_
  intro p e s m args below meth c s₁ B hml hv
  obtain ⟨rfl, hsz, hG, hP, hD0⟩ := hv
  have hx := B.exec
  have hb := B.bytes
  have hr := B.returns
  have hts : ∀ w ∈ wsL_law, w.before _ s = true := fun w h => atoms_spec (ws := (wsW_ yL_strip cL_strip 5 (some .int) [(0, 10, 13, 21)])) B.pre w (List.mem_cons_of_mem _ (wsL2_in w h))
  have hown : s.vm.findClass RL = some m.cls := findClass_of_methodNamed B.named
  have hlk := B.notSynchronized
  have hC : CallFix p m c cL_strip 5 s _ wsL_law RL := ⟨hx, hb, hml, hown, hts⟩
  subst hsz
  have hD := hD0.self (sz := s.heap.size)
  generalize hAe : va_A [oO xo 5 [.ref lc, .ref lt, .ref bo, .ref yo, .ref no], oO lt 7 [.int m2, .ref et, .int (nI nS)], aO D et 10 (lsF sl nS), oO (sl s0) 3 [.ref co, .int (pt 0), .int (pt 1), .int (pt 3), .int (pt 4), .int (pt 5), .int (pt 6), .int (pt 7), .int (pt 8), .int (pt 9), .int (pt 10), .int (pt 11), .int (pt 12)], oO co 0 [.int len, .ref ta, .ref (q 0), .ref (q 1)], aL D ou 1 wf] s.heap.size = A at hD ⊢
  have hA : ∀ q : Nat, s.heap.size ≤ q → A q := fun q h => by rw [← hAe]; exact Or.inr h
  have hS : va_S A s.heap s.heap [] := va_S.rf
  obtain ⟨H, hHe⟩ : ∃ H, H = s.heap := ⟨_, rfl⟩
  rw [← hHe] at hP
  have hS : va_S A s.heap H [] := by rw [hHe]; exact hS
  have hl := lv_entry ([.ref xo, .int (nI s0), .int (nI w), .ref ou]) (n := 5) (Nat.le_of_ble_eq_true rfl)
  rw [lg_entry_eq]
  generalize (lg_sl ([.ref xo, .int (nI s0), .int (nI w), .ref ou]) ++ List.replicate (5 - (lg_sl ([.ref xo, .int (nI s0), .int (nI w), .ref ou])).length) Slot.unset).toArray = ls at hl ⊢
  have hl : lv_has ls 5 [(0, .ref xo), (1, .int (nI s0)), (2, .int (nI w)), (3, .ref ou)] := hl
  rw [← hHe]
  refine lv_aload_n hx hb dL_strip_0 rfl (lv_at hl 3 rfl) ?_
  refine lv_iconst (v := 0) hx hb dL_strip_1 (by decide) ?_
  refine lv_aload_n hx hb dL_strip_2 rfl (lv_at hl 0 rfl) ?_
  refine lv_iload_n hx hb dL_strip_3 rfl (lv_at hl 1 rfl) ?_
  refine lv_iload_n hx hb dL_strip_4 rfl (lv_at hl 2 rfl) ?_
  have hP9 := hP.sub (ws' := [oO xo 5 [.ref lc, .ref lt, .ref bo, .ref yo, .ref no], oO lt 7 [.int m2, .ref et, .int (nI nS)], aO D et 10 (lsF sl nS), oO (sl s0) 3 [.ref co, .int (pt 0), .int (pt 1), .int (pt 3), .int (pt 4), .int (pt 5), .int (pt 6), .int (pt 7), .int (pt 8), .int (pt 9), .int (pt 10), .int (pt 11), .int (pt 12)], oO co 0 [.int len, .ref ta, .ref (q 0), .ref (q 1)]]) [0, 1, 2, 3, 4] rfl
  refine vp_callSi (pV (rest := [.int 0, .ref ou]) (qc := (RX5, TX5, 5)) [.int (nI s0), .int (nI w)] 2 hC (c_strip l D (xo := xo) (lc := lc) (lt := lt) (bo := bo) (yo := yo) (no := no) (et := et) (nS := nS) (m2 := m2) (s0 := s0) (co := co) (sl := sl) (pt := pt) (ta := ta) (q := q) (len := len) (w := w) (hnS) (hs0) (hp) (h9) (h10) (hw)) rfl (hP 0 _ rfl) (gV mM_L_75 mI_X5_strip mS_X5_strip mN_X5 mC_X5_strip) (by decide +kernel) rfl rfl ⟨Nat.le_of_ble_eq_true rfl, Nat.le_of_ble_eq_true rfl⟩ hG hP9 rfl hl.1 rfl (Nat.le_of_ble_eq_true rfl) dL_strip_5 ⟨Nat.le_of_ble_eq_true rfl, Nat.le_of_ble_eq_true rfl⟩) (fun r5 h5 => ?_)
  obtain rfl : r5 = (factS len pt w) := h5
  refine lv_i2l hx hb dL_strip_8 rfl ?_
  refine lst (n := 1) (j := 0) hx hb hG hP hD hS 5 rfl (by omega) (by omega) dL_strip_9 (fun H locs hP hD hS => ?_)
  have hP : va_P D cls [oO xo 5 [.ref lc, .ref lt, .ref bo, .ref yo, .ref no], oO lt 7 [.int m2, .ref et, .int (nI nS)], aO D et 10 (lsF sl nS), oO (sl s0) 3 [.ref co, .int (pt 0), .int (pt 1), .int (pt 3), .int (pt 4), .int (pt 5), .int (pt 6), .int (pt 7), .int (pt 8), .int (pt 9), .int (pt 10), .int (pt 11), .int (pt 12)], oO co 0 [.int len, .ref ta, .ref (q 0), .ref (q 1)], aL D ou 1 (vp_updL wf 0 ((factS len pt w).toInt64))] H := hP
  have hD : va_D A [oO xo 5 [.ref lc, .ref lt, .ref bo, .ref yo, .ref no], oO lt 7 [.int m2, .ref et, .int (nI nS)], aO D et 10 (lsF sl nS), oO (sl s0) 3 [.ref co, .int (pt 0), .int (pt 1), .int (pt 3), .int (pt 4), .int (pt 5), .int (pt 6), .int (pt 7), .int (pt 8), .int (pt 9), .int (pt 10), .int (pt 11), .int (pt 12)], oO co 0 [.int len, .ref ta, .ref (q 0), .ref (q 1)], aL D ou 1 (vp_updL wf 0 ((factS len pt w).toInt64))] := hD
  refine lv_goto (tgt := 17) hx hb dL_strip_10 (by decide) ?_
  refine lv_iconst (v := 0) hx hb dL_strip_17 (by decide) ?_
  refine Wi () hx hb hr hlk ?_ hP hD hS (Nat.le_of_ble_eq_true rfl) (by first | exact Nat.le_of_ble_eq_true rfl | exact Nat.le_of_eq (Nat.zero_add _)) dL_strip_18
  exact rfl
set_option maxHeartbeats 400000 in
set_option maxRecDepth 100000 in
theorem h_stripAt_1 (l : Launch) (D : va_G) (hns : l.stackTraces = false) {xo lc lt bo yo no : Nat} {et nS : Nat} {m2 : Int32} {x y lc0 : Int32} {ou : Nat} (hz0 : Nat) (hnS : nS ≤ 10) (hxx : x < 0 ∨ nI nS ≤ x) : Met l yL_stripAt (wsW_ yL_stripAt cL_stripAt 6 (some .int) [(0, 12, 15, 21), (0, 12, 19, 13)]) ({ frames := 7, cells := 1, slots := 6, locals := 126 } : Room) (va_Pc [.ref xo, .int x, .int y, .int lc0, .ref ou] (TW D [oO xo 5 [.ref lc, .ref lt, .ref bo, .ref yo, .ref no], oO lt 7 [.int m2, .ref et, .int (nI nS)]] hz0)) (va_Qi (fun r (_ : Unit) => r = 1) (fun _ _ => True) (va_A [] hz0)) 1 6 (va_A [] hz0) := by
  refine va_MetW (hh := [(0, 12, 15, 21), (0, 12, 19, 13)]) (cc := cL_stripAt) (maxL := 6) (ret := (some .int)) (by decide +kernel) rfl ?_
  intro p e s m args below meth c s₁ B hml hv
  obtain ⟨rfl, hsz, hG, hP, hZ⟩ := hv
  subst hsz
  have hx := B.exec
  have hb := B.bytes
  have hr := B.returns
  have hts : ∀ w ∈ wsL_law, w.before _ s = true := fun w h => atoms_spec (ws := (wsW_ yL_stripAt cL_stripAt 6 (some .int) [(0, 12, 15, 21), (0, 12, 19, 13)])) B.pre w (List.mem_cons_of_mem _ (wsL2_in w h))
  have hk15 : (Cond.classLink RL 15 "java/lang/IllegalStateException").before _ s = true := atoms_spec (ws := (wsW_ yL_stripAt cL_stripAt 6 (some .int) [(0, 12, 15, 21), (0, 12, 19, 13)])) B.pre _ (List.mem_cons_of_mem _ List.mem_cons_self)
  have hown : s.vm.findClass RL = some m.cls := findClass_of_methodNamed B.named
  have hlk := B.notSynchronized
  have hC : CallFix p m c cL_stripAt 6 s _ wsL_law RL := ⟨hx, hb, hml, hown, hts⟩
  have hS : va_S (va_A [] s.heap.size) s.heap s.heap [] := va_S.rf
  have hl := lv_entry ([.ref xo, .int x, .int y, .int lc0, .ref ou]) (n := 6) (Nat.le_of_ble_eq_true rfl)
  rw [lg_entry_eq]
  generalize (lg_sl ([.ref xo, .int x, .int y, .int lc0, .ref ou]) ++ List.replicate (6 - (lg_sl ([.ref xo, .int x, .int y, .int lc0, .ref ou])).length) Slot.unset).toArray = ls at hl ⊢
  have hl : lv_has ls 6 [(0, .ref xo), (1, .int x), (2, .int y), (3, .int lc0), (4, .ref ou)] := hl
  refine lv_aload hx hb dL_stripAt_0 (lv_at hl 4 rfl) ?_
  refine lv_iconst (v := 0) hx hb dL_stripAt_2 (by decide) ?_
  refine lv_aload_n hx hb dL_stripAt_3 rfl (lv_at hl 0 rfl) ?_
  refine lv_iload_n hx hb dL_stripAt_4 rfl (lv_at hl 1 rfl) ?_
  refine lv_iload_n hx hb dL_stripAt_5 rfl (lv_at hl 2 rfl) ?_
  refine lv_iload_n hx hb dL_stripAt_6 rfl (lv_at hl 3 rfl) ?_
  have hP9 := hP.sub (ws' := [oO xo 5 [.ref lc, .ref lt, .ref bo, .ref yo, .ref no], oO lt 7 [.int m2, .ref et, .int (nI nS)]]) [0, 1] rfl
  refine vx_calli (A0 := va_A [] s.heap.size) (rX (rest := [.int 0, .ref ou]) (qc := (RX5, TX5, 5)) [.int x, .int y, .int lc0] 3 hC (t_stripAt_1 l D hns (xo := xo) (lc := lc) (lt := lt) (bo := bo) (yo := yo) (no := no) (et := et) (nS := nS) (m2 := m2) (x := x) (y := y) (lc0 := lc0) (hz0 := s.heap.size) (hnS) (hxx)) rfl (hP 0 _ rfl) (gV mM_L_78 mI_X5_stripAt mS_X5_stripAt mN_X5 mC_X5_stripAt) (by decide +kernel) rfl rfl ⟨Nat.le_of_ble_eq_true rfl, Nat.le_of_ble_eq_true rfl⟩ hG hP9 hZ rfl hl.1 rfl (Nat.le_of_ble_eq_true rfl) dL_stripAt_7 ⟨Nat.le_of_ble_eq_true rfl, Nat.le_of_ble_eq_true rfl⟩) hS (fun q _ h => h) (fun q h => h) (fun q _ h => h) (fun E ce q9 u9 t H1 locs1 ht hvm hp9 hB hz hk hS1 hce hcv hcl => ?_) (fun r u t H1 locs1 ht hvm hp9 _ _ _ _ => hp9.elim)
  obtain rfl : E = "java/lang/IndexOutOfBoundsException" := hB
  have htb := vx_table (x := yL_stripAt) B (hts _ mW_L_stripAt)
  refine vx_catch (own := RL) (name := "java/lang/IndexOutOfBoundsException") (pc := 7) (rest := [.int 0, .ref ou]) hown [] ⟨0, 12, 15, 21⟩ [⟨0, 12, 19, 13⟩] (by rw [htb]; rfl) (fun z hz9 => absurd hz9 List.not_mem_nil) rfl (by decide) (hts _ mK_L_21) (va_Nw.use rfl (gkC hG 4 rfl)) hce hcv hcl ?_
  refine lv_astore (lv' := [(5, .ref q9), (0, .ref xo), (1, .int x), (2, .int y), (3, .int lc0), (4, .ref ou)]) hx hb dL_stripAt_15 hl (by decide) rfl (fun ls hl => ?_)
  refine lv_iconst (v := 1) hx hb dL_stripAt_17 (by decide) ?_
  exact W.iret (v := 1) hx hb hr (fun t ht _ => ⟨⟨_, (), rfl, rfl, trivial⟩, hS1.F ht⟩) hS1.2.2 dL_stripAt_18 hlk
set_option maxHeartbeats 400000 in
set_option maxRecDepth 100000 in
theorem h_stripAt_2 (l : Launch) (D : va_G) (hns : l.stackTraces = false) {xo lc lt bo yo no : Nat} {et nS : Nat} {m2 : Int32} {s0 co : Nat} {sl : Nat → Nat} {pt : Nat → Int32} {y lc0 : Int32} {ou : Nat} (hz0 : Nat) (hnS : nS ≤ 10) (hs0 : s0 < nS) (h : ¬ ((0 : Int32) ≤ y ∧ y ≤ 100000)) : Met l yL_stripAt (wsW_ yL_stripAt cL_stripAt 6 (some .int) [(0, 12, 15, 21), (0, 12, 19, 13)]) ({ frames := 7, cells := 1, slots := 6, locals := 126 } : Room) (va_Pc [.ref xo, .int (nI s0), .int y, .int lc0, .ref ou] (TW D [oO xo 5 [.ref lc, .ref lt, .ref bo, .ref yo, .ref no], oO lt 7 [.int m2, .ref et, .int (nI nS)], aO D et 10 (lsF sl nS), oO (sl s0) 3 [.ref co, .int (pt 0), .int (pt 1), .int (pt 3), .int (pt 4), .int (pt 5), .int (pt 6), .int (pt 7), .int (pt 8), .int (pt 9), .int (pt 10), .int (pt 11), .int (pt 12)]] hz0)) (va_Qi (fun r (_ : Unit) => r = 2) (fun _ _ => True) (va_A [] hz0)) 1 6 (va_A [] hz0) := by
  refine va_MetW (hh := [(0, 12, 15, 21), (0, 12, 19, 13)]) (cc := cL_stripAt) (maxL := 6) (ret := (some .int)) (by decide +kernel) rfl ?_
  intro p e s m args below meth c s₁ B hml hv
  obtain ⟨rfl, hsz, hG, hP, hZ⟩ := hv
  subst hsz
  have hx := B.exec
  have hb := B.bytes
  have hr := B.returns
  have hts : ∀ w ∈ wsL_law, w.before _ s = true := fun w h => atoms_spec (ws := (wsW_ yL_stripAt cL_stripAt 6 (some .int) [(0, 12, 15, 21), (0, 12, 19, 13)])) B.pre w (List.mem_cons_of_mem _ (wsL2_in w h))
  have hk15 : (Cond.classLink RL 15 "java/lang/IllegalStateException").before _ s = true := atoms_spec (ws := (wsW_ yL_stripAt cL_stripAt 6 (some .int) [(0, 12, 15, 21), (0, 12, 19, 13)])) B.pre _ (List.mem_cons_of_mem _ List.mem_cons_self)
  have hown : s.vm.findClass RL = some m.cls := findClass_of_methodNamed B.named
  have hlk := B.notSynchronized
  have hC : CallFix p m c cL_stripAt 6 s _ wsL_law RL := ⟨hx, hb, hml, hown, hts⟩
  have hS : va_S (va_A [] s.heap.size) s.heap s.heap [] := va_S.rf
  have hl := lv_entry ([.ref xo, .int (nI s0), .int y, .int lc0, .ref ou]) (n := 6) (Nat.le_of_ble_eq_true rfl)
  rw [lg_entry_eq]
  generalize (lg_sl ([.ref xo, .int (nI s0), .int y, .int lc0, .ref ou]) ++ List.replicate (6 - (lg_sl ([.ref xo, .int (nI s0), .int y, .int lc0, .ref ou])).length) Slot.unset).toArray = ls at hl ⊢
  have hl : lv_has ls 6 [(0, .ref xo), (1, .int (nI s0)), (2, .int y), (3, .int lc0), (4, .ref ou)] := hl
  refine lv_aload hx hb dL_stripAt_0 (lv_at hl 4 rfl) ?_
  refine lv_iconst (v := 0) hx hb dL_stripAt_2 (by decide) ?_
  refine lv_aload_n hx hb dL_stripAt_3 rfl (lv_at hl 0 rfl) ?_
  refine lv_iload_n hx hb dL_stripAt_4 rfl (lv_at hl 1 rfl) ?_
  refine lv_iload_n hx hb dL_stripAt_5 rfl (lv_at hl 2 rfl) ?_
  refine lv_iload_n hx hb dL_stripAt_6 rfl (lv_at hl 3 rfl) ?_
  have hP9 := hP.sub (ws' := [oO xo 5 [.ref lc, .ref lt, .ref bo, .ref yo, .ref no], oO lt 7 [.int m2, .ref et, .int (nI nS)], aO D et 10 (lsF sl nS), oO (sl s0) 3 [.ref co, .int (pt 0), .int (pt 1), .int (pt 3), .int (pt 4), .int (pt 5), .int (pt 6), .int (pt 7), .int (pt 8), .int (pt 9), .int (pt 10), .int (pt 11), .int (pt 12)]]) [0, 1, 2, 3] rfl
  refine vx_calli (A0 := va_A [] s.heap.size) (rX (rest := [.int 0, .ref ou]) (qc := (RX5, TX5, 5)) [.int (nI s0), .int y, .int lc0] 3 hC (t_stripAt_2 l D hns (xo := xo) (lc := lc) (lt := lt) (bo := bo) (yo := yo) (no := no) (et := et) (nS := nS) (m2 := m2) (s0 := s0) (co := co) (sl := sl) (pt := pt) (y := y) (lc0 := lc0) (hz0 := s.heap.size) (hnS) (hs0) (h)) rfl (hP 0 _ rfl) (gV mM_L_78 mI_X5_stripAt mS_X5_stripAt mN_X5 mC_X5_stripAt) (by decide +kernel) rfl rfl ⟨Nat.le_of_ble_eq_true rfl, Nat.le_of_ble_eq_true rfl⟩ hG hP9 hZ rfl hl.1 rfl (Nat.le_of_ble_eq_true rfl) dL_stripAt_7 ⟨Nat.le_of_ble_eq_true rfl, Nat.le_of_ble_eq_true rfl⟩) hS (fun q _ h => h) (fun q h => h) (fun q _ h => h) (fun E ce q9 u9 t H1 locs1 ht hvm hp9 hB hz hk hS1 hce hcv hcl => ?_) (fun r u t H1 locs1 ht hvm hp9 _ _ _ _ => hp9.elim)
  obtain rfl : E = "java/lang/IllegalArgumentException" := hB
  have htb := vx_table (x := yL_stripAt) B (hts _ mW_L_stripAt)
  refine vx_catch (own := RL) (name := "java/lang/IllegalArgumentException") (pc := 7) (rest := [.int 0, .ref ou]) hown [⟨0, 12, 15, 21⟩] ⟨0, 12, 19, 13⟩ [] (by rw [htb]; rfl) (fun z hz9 => by
    simp only [List.mem_cons, List.not_mem_nil, or_false] at hz9
    rcases hz9 with rfl
    · exact Or.inr ⟨by decide, _, hts _ mK_L_21, gkN hG 1 rfl⟩) rfl (by decide) (hts _ mK_L_13) (va_Nw.use rfl (gkC hG 2 rfl)) hce hcv hcl ?_
  refine lv_astore (lv' := [(5, .ref q9), (0, .ref xo), (1, .int (nI s0)), (2, .int y), (3, .int lc0), (4, .ref ou)]) hx hb dL_stripAt_19 hl (by decide) rfl (fun ls hl => ?_)
  refine lv_iconst (v := 2) hx hb dL_stripAt_21 (by decide) ?_
  exact W.iret (v := 2) hx hb hr (fun t ht _ => ⟨⟨_, (), rfl, rfl, trivial⟩, hS1.F ht⟩) hS1.2.2 dL_stripAt_22 hlk
set_option maxHeartbeats 400000 in
set_option maxRecDepth 100000 in
theorem l_stripAt (l : Launch) (D : va_G) {xo lc lt bo yo no : Nat} {et nS : Nat} {m2 : Int32} {s0 co : Nat} {sl : Nat → Nat} {pt : Nat → Int32} {ta : Nat} {q : Nat → Nat} {len : Int32} {y lc0 : Int32} {ou : Nat} {wf : Nat → Int64} (hz0 : Nat) (hnS : nS ≤ 10) (hs0 : s0 < nS) (hp : 0 < pt 5) (hq : 0 < pt 6) (hln : 0 < len) (h : (0 : Int32) ≤ y ∧ y ≤ 100000) (hF : isOnS len pt y → fadesOK len pt y) : Met l yL_stripAt (wsW_ yL_stripAt cL_stripAt 6 (some .int) [(0, 12, 15, 21), (0, 12, 19, 13)]) ({ frames := 7, cells := 0, slots := 0, locals := 126 } : Room) (va_Pc [.ref xo, .int (nI s0), .int y, .int lc0, .ref ou] (SW D [oO xo 5 [.ref lc, .ref lt, .ref bo, .ref yo, .ref no], oO lt 7 [.int m2, .ref et, .int (nI nS)], aO D et 10 (lsF sl nS), oO (sl s0) 3 [.ref co, .int (pt 0), .int (pt 1), .int (pt 3), .int (pt 4), .int (pt 5), .int (pt 6), .int (pt 7), .int (pt 8), .int (pt 9), .int (pt 10), .int (pt 11), .int (pt 12)], oO co 0 [.int len, .ref ta, .ref (q 0), .ref (q 1)], aL D ou 1 wf] hz0)) (va_Qi (fun r _ => r = 0) (AT D (va_A [oO xo 5 [.ref lc, .ref lt, .ref bo, .ref yo, .ref no], oO lt 7 [.int m2, .ref et, .int (nI nS)], aO D et 10 (lsF sl nS), oO (sl s0) 3 [.ref co, .int (pt 0), .int (pt 1), .int (pt 3), .int (pt 4), .int (pt 5), .int (pt 6), .int (pt 7), .int (pt 8), .int (pt 9), .int (pt 10), .int (pt 11), .int (pt 12)], oO co 0 [.int len, .ref ta, .ref (q 0), .ref (q 1)], aL D ou 1 wf] hz0) (fun _ : Unit => [oO xo 5 [.ref lc, .ref lt, .ref bo, .ref yo, .ref no], oO lt 7 [.int m2, .ref et, .int (nI nS)], aO D et 10 (lsF sl nS), oO (sl s0) 3 [.ref co, .int (pt 0), .int (pt 1), .int (pt 3), .int (pt 4), .int (pt 5), .int (pt 6), .int (pt 7), .int (pt 8), .int (pt 9), .int (pt 10), .int (pt 11), .int (pt 12)], oO co 0 [.int len, .ref ta, .ref (q 0), .ref (q 1)], aL D ou 1 (vp_updL wf 0 (if isOnS len pt y then (if lc0 = 0 then strS len pt y else localS len pt y) else -1).toInt64)])) (va_A [oO xo 5 [.ref lc, .ref lt, .ref bo, .ref yo, .ref no], oO lt 7 [.int m2, .ref et, .int (nI nS)], aO D et 10 (lsF sl nS), oO (sl s0) 3 [.ref co, .int (pt 0), .int (pt 1), .int (pt 3), .int (pt 4), .int (pt 5), .int (pt 6), .int (pt 7), .int (pt 8), .int (pt 9), .int (pt 10), .int (pt 11), .int (pt 12)], oO co 0 [.int len, .ref ta, .ref (q 0), .ref (q 1)], aL D ou 1 wf] hz0)) 0 0 (va_A [oO xo 5 [.ref lc, .ref lt, .ref bo, .ref yo, .ref no], oO lt 7 [.int m2, .ref et, .int (nI nS)], aO D et 10 (lsF sl nS), oO (sl s0) 3 [.ref co, .int (pt 0), .int (pt 1), .int (pt 3), .int (pt 4), .int (pt 5), .int (pt 6), .int (pt 7), .int (pt 8), .int (pt 9), .int (pt 10), .int (pt 11), .int (pt 12)], oO co 0 [.int len, .ref ta, .ref (q 0), .ref (q 1)], aL D ou 1 wf] hz0) := by
  refine va_MetW (hh := [(0, 12, 15, 21), (0, 12, 19, 13)]) (cc := cL_stripAt) (maxL := 6) (ret := (some .int)) (by decide +kernel) rfl ?_
  intro p e s m args below meth c s₁ B hml hv
  obtain ⟨rfl, hsz, hG, hP, hD0⟩ := hv
  have hx := B.exec
  have hb := B.bytes
  have hr := B.returns
  have hts : ∀ w ∈ wsL_law, w.before _ s = true := fun w h => atoms_spec (ws := (wsW_ yL_stripAt cL_stripAt 6 (some .int) [(0, 12, 15, 21), (0, 12, 19, 13)])) B.pre w (List.mem_cons_of_mem _ (wsL2_in w h))
  have hown : s.vm.findClass RL = some m.cls := findClass_of_methodNamed B.named
  have hlk := B.notSynchronized
  have hC : CallFix p m c cL_stripAt 6 s _ wsL_law RL := ⟨hx, hb, hml, hown, hts⟩
  subst hsz
  have hD := hD0.self (sz := s.heap.size)
  generalize hAe : va_A [oO xo 5 [.ref lc, .ref lt, .ref bo, .ref yo, .ref no], oO lt 7 [.int m2, .ref et, .int (nI nS)], aO D et 10 (lsF sl nS), oO (sl s0) 3 [.ref co, .int (pt 0), .int (pt 1), .int (pt 3), .int (pt 4), .int (pt 5), .int (pt 6), .int (pt 7), .int (pt 8), .int (pt 9), .int (pt 10), .int (pt 11), .int (pt 12)], oO co 0 [.int len, .ref ta, .ref (q 0), .ref (q 1)], aL D ou 1 wf] s.heap.size = A at hD ⊢
  have hA : ∀ q : Nat, s.heap.size ≤ q → A q := fun q h => by rw [← hAe]; exact Or.inr h
  have hS : va_S A s.heap s.heap [] := va_S.rf
  obtain ⟨H, hHe⟩ : ∃ H, H = s.heap := ⟨_, rfl⟩
  rw [← hHe] at hP
  have hS : va_S A s.heap H [] := by rw [hHe]; exact hS
  have hl := lv_entry ([.ref xo, .int (nI s0), .int y, .int lc0, .ref ou]) (n := 6) (Nat.le_of_ble_eq_true rfl)
  rw [lg_entry_eq]
  generalize (lg_sl ([.ref xo, .int (nI s0), .int y, .int lc0, .ref ou]) ++ List.replicate (6 - (lg_sl ([.ref xo, .int (nI s0), .int y, .int lc0, .ref ou])).length) Slot.unset).toArray = ls at hl ⊢
  have hl : lv_has ls 6 [(0, .ref xo), (1, .int (nI s0)), (2, .int y), (3, .int lc0), (4, .ref ou)] := hl
  rw [← hHe]
  refine lv_aload hx hb dL_stripAt_0 (lv_at hl 4 rfl) ?_
  refine lv_iconst (v := 0) hx hb dL_stripAt_2 (by decide) ?_
  refine lv_aload_n hx hb dL_stripAt_3 rfl (lv_at hl 0 rfl) ?_
  refine lv_iload_n hx hb dL_stripAt_4 rfl (lv_at hl 1 rfl) ?_
  refine lv_iload_n hx hb dL_stripAt_5 rfl (lv_at hl 2 rfl) ?_
  refine lv_iload_n hx hb dL_stripAt_6 rfl (lv_at hl 3 rfl) ?_
  have hP9 := hP.sub (ws' := [oO xo 5 [.ref lc, .ref lt, .ref bo, .ref yo, .ref no], oO lt 7 [.int m2, .ref et, .int (nI nS)], aO D et 10 (lsF sl nS), oO (sl s0) 3 [.ref co, .int (pt 0), .int (pt 1), .int (pt 3), .int (pt 4), .int (pt 5), .int (pt 6), .int (pt 7), .int (pt 8), .int (pt 9), .int (pt 10), .int (pt 11), .int (pt 12)], oO co 0 [.int len, .ref ta, .ref (q 0), .ref (q 1)]]) [0, 1, 2, 3, 4] rfl
  refine vp_callSi (pV (rest := [.int 0, .ref ou]) (qc := (RX5, TX5, 5)) [.int (nI s0), .int y, .int lc0] 3 hC (c_stripAt l D (xo := xo) (lc := lc) (lt := lt) (bo := bo) (yo := yo) (no := no) (et := et) (nS := nS) (m2 := m2) (s0 := s0) (co := co) (sl := sl) (pt := pt) (ta := ta) (q := q) (len := len) (y := y) (lc0 := lc0) (hnS) (hs0) (hp) (hq) (hln) (h) (hF)) rfl (hP 0 _ rfl) (gV mM_L_78 mI_X5_stripAt mS_X5_stripAt mN_X5 mC_X5_stripAt) (by decide +kernel) rfl rfl ⟨Nat.le_of_ble_eq_true rfl, Nat.le_of_ble_eq_true rfl⟩ hG hP9 rfl hl.1 rfl (Nat.le_of_ble_eq_true rfl) dL_stripAt_7 ⟨Nat.le_of_ble_eq_true rfl, Nat.le_of_ble_eq_true rfl⟩) (fun r7 h7 => ?_)
  obtain rfl : r7 = (if isOnS len pt y then (if lc0 = 0 then strS len pt y else localS len pt y) else -1) := h7
  refine lv_i2l hx hb dL_stripAt_10 rfl ?_
  refine lst (n := 1) (j := 0) hx hb hG hP hD hS 5 rfl (by omega) (by omega) dL_stripAt_11 (fun H locs hP hD hS => ?_)
  have hP : va_P D cls [oO xo 5 [.ref lc, .ref lt, .ref bo, .ref yo, .ref no], oO lt 7 [.int m2, .ref et, .int (nI nS)], aO D et 10 (lsF sl nS), oO (sl s0) 3 [.ref co, .int (pt 0), .int (pt 1), .int (pt 3), .int (pt 4), .int (pt 5), .int (pt 6), .int (pt 7), .int (pt 8), .int (pt 9), .int (pt 10), .int (pt 11), .int (pt 12)], oO co 0 [.int len, .ref ta, .ref (q 0), .ref (q 1)], aL D ou 1 (vp_updL wf 0 ((if isOnS len pt y then (if lc0 = 0 then strS len pt y else localS len pt y) else -1).toInt64))] H := hP
  have hD : va_D A [oO xo 5 [.ref lc, .ref lt, .ref bo, .ref yo, .ref no], oO lt 7 [.int m2, .ref et, .int (nI nS)], aO D et 10 (lsF sl nS), oO (sl s0) 3 [.ref co, .int (pt 0), .int (pt 1), .int (pt 3), .int (pt 4), .int (pt 5), .int (pt 6), .int (pt 7), .int (pt 8), .int (pt 9), .int (pt 10), .int (pt 11), .int (pt 12)], oO co 0 [.int len, .ref ta, .ref (q 0), .ref (q 1)], aL D ou 1 (vp_updL wf 0 ((if isOnS len pt y then (if lc0 = 0 then strS len pt y else localS len pt y) else -1).toInt64))] := hD
  refine lv_goto (tgt := 23) hx hb dL_stripAt_12 (by decide) ?_
  refine lv_iconst (v := 0) hx hb dL_stripAt_23 (by decide) ?_
  refine Wi () hx hb hr hlk ?_ hP hD hS (Nat.le_of_ble_eq_true rfl) (by first | exact Nat.le_of_ble_eq_true rfl | exact Nat.le_of_eq (Nat.zero_add _)) dL_stripAt_24
  exact rfl
set_option maxHeartbeats 400000 in
set_option maxRecDepth 100000 in
theorem h_at_1 (l : Launch) (D : va_G) (hns : l.stackTraces = false) {xo : Nat} {p1 x : Int32} {lc lt bo yo no : Nat} {ou : Nat} (hz0 : Nat) (h : ¬ ((0 : Int32) ≤ p1 ∧ p1 ≤ 3)) : Met l yL_at (wsW_ yL_at cL_at 5 (some .int) [(0, 10, 13, 21), (0, 10, 17, 13)]) ({ frames := 7, cells := 1, slots := 6, locals := 174 } : Room) (va_Pc [.ref xo, .int p1, .int x, .ref ou] (TW D [oO xo 5 [.ref lc, .ref lt, .ref bo, .ref yo, .ref no]] hz0)) (va_Qi (fun r (_ : Unit) => r = 1) (fun _ _ => True) (va_A [] hz0)) 1 6 (va_A [] hz0) := by
  refine va_MetW (hh := [(0, 10, 13, 21), (0, 10, 17, 13)]) (cc := cL_at) (maxL := 5) (ret := (some .int)) (by decide +kernel) rfl ?_
  intro p e s m args below meth c s₁ B hml hv
  obtain ⟨rfl, hsz, hG, hP, hZ⟩ := hv
  subst hsz
  have hx := B.exec
  have hb := B.bytes
  have hr := B.returns
  have hts : ∀ w ∈ wsL_law, w.before _ s = true := fun w h => atoms_spec (ws := (wsW_ yL_at cL_at 5 (some .int) [(0, 10, 13, 21), (0, 10, 17, 13)])) B.pre w (List.mem_cons_of_mem _ (wsL2_in w h))
  have hk15 : (Cond.classLink RL 15 "java/lang/IllegalStateException").before _ s = true := atoms_spec (ws := (wsW_ yL_at cL_at 5 (some .int) [(0, 10, 13, 21), (0, 10, 17, 13)])) B.pre _ (List.mem_cons_of_mem _ List.mem_cons_self)
  have hown : s.vm.findClass RL = some m.cls := findClass_of_methodNamed B.named
  have hlk := B.notSynchronized
  have hC : CallFix p m c cL_at 5 s _ wsL_law RL := ⟨hx, hb, hml, hown, hts⟩
  have hS : va_S (va_A [] s.heap.size) s.heap s.heap [] := va_S.rf
  have hl := lv_entry ([.ref xo, .int p1, .int x, .ref ou]) (n := 5) (Nat.le_of_ble_eq_true rfl)
  rw [lg_entry_eq]
  generalize (lg_sl ([.ref xo, .int p1, .int x, .ref ou]) ++ List.replicate (5 - (lg_sl ([.ref xo, .int p1, .int x, .ref ou])).length) Slot.unset).toArray = ls at hl ⊢
  have hl : lv_has ls 5 [(0, .ref xo), (1, .int p1), (2, .int x), (3, .ref ou)] := hl
  refine lv_aload_n hx hb dL_at_0 rfl (lv_at hl 3 rfl) ?_
  refine lv_iconst (v := 0) hx hb dL_at_1 (by decide) ?_
  refine lv_aload_n hx hb dL_at_2 rfl (lv_at hl 0 rfl) ?_
  refine lv_iload_n hx hb dL_at_3 rfl (lv_at hl 1 rfl) ?_
  refine lv_iload_n hx hb dL_at_4 rfl (lv_at hl 2 rfl) ?_
  have hP9 : va_P D cls [] s.heap := fun k q h => by simp at h
  refine vx_calli (A0 := va_A [] s.heap.size) (rX (rest := [.int 0, .ref ou]) (qc := (RX5, TX5, 5)) [.int p1, .int x] 2 hC (t_at_1 l D hns (xo := xo) (p1 := p1) (x := x) (hz0 := s.heap.size) (h)) rfl (hP 0 _ rfl) (gV mM_L_82 mI_X5_at mS_X5_at mN_X5 mC_X5_at) (by decide +kernel) rfl rfl ⟨Nat.le_of_ble_eq_true rfl, Nat.le_of_ble_eq_true rfl⟩ hG hP9 hZ rfl hl.1 rfl (Nat.le_of_ble_eq_true rfl) dL_at_5 ⟨Nat.le_of_ble_eq_true rfl, Nat.le_of_ble_eq_true rfl⟩) hS (fun q _ h => h) (fun q h => h) (fun q _ h => h) (fun E ce q9 u9 t H1 locs1 ht hvm hp9 hB hz hk hS1 hce hcv hcl => ?_) (fun r u t H1 locs1 ht hvm hp9 _ _ _ _ => hp9.elim)
  obtain rfl : E = "java/lang/IndexOutOfBoundsException" := hB
  have htb := vx_table (x := yL_at) B (hts _ mW_L_at)
  refine vx_catch (own := RL) (name := "java/lang/IndexOutOfBoundsException") (pc := 5) (rest := [.int 0, .ref ou]) hown [] ⟨0, 10, 13, 21⟩ [⟨0, 10, 17, 13⟩] (by rw [htb]; rfl) (fun z hz9 => absurd hz9 List.not_mem_nil) rfl (by decide) (hts _ mK_L_21) (va_Nw.use rfl (gkC hG 4 rfl)) hce hcv hcl ?_
  refine lv_astore (lv' := [(4, .ref q9), (0, .ref xo), (1, .int p1), (2, .int x), (3, .ref ou)]) hx hb dL_at_13 hl (by decide) rfl (fun ls hl => ?_)
  refine lv_iconst (v := 1) hx hb dL_at_15 (by decide) ?_
  exact W.iret (v := 1) hx hb hr (fun t ht _ => ⟨⟨_, (), rfl, rfl, trivial⟩, hS1.F ht⟩) hS1.2.2 dL_at_16 hlk
set_option maxHeartbeats 400000 in
set_option maxRecDepth 100000 in
theorem h_at_2 (l : Launch) (D : va_G) (hns : l.stackTraces = false) {xo : Nat} {p1 x : Int32} {lc lt bo yo no : Nat} {ou : Nat} (hz0 : Nat) (h : (0 : Int32) ≤ p1 ∧ p1 ≤ 3) (hh : ¬ ((0 : Int32) ≤ x ∧ x ≤ 100000)) : Met l yL_at (wsW_ yL_at cL_at 5 (some .int) [(0, 10, 13, 21), (0, 10, 17, 13)]) ({ frames := 7, cells := 1, slots := 6, locals := 174 } : Room) (va_Pc [.ref xo, .int p1, .int x, .ref ou] (TW D [oO xo 5 [.ref lc, .ref lt, .ref bo, .ref yo, .ref no]] hz0)) (va_Qi (fun r (_ : Unit) => r = 2) (fun _ _ => True) (va_A [] hz0)) 1 6 (va_A [] hz0) := by
  refine va_MetW (hh := [(0, 10, 13, 21), (0, 10, 17, 13)]) (cc := cL_at) (maxL := 5) (ret := (some .int)) (by decide +kernel) rfl ?_
  intro p e s m args below meth c s₁ B hml hv
  obtain ⟨rfl, hsz, hG, hP, hZ⟩ := hv
  subst hsz
  have hx := B.exec
  have hb := B.bytes
  have hr := B.returns
  have hts : ∀ w ∈ wsL_law, w.before _ s = true := fun w h => atoms_spec (ws := (wsW_ yL_at cL_at 5 (some .int) [(0, 10, 13, 21), (0, 10, 17, 13)])) B.pre w (List.mem_cons_of_mem _ (wsL2_in w h))
  have hk15 : (Cond.classLink RL 15 "java/lang/IllegalStateException").before _ s = true := atoms_spec (ws := (wsW_ yL_at cL_at 5 (some .int) [(0, 10, 13, 21), (0, 10, 17, 13)])) B.pre _ (List.mem_cons_of_mem _ List.mem_cons_self)
  have hown : s.vm.findClass RL = some m.cls := findClass_of_methodNamed B.named
  have hlk := B.notSynchronized
  have hC : CallFix p m c cL_at 5 s _ wsL_law RL := ⟨hx, hb, hml, hown, hts⟩
  have hS : va_S (va_A [] s.heap.size) s.heap s.heap [] := va_S.rf
  have hl := lv_entry ([.ref xo, .int p1, .int x, .ref ou]) (n := 5) (Nat.le_of_ble_eq_true rfl)
  rw [lg_entry_eq]
  generalize (lg_sl ([.ref xo, .int p1, .int x, .ref ou]) ++ List.replicate (5 - (lg_sl ([.ref xo, .int p1, .int x, .ref ou])).length) Slot.unset).toArray = ls at hl ⊢
  have hl : lv_has ls 5 [(0, .ref xo), (1, .int p1), (2, .int x), (3, .ref ou)] := hl
  refine lv_aload_n hx hb dL_at_0 rfl (lv_at hl 3 rfl) ?_
  refine lv_iconst (v := 0) hx hb dL_at_1 (by decide) ?_
  refine lv_aload_n hx hb dL_at_2 rfl (lv_at hl 0 rfl) ?_
  refine lv_iload_n hx hb dL_at_3 rfl (lv_at hl 1 rfl) ?_
  refine lv_iload_n hx hb dL_at_4 rfl (lv_at hl 2 rfl) ?_
  have hP9 : va_P D cls [] s.heap := fun k q h => by simp at h
  refine vx_calli (A0 := va_A [] s.heap.size) (rX (rest := [.int 0, .ref ou]) (qc := (RX5, TX5, 5)) [.int p1, .int x] 2 hC (t_at_2 l D hns (xo := xo) (p1 := p1) (x := x) (hz0 := s.heap.size) (h) (hh)) rfl (hP 0 _ rfl) (gV mM_L_82 mI_X5_at mS_X5_at mN_X5 mC_X5_at) (by decide +kernel) rfl rfl ⟨Nat.le_of_ble_eq_true rfl, Nat.le_of_ble_eq_true rfl⟩ hG hP9 hZ rfl hl.1 rfl (Nat.le_of_ble_eq_true rfl) dL_at_5 ⟨Nat.le_of_ble_eq_true rfl, Nat.le_of_ble_eq_true rfl⟩) hS (fun q _ h => h) (fun q h => h) (fun q _ h => h) (fun E ce q9 u9 t H1 locs1 ht hvm hp9 hB hz hk hS1 hce hcv hcl => ?_) (fun r u t H1 locs1 ht hvm hp9 _ _ _ _ => hp9.elim)
  obtain rfl : E = "java/lang/IllegalArgumentException" := hB
  have htb := vx_table (x := yL_at) B (hts _ mW_L_at)
  refine vx_catch (own := RL) (name := "java/lang/IllegalArgumentException") (pc := 5) (rest := [.int 0, .ref ou]) hown [⟨0, 10, 13, 21⟩] ⟨0, 10, 17, 13⟩ [] (by rw [htb]; rfl) (fun z hz9 => by
    simp only [List.mem_cons, List.not_mem_nil, or_false] at hz9
    rcases hz9 with rfl
    · exact Or.inr ⟨by decide, _, hts _ mK_L_21, gkN hG 1 rfl⟩) rfl (by decide) (hts _ mK_L_13) (va_Nw.use rfl (gkC hG 2 rfl)) hce hcv hcl ?_
  refine lv_astore (lv' := [(4, .ref q9), (0, .ref xo), (1, .int p1), (2, .int x), (3, .ref ou)]) hx hb dL_at_17 hl (by decide) rfl (fun ls hl => ?_)
  refine lv_iconst (v := 2) hx hb dL_at_19 (by decide) ?_
  exact W.iret (v := 2) hx hb hr (fun t ht _ => ⟨⟨_, (), rfl, rfl, trivial⟩, hS1.F ht⟩) hS1.2.2 dL_at_20 hlk
set_option maxHeartbeats 400000 in
set_option maxRecDepth 100000 in
theorem l_at (l : Launch) (D : va_G) {xo lc lt bo yo no : Nat} {et nS : Nat} {m2 : Int32} {sl ck cl ta : Nat → Nat} {pt : Nat → Nat → Int32} {len : Nat → Int32} {q : Nat → Nat → Nat} {t r a sz : Nat → Nat → Nat} {f : Nat → Nat → Nat → Int32} {ba ya n0 j : Nat} {bf yf : Nat → Int32} {x : Int32} {ou : Nat} {wf : Nat → Int64} (hz0 : Nat) (hnS : nS ≤ 10) (hn0 : n0 ≤ 10) (hj : j < 4) (h : (0 : Int32) ≤ x ∧ x ≤ 100000) (hp : ∀ i, i < nS → 0 < pt i 5) (hq : ∀ i, i < nS → 0 < pt i 6) (hln : ∀ i, i < nS → 0 < len (ck i)) (h16 : ∀ i, i < nS → sz (ck i) j ≤ 16) (hT : ∀ i, i < nS → tOK (f (ck i) (3 * j)) (sz (ck i) j)) (hF : ∀ i, i < nS → isOnS (len (ck i)) (pt i) x → fadesOK (len (ck i)) (pt i) x) : Met l yL_at (wsW_ yL_at cL_at 5 (some .int) [(0, 10, 13, 21), (0, 10, 17, 13)]) ({ frames := 7, cells := 0, slots := 0, locals := 174 } : Room) (va_Pc [.ref xo, .int (nI j), .int x, .ref ou] (SX D [oO xo 5 [.ref lc, .ref lt, .ref bo, .ref yo, .ref no], oO lt 7 [.int m2, .ref et, .int (nI nS)], oO yo 2 [.ref ya, .int (nI n0)], aI D ya 10 yf, oO bo 2 [.ref ba, .int (nI 4)], aI D ba 4 bf, aL D ou 1 wf] hz0 (FX D nS (fun i => [aO D et 10 (lsF sl nS), oO (sl i) 3 [.ref (cl (ck i)), .int (pt i 0), .int (pt i 1), .int (pt i 3), .int (pt i 4), .int (pt i 5), .int (pt i 6), .int (pt i 7), .int (pt i 8), .int (pt i 9), .int (pt i 10), .int (pt i 11), .int (pt i 12)], oO (cl (ck i)) 0 [.int (len (ck i)), .ref (ta (ck i)), .ref (q (ck i) 0), .ref (q (ck i) 1)], aT D (ta (ck i)) 4 (tkF (t (ck i))), oO (t (ck i) j) 4 [.ref (r (ck i) (3 * j)), .ref (r (ck i) (3 * j + 1)), .ref (r (ck i) (3 * j + 2))], oO (r (ck i) (3 * j)) 2 [.ref (a (ck i) (3 * j)), .int (nI (sz (ck i) j))], oO (r (ck i) (3 * j + 1)) 2 [.ref (a (ck i) (3 * j + 1)), .int (nI (sz (ck i) j))], oO (r (ck i) (3 * j + 2)) 2 [.ref (a (ck i) (3 * j + 2)), .int (nI (sz (ck i) j))], aI D (a (ck i) (3 * j)) 16 (f (ck i) (3 * j)), aI D (a (ck i) (3 * j + 1)) 16 (f (ck i) (3 * j + 1)), aI D (a (ck i) (3 * j + 2)) 16 (f (ck i) (3 * j + 2))]) (va_A [oO xo 5 [.ref lc, .ref lt, .ref bo, .ref yo, .ref no], oO lt 7 [.int m2, .ref et, .int (nI nS)], oO yo 2 [.ref ya, .int (nI n0)], aI D ya 10 yf, oO bo 2 [.ref ba, .int (nI 4)], aI D ba 4 bf, aL D ou 1 wf] hz0)))) (va_Qi (fun r _ => r = 0) (AT D (va_A [oO xo 5 [.ref lc, .ref lt, .ref bo, .ref yo, .ref no], oO lt 7 [.int m2, .ref et, .int (nI nS)], oO yo 2 [.ref ya, .int (nI n0)], aI D ya 10 yf, oO bo 2 [.ref ba, .int (nI 4)], aI D ba 4 bf, aL D ou 1 wf] hz0) (fun g : Nat → Int32 => [oO xo 5 [.ref lc, .ref lt, .ref bo, .ref yo, .ref no], oO lt 7 [.int m2, .ref et, .int (nI nS)], oO yo 2 [.ref ya, .int (nI (lyT (fun z => pt z 7) nS 10).length)], aI D ya 10 g, oO bo 2 [.ref ba, .int (nI 4)], aI D ba 4 bf, aL D ou 1 (vp_updL wf 0 (valL (fun z v => blendS (len (ck z)) (pt z) (sz (ck z) j) (f (ck z) (3 * j)) (f (ck z) (3 * j + 1)) (f (ck z) (3 * j + 2)) v x) (lyT (fun z => pt z 7) nS 10) (bf j) (lyT (fun z => pt z 7) nS 10).length).toInt64)])) (va_A [oO xo 5 [.ref lc, .ref lt, .ref bo, .ref yo, .ref no], oO lt 7 [.int m2, .ref et, .int (nI nS)], oO yo 2 [.ref ya, .int (nI n0)], aI D ya 10 yf, oO bo 2 [.ref ba, .int (nI 4)], aI D ba 4 bf, aL D ou 1 wf] hz0)) 0 0 (va_A [oO xo 5 [.ref lc, .ref lt, .ref bo, .ref yo, .ref no], oO lt 7 [.int m2, .ref et, .int (nI nS)], oO yo 2 [.ref ya, .int (nI n0)], aI D ya 10 yf, oO bo 2 [.ref ba, .int (nI 4)], aI D ba 4 bf, aL D ou 1 wf] hz0) := by
  refine va_MetW (hh := [(0, 10, 13, 21), (0, 10, 17, 13)]) (cc := cL_at) (maxL := 5) (ret := (some .int)) (by decide +kernel) rfl ?_
  intro p e s m args below meth c s₁ B hml hv
  obtain ⟨rfl, ⟨hsz, hG, hP, hD0⟩, hX⟩ := hv
  have hx := B.exec
  have hb := B.bytes
  have hr := B.returns
  have hts : ∀ w ∈ wsL_law, w.before _ s = true := fun w h => atoms_spec (ws := (wsW_ yL_at cL_at 5 (some .int) [(0, 10, 13, 21), (0, 10, 17, 13)])) B.pre w (List.mem_cons_of_mem _ (wsL2_in w h))
  have hown : s.vm.findClass RL = some m.cls := findClass_of_methodNamed B.named
  have hlk := B.notSynchronized
  have hC : CallFix p m c cL_at 5 s _ wsL_law RL := ⟨hx, hb, hml, hown, hts⟩
  subst hsz
  have hD := hD0.self (sz := s.heap.size)
  generalize hAe : va_A [oO xo 5 [.ref lc, .ref lt, .ref bo, .ref yo, .ref no], oO lt 7 [.int m2, .ref et, .int (nI nS)], oO yo 2 [.ref ya, .int (nI n0)], aI D ya 10 yf, oO bo 2 [.ref ba, .int (nI 4)], aI D ba 4 bf, aL D ou 1 wf] s.heap.size = A at hD hX ⊢
  have hA : ∀ q : Nat, s.heap.size ≤ q → A q := fun q h => by rw [← hAe]; exact Or.inr h
  have hS : va_S A s.heap s.heap [] := va_S.rf
  obtain ⟨H, hHe⟩ : ∃ H, H = s.heap := ⟨_, rfl⟩
  rw [← hHe] at hP
  have hS : va_S A s.heap H [] := by rw [hHe]; exact hS
  have hl := lv_entry ([.ref xo, .int (nI j), .int x, .ref ou]) (n := 5) (Nat.le_of_ble_eq_true rfl)
  rw [lg_entry_eq]
  generalize (lg_sl ([.ref xo, .int (nI j), .int x, .ref ou]) ++ List.replicate (5 - (lg_sl ([.ref xo, .int (nI j), .int x, .ref ou])).length) Slot.unset).toArray = ls at hl ⊢
  have hl : lv_has ls 5 [(0, .ref xo), (1, .int (nI j)), (2, .int x), (3, .ref ou)] := hl
  rw [← hHe]
  refine lv_aload_n hx hb dL_at_0 rfl (lv_at hl 3 rfl) ?_
  refine lv_iconst (v := 0) hx hb dL_at_1 (by decide) ?_
  refine lv_aload_n hx hb dL_at_2 rfl (lv_at hl 0 rfl) ?_
  refine lv_iload_n hx hb dL_at_3 rfl (lv_at hl 1 rfl) ?_
  refine lv_iload_n hx hb dL_at_4 rfl (lv_at hl 2 rfl) ?_
  have hP9 := hP.sub (ws' := [oO xo 5 [.ref lc, .ref lt, .ref bo, .ref yo, .ref no], oO lt 7 [.int m2, .ref et, .int (nI nS)], oO yo 2 [.ref ya, .int (nI n0)], aI D ya 10 yf, oO bo 2 [.ref ba, .int (nI 4)], aI D ba 4 bf]) [0, 1, 2, 3, 4, 5] rfl
  have hD9 := (hD.sub (ws' := [oO xo 5 [.ref lc, .ref lt, .ref bo, .ref yo, .ref no], oO lt 7 [.int m2, .ref et, .int (nI nS)], oO yo 2 [.ref ya, .int (nI n0)], aI D ya 10 yf, oO bo 2 [.ref ba, .int (nI 4)], aI D ba 4 bf]) [0, 1, 2, 3, 4, 5] (by decide) rfl).weaken (B := fun _ => True) (fun _ _ _ _ => trivial)
  refine ki (wr := [aL D ou 1 wf]) (rVX (FX.blind) (FX.pre hX hS (va_free' hD hS hA [0, 1, 2, 3, 4, 5] rfl).2) (rest := [.int 0, .ref ou]) (qc := (RX5, TX5, 5)) [.int (nI j), .int x] 2 0 0 hC (c_at l D (xo := xo) (lc := lc) (lt := lt) (bo := bo) (yo := yo) (no := no) (et := et) (nS := nS) (m2 := m2) (sl := sl) (ck := ck) (cl := cl) (ta := ta) (pt := pt) (len := len) (q := q) (t := t) (r := r) (a := a) (sz := sz) (f := f) (ba := ba) (ya := ya) (n0 := n0) (j := j) (bf := bf) (yf := yf) (x := x) (hz0 := H.size) (hnS) (hn0) (hj) (h) (hp) (hq) (hln) (h16) (hT) (hF)) rfl (hP 0 _ rfl) (gV mM_L_82 mI_X5_at mS_X5_at mN_X5 mC_X5_at) (by decide +kernel) rfl rfl ⟨Nat.le_of_ble_eq_true rfl, Nat.le_of_ble_eq_true rfl⟩ hG hP9 hD9 rfl hl.1 rfl (Nat.le_of_ble_eq_true rfl) dL_at_5 ⟨Nat.le_of_ble_eq_true rfl, Nat.le_of_ble_eq_true rfl⟩) hP hD hS hA [0, 1, 2, 3, 4, 5] [6] rfl rfl (by decide) (by decide) (fun r5 u5 H locs h5 hP hD hS hz hfr => ?_)
  obtain ⟨g, rfl⟩ : ∃ z, z = u5 := ⟨_, rfl⟩
  have hP : va_P D cls [aL D ou 1 wf, oO xo 5 [.ref lc, .ref lt, .ref bo, .ref yo, .ref no], oO lt 7 [.int m2, .ref et, .int (nI nS)], oO yo 2 [.ref ya, .int (nI (lyT (fun z => pt z 7) nS 10).length)], aI D ya 10 g, oO bo 2 [.ref ba, .int (nI 4)], aI D ba 4 bf] H := hP
  have hD : va_D A [aL D ou 1 wf, oO xo 5 [.ref lc, .ref lt, .ref bo, .ref yo, .ref no], oO lt 7 [.int m2, .ref et, .int (nI nS)], oO yo 2 [.ref ya, .int (nI (lyT (fun z => pt z 7) nS 10).length)], aI D ya 10 g, oO bo 2 [.ref ba, .int (nI 4)], aI D ba 4 bf] := hD
  obtain rfl : r5 = (valL (fun z v => blendS (len (ck z)) (pt z) (sz (ck z) j) (f (ck z) (3 * j)) (f (ck z) (3 * j + 1)) (f (ck z) (3 * j + 2)) v x) (lyT (fun z => pt z 7) nS 10) (bf j) (lyT (fun z => pt z 7) nS 10).length) := h5
  refine lv_i2l hx hb dL_at_8 rfl ?_
  refine lst (n := 1) (j := 0) hx hb hG hP hD hS 0 rfl (by omega) (by omega) dL_at_9 (fun H locs hP hD hS => ?_)
  have hP : va_P D cls [aL D ou 1 (vp_updL wf 0 ((valL (fun z v => blendS (len (ck z)) (pt z) (sz (ck z) j) (f (ck z) (3 * j)) (f (ck z) (3 * j + 1)) (f (ck z) (3 * j + 2)) v x) (lyT (fun z => pt z 7) nS 10) (bf j) (lyT (fun z => pt z 7) nS 10).length).toInt64)), oO xo 5 [.ref lc, .ref lt, .ref bo, .ref yo, .ref no], oO lt 7 [.int m2, .ref et, .int (nI nS)], oO yo 2 [.ref ya, .int (nI (lyT (fun z => pt z 7) nS 10).length)], aI D ya 10 g, oO bo 2 [.ref ba, .int (nI 4)], aI D ba 4 bf] H := hP
  have hD : va_D A [aL D ou 1 (vp_updL wf 0 ((valL (fun z v => blendS (len (ck z)) (pt z) (sz (ck z) j) (f (ck z) (3 * j)) (f (ck z) (3 * j + 1)) (f (ck z) (3 * j + 2)) v x) (lyT (fun z => pt z 7) nS 10) (bf j) (lyT (fun z => pt z 7) nS 10).length).toInt64)), oO xo 5 [.ref lc, .ref lt, .ref bo, .ref yo, .ref no], oO lt 7 [.int m2, .ref et, .int (nI nS)], oO yo 2 [.ref ya, .int (nI (lyT (fun z => pt z 7) nS 10).length)], aI D ya 10 g, oO bo 2 [.ref ba, .int (nI 4)], aI D ba 4 bf] := hD
  refine lv_goto (tgt := 21) hx hb dL_at_10 (by decide) ?_
  refine lv_iconst (v := 0) hx hb dL_at_21 (by decide) ?_
  refine Wi g hx hb hr hlk ?_ (hP.sub [1, 2, 3, 4, 5, 6, 0] rfl) (hD.sub [1, 2, 3, 4, 5, 6, 0] (by decide) rfl) hS (Nat.le_of_ble_eq_true rfl) (by first | exact Nat.le_of_ble_eq_true rfl | exact Nat.le_of_eq (Nat.zero_add _)) dL_at_22
  exact rfl
set_option maxHeartbeats 400000 in
set_option maxRecDepth 100000 in
theorem h_reaches_1 (l : Launch) (D : va_G) (hns : l.stackTraces = false) {xo : Nat} {p1 x y : Int32} {w : Int32} {lc lt bo yo no : Nat} {ou : Nat} (hz0 : Nat) (h : ¬ ((0 : Int32) ≤ p1 ∧ p1 ≤ 3)) : Met l yL_reaches (wsW_ yL_reaches cL_reaches 7 (some .int) [(0, 14, 17, 21), (0, 14, 21, 13)]) ({ frames := 7, cells := 1, slots := 6, locals := 177 } : Room) (va_Pc [.ref xo, .int p1, .int x, .int y, .int w, .ref ou] (TW D [oO xo 5 [.ref lc, .ref lt, .ref bo, .ref yo, .ref no]] hz0)) (va_Qi (fun r (_ : Unit) => r = 1) (fun _ _ => True) (va_A [] hz0)) 1 6 (va_A [] hz0) := by
  refine va_MetW (hh := [(0, 14, 17, 21), (0, 14, 21, 13)]) (cc := cL_reaches) (maxL := 7) (ret := (some .int)) (by decide +kernel) rfl ?_
  intro p e s m args below meth c s₁ B hml hv
  obtain ⟨rfl, hsz, hG, hP, hZ⟩ := hv
  subst hsz
  have hx := B.exec
  have hb := B.bytes
  have hr := B.returns
  have hts : ∀ w ∈ wsL_law, w.before _ s = true := fun w h => atoms_spec (ws := (wsW_ yL_reaches cL_reaches 7 (some .int) [(0, 14, 17, 21), (0, 14, 21, 13)])) B.pre w (List.mem_cons_of_mem _ (wsL2_in w h))
  have hk15 : (Cond.classLink RL 15 "java/lang/IllegalStateException").before _ s = true := atoms_spec (ws := (wsW_ yL_reaches cL_reaches 7 (some .int) [(0, 14, 17, 21), (0, 14, 21, 13)])) B.pre _ (List.mem_cons_of_mem _ List.mem_cons_self)
  have hown : s.vm.findClass RL = some m.cls := findClass_of_methodNamed B.named
  have hlk := B.notSynchronized
  have hC : CallFix p m c cL_reaches 7 s _ wsL_law RL := ⟨hx, hb, hml, hown, hts⟩
  have hS : va_S (va_A [] s.heap.size) s.heap s.heap [] := va_S.rf
  have hl := lv_entry ([.ref xo, .int p1, .int x, .int y, .int w, .ref ou]) (n := 7) (Nat.le_of_ble_eq_true rfl)
  rw [lg_entry_eq]
  generalize (lg_sl ([.ref xo, .int p1, .int x, .int y, .int w, .ref ou]) ++ List.replicate (7 - (lg_sl ([.ref xo, .int p1, .int x, .int y, .int w, .ref ou])).length) Slot.unset).toArray = ls at hl ⊢
  have hl : lv_has ls 7 [(0, .ref xo), (1, .int p1), (2, .int x), (3, .int y), (4, .int w), (5, .ref ou)] := hl
  refine lv_aload hx hb dL_reaches_0 (lv_at hl 5 rfl) ?_
  refine lv_iconst (v := 0) hx hb dL_reaches_2 (by decide) ?_
  refine lv_aload_n hx hb dL_reaches_3 rfl (lv_at hl 0 rfl) ?_
  refine lv_iload_n hx hb dL_reaches_4 rfl (lv_at hl 1 rfl) ?_
  refine lv_iload_n hx hb dL_reaches_5 rfl (lv_at hl 2 rfl) ?_
  refine lv_iload_n hx hb dL_reaches_6 rfl (lv_at hl 3 rfl) ?_
  refine lv_iload hx hb dL_reaches_7 (lv_at hl 4 rfl) ?_
  have hP9 : va_P D cls [] s.heap := fun k q h => by simp at h
  refine vx_calli (A0 := va_A [] s.heap.size) (rX (rest := [.int 0, .ref ou]) (qc := (RX5, TX5, 5)) [.int p1, .int x, .int y, .int w] 4 hC (t_reaches_1 l D hns (xo := xo) (p1 := p1) (x := x) (y := y) (w := w) (hz0 := s.heap.size) (h)) rfl (hP 0 _ rfl) (gV mM_L_85 mI_X5_reaches mS_X5_reaches mN_X5 mC_X5_reaches) (by decide +kernel) rfl rfl ⟨Nat.le_of_ble_eq_true rfl, Nat.le_of_ble_eq_true rfl⟩ hG hP9 hZ rfl hl.1 rfl (Nat.le_of_ble_eq_true rfl) dL_reaches_9 ⟨Nat.le_of_ble_eq_true rfl, Nat.le_of_ble_eq_true rfl⟩) hS (fun q _ h => h) (fun q h => h) (fun q _ h => h) (fun E ce q9 u9 t H1 locs1 ht hvm hp9 hB hz hk hS1 hce hcv hcl => ?_) (fun r u t H1 locs1 ht hvm hp9 _ _ _ _ => hp9.elim)
  obtain rfl : E = "java/lang/IndexOutOfBoundsException" := hB
  have htb := vx_table (x := yL_reaches) B (hts _ mW_L_reaches)
  refine vx_catch (own := RL) (name := "java/lang/IndexOutOfBoundsException") (pc := 9) (rest := [.int 0, .ref ou]) hown [] ⟨0, 14, 17, 21⟩ [⟨0, 14, 21, 13⟩] (by rw [htb]; rfl) (fun z hz9 => absurd hz9 List.not_mem_nil) rfl (by decide) (hts _ mK_L_21) (va_Nw.use rfl (gkC hG 4 rfl)) hce hcv hcl ?_
  refine lv_astore (lv' := [(6, .ref q9), (0, .ref xo), (1, .int p1), (2, .int x), (3, .int y), (4, .int w), (5, .ref ou)]) hx hb dL_reaches_17 hl (by decide) rfl (fun ls hl => ?_)
  refine lv_iconst (v := 1) hx hb dL_reaches_19 (by decide) ?_
  exact W.iret (v := 1) hx hb hr (fun t ht _ => ⟨⟨_, (), rfl, rfl, trivial⟩, hS1.F ht⟩) hS1.2.2 dL_reaches_20 hlk
set_option maxHeartbeats 400000 in
set_option maxRecDepth 100000 in
theorem h_reaches_2 (l : Launch) (D : va_G) (hns : l.stackTraces = false) {xo : Nat} {p1 x y : Int32} {w : Int32} {lc lt bo yo no : Nat} {ou : Nat} (hz0 : Nat) (h : (0 : Int32) ≤ p1 ∧ p1 ≤ 3) (hh : ¬ (((0 : Int32) ≤ x ∧ x ≤ 100000) ∧ (x ≤ y ∧ y ≤ x + 300))) : Met l yL_reaches (wsW_ yL_reaches cL_reaches 7 (some .int) [(0, 14, 17, 21), (0, 14, 21, 13)]) ({ frames := 7, cells := 1, slots := 6, locals := 177 } : Room) (va_Pc [.ref xo, .int p1, .int x, .int y, .int w, .ref ou] (TW D [oO xo 5 [.ref lc, .ref lt, .ref bo, .ref yo, .ref no]] hz0)) (va_Qi (fun r (_ : Unit) => r = 2) (fun _ _ => True) (va_A [] hz0)) 1 6 (va_A [] hz0) := by
  refine va_MetW (hh := [(0, 14, 17, 21), (0, 14, 21, 13)]) (cc := cL_reaches) (maxL := 7) (ret := (some .int)) (by decide +kernel) rfl ?_
  intro p e s m args below meth c s₁ B hml hv
  obtain ⟨rfl, hsz, hG, hP, hZ⟩ := hv
  subst hsz
  have hx := B.exec
  have hb := B.bytes
  have hr := B.returns
  have hts : ∀ w ∈ wsL_law, w.before _ s = true := fun w h => atoms_spec (ws := (wsW_ yL_reaches cL_reaches 7 (some .int) [(0, 14, 17, 21), (0, 14, 21, 13)])) B.pre w (List.mem_cons_of_mem _ (wsL2_in w h))
  have hk15 : (Cond.classLink RL 15 "java/lang/IllegalStateException").before _ s = true := atoms_spec (ws := (wsW_ yL_reaches cL_reaches 7 (some .int) [(0, 14, 17, 21), (0, 14, 21, 13)])) B.pre _ (List.mem_cons_of_mem _ List.mem_cons_self)
  have hown : s.vm.findClass RL = some m.cls := findClass_of_methodNamed B.named
  have hlk := B.notSynchronized
  have hC : CallFix p m c cL_reaches 7 s _ wsL_law RL := ⟨hx, hb, hml, hown, hts⟩
  have hS : va_S (va_A [] s.heap.size) s.heap s.heap [] := va_S.rf
  have hl := lv_entry ([.ref xo, .int p1, .int x, .int y, .int w, .ref ou]) (n := 7) (Nat.le_of_ble_eq_true rfl)
  rw [lg_entry_eq]
  generalize (lg_sl ([.ref xo, .int p1, .int x, .int y, .int w, .ref ou]) ++ List.replicate (7 - (lg_sl ([.ref xo, .int p1, .int x, .int y, .int w, .ref ou])).length) Slot.unset).toArray = ls at hl ⊢
  have hl : lv_has ls 7 [(0, .ref xo), (1, .int p1), (2, .int x), (3, .int y), (4, .int w), (5, .ref ou)] := hl
  refine lv_aload hx hb dL_reaches_0 (lv_at hl 5 rfl) ?_
  refine lv_iconst (v := 0) hx hb dL_reaches_2 (by decide) ?_
  refine lv_aload_n hx hb dL_reaches_3 rfl (lv_at hl 0 rfl) ?_
  refine lv_iload_n hx hb dL_reaches_4 rfl (lv_at hl 1 rfl) ?_
  refine lv_iload_n hx hb dL_reaches_5 rfl (lv_at hl 2 rfl) ?_
  refine lv_iload_n hx hb dL_reaches_6 rfl (lv_at hl 3 rfl) ?_
  refine lv_iload hx hb dL_reaches_7 (lv_at hl 4 rfl) ?_
  have hP9 : va_P D cls [] s.heap := fun k q h => by simp at h
  refine vx_calli (A0 := va_A [] s.heap.size) (rX (rest := [.int 0, .ref ou]) (qc := (RX5, TX5, 5)) [.int p1, .int x, .int y, .int w] 4 hC (t_reaches_2 l D hns (xo := xo) (p1 := p1) (x := x) (y := y) (w := w) (hz0 := s.heap.size) (h) (hh)) rfl (hP 0 _ rfl) (gV mM_L_85 mI_X5_reaches mS_X5_reaches mN_X5 mC_X5_reaches) (by decide +kernel) rfl rfl ⟨Nat.le_of_ble_eq_true rfl, Nat.le_of_ble_eq_true rfl⟩ hG hP9 hZ rfl hl.1 rfl (Nat.le_of_ble_eq_true rfl) dL_reaches_9 ⟨Nat.le_of_ble_eq_true rfl, Nat.le_of_ble_eq_true rfl⟩) hS (fun q _ h => h) (fun q h => h) (fun q _ h => h) (fun E ce q9 u9 t H1 locs1 ht hvm hp9 hB hz hk hS1 hce hcv hcl => ?_) (fun r u t H1 locs1 ht hvm hp9 _ _ _ _ => hp9.elim)
  obtain rfl : E = "java/lang/IllegalArgumentException" := hB
  have htb := vx_table (x := yL_reaches) B (hts _ mW_L_reaches)
  refine vx_catch (own := RL) (name := "java/lang/IllegalArgumentException") (pc := 9) (rest := [.int 0, .ref ou]) hown [⟨0, 14, 17, 21⟩] ⟨0, 14, 21, 13⟩ [] (by rw [htb]; rfl) (fun z hz9 => by
    simp only [List.mem_cons, List.not_mem_nil, or_false] at hz9
    rcases hz9 with rfl
    · exact Or.inr ⟨by decide, _, hts _ mK_L_21, gkN hG 1 rfl⟩) rfl (by decide) (hts _ mK_L_13) (va_Nw.use rfl (gkC hG 2 rfl)) hce hcv hcl ?_
  refine lv_astore (lv' := [(6, .ref q9), (0, .ref xo), (1, .int p1), (2, .int x), (3, .int y), (4, .int w), (5, .ref ou)]) hx hb dL_reaches_21 hl (by decide) rfl (fun ls hl => ?_)
  refine lv_iconst (v := 2) hx hb dL_reaches_23 (by decide) ?_
  exact W.iret (v := 2) hx hb hr (fun t ht _ => ⟨⟨_, (), rfl, rfl, trivial⟩, hS1.F ht⟩) hS1.2.2 dL_reaches_24 hlk
set_option maxHeartbeats 400000 in
set_option maxRecDepth 100000 in
theorem l_reaches (l : Launch) (D : va_G) {xo lc lt bo yo no : Nat} {et nS : Nat} {m2 : Int32} {sl ck cl ta : Nat → Nat} {pt : Nat → Nat → Int32} {len : Nat → Int32} {q : Nat → Nat → Nat} {t r a sz : Nat → Nat → Nat} {f : Nat → Nat → Nat → Int32} {ba ya n0 j : Nat} {bf yf : Nat → Int32} {a0 b0 : Nat} {y : Int32} {vf : Nat → Int32} {ou : Nat} {wf : Nat → Int64} (hz0 : Nat) (hnS : nS ≤ 10) (hn0 : n0 ≤ 10) (hj : j < 4) (ha0 : a0 ≤ 100000) (hab : a0 ≤ b0) (hb3 : b0 ≤ a0 + 300) (hp : ∀ i, i < nS → 0 < pt i 5) (hq : ∀ i, i < nS → 0 < pt i 6) (hln : ∀ i, i < nS → 0 < len (ck i)) (h16 : ∀ i, i < nS → sz (ck i) j ≤ 16) (hT : ∀ i, i < nS → tOK (f (ck i) (3 * j)) (sz (ck i) j)) (hF : ∀ i, i < nS → ∀ x, a0 ≤ x → x ≤ b0 → isOnS (len (ck i)) (pt i) (nI x) → fadesOK (len (ck i)) (pt i) (nI x)) (hvf : ∀ x, vf x = valL (fun z v => blendS (len (ck z)) (pt z) (sz (ck z) j) (f (ck z) (3 * j)) (f (ck z) (3 * j + 1)) (f (ck z) (3 * j + 2)) v (nI x)) (lyT (fun z => pt z 7) nS 10) (bf j) (lyT (fun z => pt z 7) nS 10).length) : Met l yL_reaches (wsW_ yL_reaches cL_reaches 7 (some .int) [(0, 14, 17, 21), (0, 14, 21, 13)]) ({ frames := 7, cells := 0, slots := 0, locals := 177 } : Room) (va_Pc [.ref xo, .int (nI j), .int (nI a0), .int (nI b0), .int y, .ref ou] (SX D [oO xo 5 [.ref lc, .ref lt, .ref bo, .ref yo, .ref no], oO lt 7 [.int m2, .ref et, .int (nI nS)], oO yo 2 [.ref ya, .int (nI n0)], aI D ya 10 yf, oO bo 2 [.ref ba, .int (nI 4)], aI D ba 4 bf, aL D ou 1 wf] hz0 (FX D nS (fun i => [aO D et 10 (lsF sl nS), oO (sl i) 3 [.ref (cl (ck i)), .int (pt i 0), .int (pt i 1), .int (pt i 3), .int (pt i 4), .int (pt i 5), .int (pt i 6), .int (pt i 7), .int (pt i 8), .int (pt i 9), .int (pt i 10), .int (pt i 11), .int (pt i 12)], oO (cl (ck i)) 0 [.int (len (ck i)), .ref (ta (ck i)), .ref (q (ck i) 0), .ref (q (ck i) 1)], aT D (ta (ck i)) 4 (tkF (t (ck i))), oO (t (ck i) j) 4 [.ref (r (ck i) (3 * j)), .ref (r (ck i) (3 * j + 1)), .ref (r (ck i) (3 * j + 2))], oO (r (ck i) (3 * j)) 2 [.ref (a (ck i) (3 * j)), .int (nI (sz (ck i) j))], oO (r (ck i) (3 * j + 1)) 2 [.ref (a (ck i) (3 * j + 1)), .int (nI (sz (ck i) j))], oO (r (ck i) (3 * j + 2)) 2 [.ref (a (ck i) (3 * j + 2)), .int (nI (sz (ck i) j))], aI D (a (ck i) (3 * j)) 16 (f (ck i) (3 * j)), aI D (a (ck i) (3 * j + 1)) 16 (f (ck i) (3 * j + 1)), aI D (a (ck i) (3 * j + 2)) 16 (f (ck i) (3 * j + 2))]) (va_A [oO xo 5 [.ref lc, .ref lt, .ref bo, .ref yo, .ref no], oO lt 7 [.int m2, .ref et, .int (nI nS)], oO yo 2 [.ref ya, .int (nI n0)], aI D ya 10 yf, oO bo 2 [.ref ba, .int (nI 4)], aI D ba 4 bf, aL D ou 1 wf] hz0)))) (va_Qi (fun r ((vv, g) : Int32 × (Nat → Int32)) => r = 0 ∧ ((∃ x, a0 ≤ x ∧ x ≤ b0 ∧ vv = nI x ∧ y ≤ vf x ∧ ∀ z, a0 ≤ z → z < x → ¬ y ≤ vf z) ∨ (vv = -1 ∧ ∀ z, a0 ≤ z → z ≤ b0 → ¬ y ≤ vf z))) (AT D (va_A [oO xo 5 [.ref lc, .ref lt, .ref bo, .ref yo, .ref no], oO lt 7 [.int m2, .ref et, .int (nI nS)], oO yo 2 [.ref ya, .int (nI n0)], aI D ya 10 yf, oO bo 2 [.ref ba, .int (nI 4)], aI D ba 4 bf, aL D ou 1 wf] hz0) (fun ((vv, g) : Int32 × (Nat → Int32)) => [oO xo 5 [.ref lc, .ref lt, .ref bo, .ref yo, .ref no], oO lt 7 [.int m2, .ref et, .int (nI nS)], oO yo 2 [.ref ya, .int (nI (lyT (fun z => pt z 7) nS 10).length)], aI D ya 10 g, oO bo 2 [.ref ba, .int (nI 4)], aI D ba 4 bf, aL D ou 1 (vp_updL wf 0 (vv).toInt64)])) (va_A [oO xo 5 [.ref lc, .ref lt, .ref bo, .ref yo, .ref no], oO lt 7 [.int m2, .ref et, .int (nI nS)], oO yo 2 [.ref ya, .int (nI n0)], aI D ya 10 yf, oO bo 2 [.ref ba, .int (nI 4)], aI D ba 4 bf, aL D ou 1 wf] hz0)) 0 0 (va_A [oO xo 5 [.ref lc, .ref lt, .ref bo, .ref yo, .ref no], oO lt 7 [.int m2, .ref et, .int (nI nS)], oO yo 2 [.ref ya, .int (nI n0)], aI D ya 10 yf, oO bo 2 [.ref ba, .int (nI 4)], aI D ba 4 bf, aL D ou 1 wf] hz0) := by
  refine va_MetW (hh := [(0, 14, 17, 21), (0, 14, 21, 13)]) (cc := cL_reaches) (maxL := 7) (ret := (some .int)) (by decide +kernel) rfl ?_
  intro p e s m args below meth c s₁ B hml hv
  obtain ⟨rfl, ⟨hsz, hG, hP, hD0⟩, hX⟩ := hv
  have hx := B.exec
  have hb := B.bytes
  have hr := B.returns
  have hts : ∀ w ∈ wsL_law, w.before _ s = true := fun w h => atoms_spec (ws := (wsW_ yL_reaches cL_reaches 7 (some .int) [(0, 14, 17, 21), (0, 14, 21, 13)])) B.pre w (List.mem_cons_of_mem _ (wsL2_in w h))
  have hown : s.vm.findClass RL = some m.cls := findClass_of_methodNamed B.named
  have hlk := B.notSynchronized
  have hC : CallFix p m c cL_reaches 7 s _ wsL_law RL := ⟨hx, hb, hml, hown, hts⟩
  subst hsz
  have hD := hD0.self (sz := s.heap.size)
  generalize hAe : va_A [oO xo 5 [.ref lc, .ref lt, .ref bo, .ref yo, .ref no], oO lt 7 [.int m2, .ref et, .int (nI nS)], oO yo 2 [.ref ya, .int (nI n0)], aI D ya 10 yf, oO bo 2 [.ref ba, .int (nI 4)], aI D ba 4 bf, aL D ou 1 wf] s.heap.size = A at hD hX ⊢
  have hA : ∀ q : Nat, s.heap.size ≤ q → A q := fun q h => by rw [← hAe]; exact Or.inr h
  have hS : va_S A s.heap s.heap [] := va_S.rf
  obtain ⟨H, hHe⟩ : ∃ H, H = s.heap := ⟨_, rfl⟩
  rw [← hHe] at hP
  have hS : va_S A s.heap H [] := by rw [hHe]; exact hS
  have hl := lv_entry ([.ref xo, .int (nI j), .int (nI a0), .int (nI b0), .int y, .ref ou]) (n := 7) (Nat.le_of_ble_eq_true rfl)
  rw [lg_entry_eq]
  generalize (lg_sl ([.ref xo, .int (nI j), .int (nI a0), .int (nI b0), .int y, .ref ou]) ++ List.replicate (7 - (lg_sl ([.ref xo, .int (nI j), .int (nI a0), .int (nI b0), .int y, .ref ou])).length) Slot.unset).toArray = ls at hl ⊢
  have hl : lv_has ls 7 [(0, .ref xo), (1, .int (nI j)), (2, .int (nI a0)), (3, .int (nI b0)), (4, .int y), (5, .ref ou)] := hl
  rw [← hHe]
  refine lv_aload hx hb dL_reaches_0 (lv_at hl 5 rfl) ?_
  refine lv_iconst (v := 0) hx hb dL_reaches_2 (by decide) ?_
  refine lv_aload_n hx hb dL_reaches_3 rfl (lv_at hl 0 rfl) ?_
  refine lv_iload_n hx hb dL_reaches_4 rfl (lv_at hl 1 rfl) ?_
  refine lv_iload_n hx hb dL_reaches_5 rfl (lv_at hl 2 rfl) ?_
  refine lv_iload_n hx hb dL_reaches_6 rfl (lv_at hl 3 rfl) ?_
  refine lv_iload hx hb dL_reaches_7 (lv_at hl 4 rfl) ?_
  have hP9 := hP.sub (ws' := [oO xo 5 [.ref lc, .ref lt, .ref bo, .ref yo, .ref no], oO lt 7 [.int m2, .ref et, .int (nI nS)], oO yo 2 [.ref ya, .int (nI n0)], aI D ya 10 yf, oO bo 2 [.ref ba, .int (nI 4)], aI D ba 4 bf]) [0, 1, 2, 3, 4, 5] rfl
  have hD9 := (hD.sub (ws' := [oO xo 5 [.ref lc, .ref lt, .ref bo, .ref yo, .ref no], oO lt 7 [.int m2, .ref et, .int (nI nS)], oO yo 2 [.ref ya, .int (nI n0)], aI D ya 10 yf, oO bo 2 [.ref ba, .int (nI 4)], aI D ba 4 bf]) [0, 1, 2, 3, 4, 5] (by decide) rfl).weaken (B := fun _ => True) (fun _ _ _ _ => trivial)
  refine ki (wr := [aL D ou 1 wf]) (rVX (FX.blind) (FX.pre hX hS (va_free' hD hS hA [0, 1, 2, 3, 4, 5] rfl).2) (rest := [.int 0, .ref ou]) (qc := (RX5, TX5, 5)) [.int (nI j), .int (nI a0), .int (nI b0), .int y] 4 0 0 hC (c_reaches l D (xo := xo) (lc := lc) (lt := lt) (bo := bo) (yo := yo) (no := no) (et := et) (nS := nS) (m2 := m2) (sl := sl) (ck := ck) (cl := cl) (ta := ta) (pt := pt) (len := len) (q := q) (t := t) (r := r) (a := a) (sz := sz) (f := f) (ba := ba) (ya := ya) (n0 := n0) (j := j) (bf := bf) (yf := yf) (a0 := a0) (b0 := b0) (y := y) (vf := vf) (hz0 := H.size) (hnS) (hn0) (hj) (ha0) (hab) (hb3) (hp) (hq) (hln) (h16) (hT) (hF) (hvf)) rfl (hP 0 _ rfl) (gV mM_L_85 mI_X5_reaches mS_X5_reaches mN_X5 mC_X5_reaches) (by decide +kernel) rfl rfl ⟨Nat.le_of_ble_eq_true rfl, Nat.le_of_ble_eq_true rfl⟩ hG hP9 hD9 rfl hl.1 rfl (Nat.le_of_ble_eq_true rfl) dL_reaches_9 ⟨Nat.le_of_ble_eq_true rfl, Nat.le_of_ble_eq_true rfl⟩) hP hD hS hA [0, 1, 2, 3, 4, 5] [6] rfl rfl (by decide) (by decide) (fun r9 u9 H locs h9 hP hD hS hz hfr => ?_)
  obtain ⟨g, rfl⟩ : ∃ z, z = u9 := ⟨_, rfl⟩
  have hP : va_P D cls [aL D ou 1 wf, oO xo 5 [.ref lc, .ref lt, .ref bo, .ref yo, .ref no], oO lt 7 [.int m2, .ref et, .int (nI nS)], oO yo 2 [.ref ya, .int (nI (lyT (fun z => pt z 7) nS 10).length)], aI D ya 10 g, oO bo 2 [.ref ba, .int (nI 4)], aI D ba 4 bf] H := hP
  have hD : va_D A [aL D ou 1 wf, oO xo 5 [.ref lc, .ref lt, .ref bo, .ref yo, .ref no], oO lt 7 [.int m2, .ref et, .int (nI nS)], oO yo 2 [.ref ya, .int (nI (lyT (fun z => pt z 7) nS 10).length)], aI D ya 10 g, oO bo 2 [.ref ba, .int (nI 4)], aI D ba 4 bf] := hD
  refine lv_i2l hx hb dL_reaches_12 rfl ?_
  refine lst (n := 1) (j := 0) hx hb hG hP hD hS 0 rfl (by omega) (by omega) dL_reaches_13 (fun H locs hP hD hS => ?_)
  have hP : va_P D cls [aL D ou 1 (vp_updL wf 0 r9.toInt64), oO xo 5 [.ref lc, .ref lt, .ref bo, .ref yo, .ref no], oO lt 7 [.int m2, .ref et, .int (nI nS)], oO yo 2 [.ref ya, .int (nI (lyT (fun z => pt z 7) nS 10).length)], aI D ya 10 g, oO bo 2 [.ref ba, .int (nI 4)], aI D ba 4 bf] H := hP
  have hD : va_D A [aL D ou 1 (vp_updL wf 0 r9.toInt64), oO xo 5 [.ref lc, .ref lt, .ref bo, .ref yo, .ref no], oO lt 7 [.int m2, .ref et, .int (nI nS)], oO yo 2 [.ref ya, .int (nI (lyT (fun z => pt z 7) nS 10).length)], aI D ya 10 g, oO bo 2 [.ref ba, .int (nI 4)], aI D ba 4 bf] := hD
  refine lv_goto (tgt := 25) hx hb dL_reaches_14 (by decide) ?_
  refine lv_iconst (v := 0) hx hb dL_reaches_25 (by decide) ?_
  refine Wi (r9, g) hx hb hr hlk ?_ (hP.sub [1, 2, 3, 4, 5, 6, 0] rfl) (hD.sub [1, 2, 3, 4, 5, 6, 0] (by decide) rfl) hS (Nat.le_of_ble_eq_true rfl) (by first | exact Nat.le_of_ble_eq_true rfl | exact Nat.le_of_eq (Nat.zero_add _)) dL_reaches_26
  exact ⟨rfl, h9⟩
set_option maxHeartbeats 400000 in
set_option maxRecDepth 100000 in
theorem h_mean_1 (l : Launch) (D : va_G) (hns : l.stackTraces = false) {xo : Nat} {p1 x y : Int32} {lc lt bo yo no : Nat} {ou : Nat} (hz0 : Nat) (h : ¬ ((0 : Int32) ≤ p1 ∧ p1 ≤ 3)) : Met l yL_mean (wsW_ yL_mean cL_mean 6 (some .int) [(0, 11, 14, 21), (0, 11, 18, 13)]) ({ frames := 7, cells := 1, slots := 6, locals := 178 } : Room) (va_Pc [.ref xo, .int p1, .int x, .int y, .ref ou] (TW D [oO xo 5 [.ref lc, .ref lt, .ref bo, .ref yo, .ref no]] hz0)) (va_Qi (fun r (_ : Unit) => r = 1) (fun _ _ => True) (va_A [] hz0)) 1 6 (va_A [] hz0) := by
  refine va_MetW (hh := [(0, 11, 14, 21), (0, 11, 18, 13)]) (cc := cL_mean) (maxL := 6) (ret := (some .int)) (by decide +kernel) rfl ?_
  intro p e s m args below meth c s₁ B hml hv
  obtain ⟨rfl, hsz, hG, hP, hZ⟩ := hv
  subst hsz
  have hx := B.exec
  have hb := B.bytes
  have hr := B.returns
  have hts : ∀ w ∈ wsL_law, w.before _ s = true := fun w h => atoms_spec (ws := (wsW_ yL_mean cL_mean 6 (some .int) [(0, 11, 14, 21), (0, 11, 18, 13)])) B.pre w (List.mem_cons_of_mem _ (wsL2_in w h))
  have hk15 : (Cond.classLink RL 15 "java/lang/IllegalStateException").before _ s = true := atoms_spec (ws := (wsW_ yL_mean cL_mean 6 (some .int) [(0, 11, 14, 21), (0, 11, 18, 13)])) B.pre _ (List.mem_cons_of_mem _ List.mem_cons_self)
  have hown : s.vm.findClass RL = some m.cls := findClass_of_methodNamed B.named
  have hlk := B.notSynchronized
  have hC : CallFix p m c cL_mean 6 s _ wsL_law RL := ⟨hx, hb, hml, hown, hts⟩
  have hS : va_S (va_A [] s.heap.size) s.heap s.heap [] := va_S.rf
  have hl := lv_entry ([.ref xo, .int p1, .int x, .int y, .ref ou]) (n := 6) (Nat.le_of_ble_eq_true rfl)
  rw [lg_entry_eq]
  generalize (lg_sl ([.ref xo, .int p1, .int x, .int y, .ref ou]) ++ List.replicate (6 - (lg_sl ([.ref xo, .int p1, .int x, .int y, .ref ou])).length) Slot.unset).toArray = ls at hl ⊢
  have hl : lv_has ls 6 [(0, .ref xo), (1, .int p1), (2, .int x), (3, .int y), (4, .ref ou)] := hl
  refine lv_aload hx hb dL_mean_0 (lv_at hl 4 rfl) ?_
  refine lv_iconst (v := 0) hx hb dL_mean_2 (by decide) ?_
  refine lv_aload_n hx hb dL_mean_3 rfl (lv_at hl 0 rfl) ?_
  refine lv_iload_n hx hb dL_mean_4 rfl (lv_at hl 1 rfl) ?_
  refine lv_iload_n hx hb dL_mean_5 rfl (lv_at hl 2 rfl) ?_
  refine lv_iload_n hx hb dL_mean_6 rfl (lv_at hl 3 rfl) ?_
  have hP9 : va_P D cls [] s.heap := fun k q h => by simp at h
  refine vx_calld (A0 := va_A [] s.heap.size) (rX (rest := [.int 0, .ref ou]) (qc := (RX5, TX5, 5)) [.int p1, .int x, .int y] 3 hC (t_mean_1 l D hns (xo := xo) (p1 := p1) (x := x) (y := y) (hz0 := s.heap.size) (h)) rfl (hP 0 _ rfl) (gV mM_L_88 mI_X5_mean mS_X5_mean mN_X5 mC_X5_mean) (by decide +kernel) rfl rfl ⟨Nat.le_of_ble_eq_true rfl, Nat.le_of_ble_eq_true rfl⟩ hG hP9 hZ rfl hl.1 rfl (Nat.le_of_ble_eq_true rfl) dL_mean_7 ⟨Nat.le_of_ble_eq_true rfl, Nat.le_of_ble_eq_true rfl⟩) hS (fun q _ h => h) (fun q h => h) (fun q _ h => h) (fun E ce q9 u9 t H1 locs1 ht hvm hp9 hB hz hk hS1 hce hcv hcl => ?_) (fun r u t H1 locs1 ht hvm hp9 _ _ _ _ => hp9.elim)
  obtain rfl : E = "java/lang/IndexOutOfBoundsException" := hB
  have htb := vx_table (x := yL_mean) B (hts _ mW_L_mean)
  refine vx_catch (own := RL) (name := "java/lang/IndexOutOfBoundsException") (pc := 7) (rest := [.int 0, .ref ou]) hown [] ⟨0, 11, 14, 21⟩ [⟨0, 11, 18, 13⟩] (by rw [htb]; rfl) (fun z hz9 => absurd hz9 List.not_mem_nil) rfl (by decide) (hts _ mK_L_21) (va_Nw.use rfl (gkC hG 4 rfl)) hce hcv hcl ?_
  refine lv_astore (lv' := [(5, .ref q9), (0, .ref xo), (1, .int p1), (2, .int x), (3, .int y), (4, .ref ou)]) hx hb dL_mean_14 hl (by decide) rfl (fun ls hl => ?_)
  refine lv_iconst (v := 1) hx hb dL_mean_16 (by decide) ?_
  exact W.iret (v := 1) hx hb hr (fun t ht _ => ⟨⟨_, (), rfl, rfl, trivial⟩, hS1.F ht⟩) hS1.2.2 dL_mean_17 hlk
set_option maxHeartbeats 400000 in
set_option maxRecDepth 100000 in
theorem h_mean_2 (l : Launch) (D : va_G) (hns : l.stackTraces = false) {xo : Nat} {p1 x y : Int32} {lc lt bo yo no : Nat} {ou : Nat} (hz0 : Nat) (h : (0 : Int32) ≤ p1 ∧ p1 ≤ 3) (hh : ¬ (((0 : Int32) ≤ x ∧ x ≤ 100000) ∧ (x ≤ y ∧ y ≤ x + 300))) : Met l yL_mean (wsW_ yL_mean cL_mean 6 (some .int) [(0, 11, 14, 21), (0, 11, 18, 13)]) ({ frames := 7, cells := 1, slots := 6, locals := 178 } : Room) (va_Pc [.ref xo, .int p1, .int x, .int y, .ref ou] (TW D [oO xo 5 [.ref lc, .ref lt, .ref bo, .ref yo, .ref no]] hz0)) (va_Qi (fun r (_ : Unit) => r = 2) (fun _ _ => True) (va_A [] hz0)) 1 6 (va_A [] hz0) := by
  refine va_MetW (hh := [(0, 11, 14, 21), (0, 11, 18, 13)]) (cc := cL_mean) (maxL := 6) (ret := (some .int)) (by decide +kernel) rfl ?_
  intro p e s m args below meth c s₁ B hml hv
  obtain ⟨rfl, hsz, hG, hP, hZ⟩ := hv
  subst hsz
  have hx := B.exec
  have hb := B.bytes
  have hr := B.returns
  have hts : ∀ w ∈ wsL_law, w.before _ s = true := fun w h => atoms_spec (ws := (wsW_ yL_mean cL_mean 6 (some .int) [(0, 11, 14, 21), (0, 11, 18, 13)])) B.pre w (List.mem_cons_of_mem _ (wsL2_in w h))
  have hk15 : (Cond.classLink RL 15 "java/lang/IllegalStateException").before _ s = true := atoms_spec (ws := (wsW_ yL_mean cL_mean 6 (some .int) [(0, 11, 14, 21), (0, 11, 18, 13)])) B.pre _ (List.mem_cons_of_mem _ List.mem_cons_self)
  have hown : s.vm.findClass RL = some m.cls := findClass_of_methodNamed B.named
  have hlk := B.notSynchronized
  have hC : CallFix p m c cL_mean 6 s _ wsL_law RL := ⟨hx, hb, hml, hown, hts⟩
  have hS : va_S (va_A [] s.heap.size) s.heap s.heap [] := va_S.rf
  have hl := lv_entry ([.ref xo, .int p1, .int x, .int y, .ref ou]) (n := 6) (Nat.le_of_ble_eq_true rfl)
  rw [lg_entry_eq]
  generalize (lg_sl ([.ref xo, .int p1, .int x, .int y, .ref ou]) ++ List.replicate (6 - (lg_sl ([.ref xo, .int p1, .int x, .int y, .ref ou])).length) Slot.unset).toArray = ls at hl ⊢
  have hl : lv_has ls 6 [(0, .ref xo), (1, .int p1), (2, .int x), (3, .int y), (4, .ref ou)] := hl
  refine lv_aload hx hb dL_mean_0 (lv_at hl 4 rfl) ?_
  refine lv_iconst (v := 0) hx hb dL_mean_2 (by decide) ?_
  refine lv_aload_n hx hb dL_mean_3 rfl (lv_at hl 0 rfl) ?_
  refine lv_iload_n hx hb dL_mean_4 rfl (lv_at hl 1 rfl) ?_
  refine lv_iload_n hx hb dL_mean_5 rfl (lv_at hl 2 rfl) ?_
  refine lv_iload_n hx hb dL_mean_6 rfl (lv_at hl 3 rfl) ?_
  have hP9 : va_P D cls [] s.heap := fun k q h => by simp at h
  refine vx_calld (A0 := va_A [] s.heap.size) (rX (rest := [.int 0, .ref ou]) (qc := (RX5, TX5, 5)) [.int p1, .int x, .int y] 3 hC (t_mean_2 l D hns (xo := xo) (p1 := p1) (x := x) (y := y) (hz0 := s.heap.size) (h) (hh)) rfl (hP 0 _ rfl) (gV mM_L_88 mI_X5_mean mS_X5_mean mN_X5 mC_X5_mean) (by decide +kernel) rfl rfl ⟨Nat.le_of_ble_eq_true rfl, Nat.le_of_ble_eq_true rfl⟩ hG hP9 hZ rfl hl.1 rfl (Nat.le_of_ble_eq_true rfl) dL_mean_7 ⟨Nat.le_of_ble_eq_true rfl, Nat.le_of_ble_eq_true rfl⟩) hS (fun q _ h => h) (fun q h => h) (fun q _ h => h) (fun E ce q9 u9 t H1 locs1 ht hvm hp9 hB hz hk hS1 hce hcv hcl => ?_) (fun r u t H1 locs1 ht hvm hp9 _ _ _ _ => hp9.elim)
  obtain rfl : E = "java/lang/IllegalArgumentException" := hB
  have htb := vx_table (x := yL_mean) B (hts _ mW_L_mean)
  refine vx_catch (own := RL) (name := "java/lang/IllegalArgumentException") (pc := 7) (rest := [.int 0, .ref ou]) hown [⟨0, 11, 14, 21⟩] ⟨0, 11, 18, 13⟩ [] (by rw [htb]; rfl) (fun z hz9 => by
    simp only [List.mem_cons, List.not_mem_nil, or_false] at hz9
    rcases hz9 with rfl
    · exact Or.inr ⟨by decide, _, hts _ mK_L_21, gkN hG 1 rfl⟩) rfl (by decide) (hts _ mK_L_13) (va_Nw.use rfl (gkC hG 2 rfl)) hce hcv hcl ?_
  refine lv_astore (lv' := [(5, .ref q9), (0, .ref xo), (1, .int p1), (2, .int x), (3, .int y), (4, .ref ou)]) hx hb dL_mean_18 hl (by decide) rfl (fun ls hl => ?_)
  refine lv_iconst (v := 2) hx hb dL_mean_20 (by decide) ?_
  exact W.iret (v := 2) hx hb hr (fun t ht _ => ⟨⟨_, (), rfl, rfl, trivial⟩, hS1.F ht⟩) hS1.2.2 dL_mean_21 hlk
set_option maxHeartbeats 400000 in
set_option maxRecDepth 100000 in
theorem l_mean (l : Launch) (D : va_G) {xo lc lt bo yo no : Nat} {et nS : Nat} {m2 : Int32} {sl ck cl ta : Nat → Nat} {pt : Nat → Nat → Int32} {len : Nat → Int32} {q : Nat → Nat → Nat} {t r a sz : Nat → Nat → Nat} {f : Nat → Nat → Nat → Int32} {ba ya n0 j : Nat} {bf yf : Nat → Int32} {a0 b0 : Nat} {vf : Nat → Int32} {ou : Nat} {wf : Nat → UInt64} (hz0 : Nat) (hnS : nS ≤ 10) (hn0 : n0 ≤ 10) (hj : j < 4) (ha0 : a0 ≤ 100000) (hab : a0 ≤ b0) (hb3 : b0 ≤ a0 + 300) (hp : ∀ i, i < nS → 0 < pt i 5) (hq : ∀ i, i < nS → 0 < pt i 6) (hln : ∀ i, i < nS → 0 < len (ck i)) (h16 : ∀ i, i < nS → sz (ck i) j ≤ 16) (hT : ∀ i, i < nS → tOK (f (ck i) (3 * j)) (sz (ck i) j)) (hF : ∀ i, i < nS → ∀ x, a0 ≤ x → x ≤ b0 → isOnS (len (ck i)) (pt i) (nI x) → fadesOK (len (ck i)) (pt i) (nI x)) (hvf : ∀ x, vf x = valL (fun z v => blendS (len (ck z)) (pt z) (sz (ck z) j) (f (ck z) (3 * j)) (f (ck z) (3 * j + 1)) (f (ck z) (3 * j + 2)) v (nI x)) (lyT (fun z => pt z 7) nS 10) (bf j) (lyT (fun z => pt z 7) nS 10).length) (hnan : vf_n64 (FP.ddiv (FP.l2d (sumF vf a0 (b0 + 1 - a0))) (FP.i2d (nI (b0 - a0 + 1))))) : Met l yL_mean (wsW_ yL_mean cL_mean 6 (some .int) [(0, 11, 14, 21), (0, 11, 18, 13)]) ({ frames := 7, cells := 0, slots := 0, locals := 178 } : Room) (va_Pc [.ref xo, .int (nI j), .int (nI a0), .int (nI b0), .ref ou] (SX D [oO xo 5 [.ref lc, .ref lt, .ref bo, .ref yo, .ref no], oO lt 7 [.int m2, .ref et, .int (nI nS)], oO yo 2 [.ref ya, .int (nI n0)], aI D ya 10 yf, oO bo 2 [.ref ba, .int (nI 4)], aI D ba 4 bf, aD D ou 1 wf] hz0 (FX D nS (fun i => [aO D et 10 (lsF sl nS), oO (sl i) 3 [.ref (cl (ck i)), .int (pt i 0), .int (pt i 1), .int (pt i 3), .int (pt i 4), .int (pt i 5), .int (pt i 6), .int (pt i 7), .int (pt i 8), .int (pt i 9), .int (pt i 10), .int (pt i 11), .int (pt i 12)], oO (cl (ck i)) 0 [.int (len (ck i)), .ref (ta (ck i)), .ref (q (ck i) 0), .ref (q (ck i) 1)], aT D (ta (ck i)) 4 (tkF (t (ck i))), oO (t (ck i) j) 4 [.ref (r (ck i) (3 * j)), .ref (r (ck i) (3 * j + 1)), .ref (r (ck i) (3 * j + 2))], oO (r (ck i) (3 * j)) 2 [.ref (a (ck i) (3 * j)), .int (nI (sz (ck i) j))], oO (r (ck i) (3 * j + 1)) 2 [.ref (a (ck i) (3 * j + 1)), .int (nI (sz (ck i) j))], oO (r (ck i) (3 * j + 2)) 2 [.ref (a (ck i) (3 * j + 2)), .int (nI (sz (ck i) j))], aI D (a (ck i) (3 * j)) 16 (f (ck i) (3 * j)), aI D (a (ck i) (3 * j + 1)) 16 (f (ck i) (3 * j + 1)), aI D (a (ck i) (3 * j + 2)) 16 (f (ck i) (3 * j + 2))]) (va_A [oO xo 5 [.ref lc, .ref lt, .ref bo, .ref yo, .ref no], oO lt 7 [.int m2, .ref et, .int (nI nS)], oO yo 2 [.ref ya, .int (nI n0)], aI D ya 10 yf, oO bo 2 [.ref ba, .int (nI 4)], aI D ba 4 bf, aD D ou 1 wf] hz0)))) (va_Qi (fun r _ => r = 0) (AT D (va_A [oO xo 5 [.ref lc, .ref lt, .ref bo, .ref yo, .ref no], oO lt 7 [.int m2, .ref et, .int (nI nS)], oO yo 2 [.ref ya, .int (nI n0)], aI D ya 10 yf, oO bo 2 [.ref ba, .int (nI 4)], aI D ba 4 bf, aD D ou 1 wf] hz0) (fun g : Nat → Int32 => [oO xo 5 [.ref lc, .ref lt, .ref bo, .ref yo, .ref no], oO lt 7 [.int m2, .ref et, .int (nI nS)], oO yo 2 [.ref ya, .int (nI (lyT (fun z => pt z 7) nS 10).length)], aI D ya 10 g, oO bo 2 [.ref ba, .int (nI 4)], aI D ba 4 bf, aD D ou 1 (vf_upd wf 0 (FP.ddiv (FP.l2d (sumF vf a0 (b0 + 1 - a0))) (FP.i2d (nI (b0 - a0 + 1)))))])) (va_A [oO xo 5 [.ref lc, .ref lt, .ref bo, .ref yo, .ref no], oO lt 7 [.int m2, .ref et, .int (nI nS)], oO yo 2 [.ref ya, .int (nI n0)], aI D ya 10 yf, oO bo 2 [.ref ba, .int (nI 4)], aI D ba 4 bf, aD D ou 1 wf] hz0)) 0 0 (va_A [oO xo 5 [.ref lc, .ref lt, .ref bo, .ref yo, .ref no], oO lt 7 [.int m2, .ref et, .int (nI nS)], oO yo 2 [.ref ya, .int (nI n0)], aI D ya 10 yf, oO bo 2 [.ref ba, .int (nI 4)], aI D ba 4 bf, aD D ou 1 wf] hz0) := by
  refine va_MetW (hh := [(0, 11, 14, 21), (0, 11, 18, 13)]) (cc := cL_mean) (maxL := 6) (ret := (some .int)) (by decide +kernel) rfl ?_
  intro p e s m args below meth c s₁ B hml hv
  obtain ⟨rfl, ⟨hsz, hG, hP, hD0⟩, hX⟩ := hv
  have hx := B.exec
  have hb := B.bytes
  have hr := B.returns
  have hts : ∀ w ∈ wsL_law, w.before _ s = true := fun w h => atoms_spec (ws := (wsW_ yL_mean cL_mean 6 (some .int) [(0, 11, 14, 21), (0, 11, 18, 13)])) B.pre w (List.mem_cons_of_mem _ (wsL2_in w h))
  have hown : s.vm.findClass RL = some m.cls := findClass_of_methodNamed B.named
  have hlk := B.notSynchronized
  have hC : CallFix p m c cL_mean 6 s _ wsL_law RL := ⟨hx, hb, hml, hown, hts⟩
  subst hsz
  have hD := hD0.self (sz := s.heap.size)
  generalize hAe : va_A [oO xo 5 [.ref lc, .ref lt, .ref bo, .ref yo, .ref no], oO lt 7 [.int m2, .ref et, .int (nI nS)], oO yo 2 [.ref ya, .int (nI n0)], aI D ya 10 yf, oO bo 2 [.ref ba, .int (nI 4)], aI D ba 4 bf, aD D ou 1 wf] s.heap.size = A at hD hX ⊢
  have hA : ∀ q : Nat, s.heap.size ≤ q → A q := fun q h => by rw [← hAe]; exact Or.inr h
  have hS : va_S A s.heap s.heap [] := va_S.rf
  obtain ⟨H, hHe⟩ : ∃ H, H = s.heap := ⟨_, rfl⟩
  rw [← hHe] at hP
  have hS : va_S A s.heap H [] := by rw [hHe]; exact hS
  have hl := lv_entry ([.ref xo, .int (nI j), .int (nI a0), .int (nI b0), .ref ou]) (n := 6) (Nat.le_of_ble_eq_true rfl)
  rw [lg_entry_eq]
  generalize (lg_sl ([.ref xo, .int (nI j), .int (nI a0), .int (nI b0), .ref ou]) ++ List.replicate (6 - (lg_sl ([.ref xo, .int (nI j), .int (nI a0), .int (nI b0), .ref ou])).length) Slot.unset).toArray = ls at hl ⊢
  have hl : lv_has ls 6 [(0, .ref xo), (1, .int (nI j)), (2, .int (nI a0)), (3, .int (nI b0)), (4, .ref ou)] := hl
  rw [← hHe]
  refine lv_aload hx hb dL_mean_0 (lv_at hl 4 rfl) ?_
  refine lv_iconst (v := 0) hx hb dL_mean_2 (by decide) ?_
  refine lv_aload_n hx hb dL_mean_3 rfl (lv_at hl 0 rfl) ?_
  refine lv_iload_n hx hb dL_mean_4 rfl (lv_at hl 1 rfl) ?_
  refine lv_iload_n hx hb dL_mean_5 rfl (lv_at hl 2 rfl) ?_
  refine lv_iload_n hx hb dL_mean_6 rfl (lv_at hl 3 rfl) ?_
  have hP9 := hP.sub (ws' := [oO xo 5 [.ref lc, .ref lt, .ref bo, .ref yo, .ref no], oO lt 7 [.int m2, .ref et, .int (nI nS)], oO yo 2 [.ref ya, .int (nI n0)], aI D ya 10 yf, oO bo 2 [.ref ba, .int (nI 4)], aI D ba 4 bf]) [0, 1, 2, 3, 4, 5] rfl
  have hD9 := (hD.sub (ws' := [oO xo 5 [.ref lc, .ref lt, .ref bo, .ref yo, .ref no], oO lt 7 [.int m2, .ref et, .int (nI nS)], oO yo 2 [.ref ya, .int (nI n0)], aI D ya 10 yf, oO bo 2 [.ref ba, .int (nI 4)], aI D ba 4 bf]) [0, 1, 2, 3, 4, 5] (by decide) rfl).weaken (B := fun _ => True) (fun _ _ _ _ => trivial)
  refine kd (wr := [aD D ou 1 wf]) (rVX (FX.blind) (FX.pre hX hS (va_free' hD hS hA [0, 1, 2, 3, 4, 5] rfl).2) (rest := [.int 0, .ref ou]) (qc := (RX5, TX5, 5)) [.int (nI j), .int (nI a0), .int (nI b0)] 3 0 0 hC (c_mean l D (xo := xo) (lc := lc) (lt := lt) (bo := bo) (yo := yo) (no := no) (et := et) (nS := nS) (m2 := m2) (sl := sl) (ck := ck) (cl := cl) (ta := ta) (pt := pt) (len := len) (q := q) (t := t) (r := r) (a := a) (sz := sz) (f := f) (ba := ba) (ya := ya) (n0 := n0) (j := j) (bf := bf) (yf := yf) (a0 := a0) (b0 := b0) (vf := vf) (hz0 := H.size) (hnS) (hn0) (hj) (ha0) (hab) (hb3) (hp) (hq) (hln) (h16) (hT) (hF) (hvf) (hnan)) rfl (hP 0 _ rfl) (gV mM_L_88 mI_X5_mean mS_X5_mean mN_X5 mC_X5_mean) (by decide +kernel) rfl rfl ⟨Nat.le_of_ble_eq_true rfl, Nat.le_of_ble_eq_true rfl⟩ hG hP9 hD9 rfl hl.1 rfl (Nat.le_of_ble_eq_true rfl) dL_mean_7 ⟨Nat.le_of_ble_eq_true rfl, Nat.le_of_ble_eq_true rfl⟩) hP hD hS hA [0, 1, 2, 3, 4, 5] [6] rfl rfl (by decide) (by decide) (fun r7 u7 H locs h7 hP hD hS hz hfr => ?_)
  obtain ⟨g, rfl⟩ : ∃ z, z = u7 := ⟨_, rfl⟩
  have hP : va_P D cls [aD D ou 1 wf, oO xo 5 [.ref lc, .ref lt, .ref bo, .ref yo, .ref no], oO lt 7 [.int m2, .ref et, .int (nI nS)], oO yo 2 [.ref ya, .int (nI (lyT (fun z => pt z 7) nS 10).length)], aI D ya 10 g, oO bo 2 [.ref ba, .int (nI 4)], aI D ba 4 bf] H := hP
  have hD : va_D A [aD D ou 1 wf, oO xo 5 [.ref lc, .ref lt, .ref bo, .ref yo, .ref no], oO lt 7 [.int m2, .ref et, .int (nI nS)], oO yo 2 [.ref ya, .int (nI (lyT (fun z => pt z 7) nS 10).length)], aI D ya 10 g, oO bo 2 [.ref ba, .int (nI 4)], aI D ba 4 bf] := hD
  obtain rfl : r7 = (FP.ddiv (FP.l2d (sumF vf a0 (b0 + 1 - a0))) (FP.i2d (nI (b0 - a0 + 1)))) := h7
  refine dst (n := 1) (j := 0) hx hb hG hP hD hS 0 rfl (by omega) (by omega) dL_mean_10 (fun H locs hP hD hS => ?_)
  have hP : va_P D cls [aD D ou 1 (vf_upd wf 0 (FP.ddiv (FP.l2d (sumF vf a0 (b0 + 1 - a0))) (FP.i2d (nI (b0 - a0 + 1))))), oO xo 5 [.ref lc, .ref lt, .ref bo, .ref yo, .ref no], oO lt 7 [.int m2, .ref et, .int (nI nS)], oO yo 2 [.ref ya, .int (nI (lyT (fun z => pt z 7) nS 10).length)], aI D ya 10 g, oO bo 2 [.ref ba, .int (nI 4)], aI D ba 4 bf] H := hP
  have hD : va_D A [aD D ou 1 (vf_upd wf 0 (FP.ddiv (FP.l2d (sumF vf a0 (b0 + 1 - a0))) (FP.i2d (nI (b0 - a0 + 1))))), oO xo 5 [.ref lc, .ref lt, .ref bo, .ref yo, .ref no], oO lt 7 [.int m2, .ref et, .int (nI nS)], oO yo 2 [.ref ya, .int (nI (lyT (fun z => pt z 7) nS 10).length)], aI D ya 10 g, oO bo 2 [.ref ba, .int (nI 4)], aI D ba 4 bf] := hD
  refine lv_goto (tgt := 22) hx hb dL_mean_11 (by decide) ?_
  refine lv_iconst (v := 0) hx hb dL_mean_22 (by decide) ?_
  refine Wi g hx hb hr hlk ?_ (hP.sub [1, 2, 3, 4, 5, 6, 0] rfl) (hD.sub [1, 2, 3, 4, 5, 6, 0] (by decide) rfl) hS (Nat.le_of_ble_eq_true rfl) (by first | exact Nat.le_of_ble_eq_true rfl | exact Nat.le_of_eq (Nat.zero_add _)) dL_mean_23
  exact rfl
set_option maxHeartbeats 400000 in
set_option maxRecDepth 100000 in
theorem h_play (l : Launch) (D : va_G) (hns : l.stackTraces = false) {xo : Nat} {x y : Int32} {lc lt bo yo no : Nat} {ou : Nat} (hz0 : Nat) (hh : ¬ (((0 : Int32) ≤ x ∧ x ≤ 100000) ∧ (x ≤ y ∧ y ≤ 100000))) : Met l yL_play (wsW_ yL_play cL_play 5 (some .int) [(0, 10, 13, 13)]) ({ frames := 7, cells := 1, slots := 6, locals := 142 } : Room) (va_Pc [.ref xo, .int x, .int y, .ref ou] (TW D [oO xo 5 [.ref lc, .ref lt, .ref bo, .ref yo, .ref no]] hz0)) (va_Qi (fun r (_ : Unit) => r = 1) (fun _ _ => True) (va_A [] hz0)) 1 6 (va_A [] hz0) := by
  refine va_MetW (hh := [(0, 10, 13, 13)]) (cc := cL_play) (maxL := 5) (ret := (some .int)) (by decide +kernel) rfl ?_
  intro p e s m args below meth c s₁ B hml hv
  obtain ⟨rfl, hsz, hG, hP, hZ⟩ := hv
  subst hsz
  have hx := B.exec
  have hb := B.bytes
  have hr := B.returns
  have hts : ∀ w ∈ wsL_law, w.before _ s = true := fun w h => atoms_spec (ws := (wsW_ yL_play cL_play 5 (some .int) [(0, 10, 13, 13)])) B.pre w (List.mem_cons_of_mem _ (wsL2_in w h))
  have hk15 : (Cond.classLink RL 15 "java/lang/IllegalStateException").before _ s = true := atoms_spec (ws := (wsW_ yL_play cL_play 5 (some .int) [(0, 10, 13, 13)])) B.pre _ (List.mem_cons_of_mem _ List.mem_cons_self)
  have hown : s.vm.findClass RL = some m.cls := findClass_of_methodNamed B.named
  have hlk := B.notSynchronized
  have hC : CallFix p m c cL_play 5 s _ wsL_law RL := ⟨hx, hb, hml, hown, hts⟩
  have hS : va_S (va_A [] s.heap.size) s.heap s.heap [] := va_S.rf
  have hl := lv_entry ([.ref xo, .int x, .int y, .ref ou]) (n := 5) (Nat.le_of_ble_eq_true rfl)
  rw [lg_entry_eq]
  generalize (lg_sl ([.ref xo, .int x, .int y, .ref ou]) ++ List.replicate (5 - (lg_sl ([.ref xo, .int x, .int y, .ref ou])).length) Slot.unset).toArray = ls at hl ⊢
  have hl : lv_has ls 5 [(0, .ref xo), (1, .int x), (2, .int y), (3, .ref ou)] := hl
  refine lv_aload_n hx hb dL_play_0 rfl (lv_at hl 3 rfl) ?_
  refine lv_iconst (v := 0) hx hb dL_play_1 (by decide) ?_
  refine lv_aload_n hx hb dL_play_2 rfl (lv_at hl 0 rfl) ?_
  refine lv_iload_n hx hb dL_play_3 rfl (lv_at hl 1 rfl) ?_
  refine lv_iload_n hx hb dL_play_4 rfl (lv_at hl 2 rfl) ?_
  have hP9 : va_P D cls [] s.heap := fun k q h => by simp at h
  refine vx_calli (A0 := va_A [] s.heap.size) (rX (rest := [.int 0, .ref ou]) (qc := (RX5, TX5, 5)) [.int x, .int y] 2 hC (t_play l D hns (xo := xo) (x := x) (y := y) (hz0 := s.heap.size) (hh)) rfl (hP 0 _ rfl) (gV mM_L_92 mI_X5_play mS_X5_play mN_X5 mC_X5_play) (by decide +kernel) rfl rfl ⟨Nat.le_of_ble_eq_true rfl, Nat.le_of_ble_eq_true rfl⟩ hG hP9 hZ rfl hl.1 rfl (Nat.le_of_ble_eq_true rfl) dL_play_5 ⟨Nat.le_of_ble_eq_true rfl, Nat.le_of_ble_eq_true rfl⟩) hS (fun q _ h => h) (fun q h => h) (fun q _ h => h) (fun E ce q9 u9 t H1 locs1 ht hvm hp9 hB hz hk hS1 hce hcv hcl => ?_) (fun r u t H1 locs1 ht hvm hp9 _ _ _ _ => hp9.elim)
  obtain rfl : E = "java/lang/IllegalArgumentException" := hB
  have htb := vx_table (x := yL_play) B (hts _ mW_L_play)
  refine vx_catch (own := RL) (name := "java/lang/IllegalArgumentException") (pc := 5) (rest := [.int 0, .ref ou]) hown [] ⟨0, 10, 13, 13⟩ [] (by rw [htb]; rfl) (fun z hz9 => absurd hz9 List.not_mem_nil) rfl (by decide) (hts _ mK_L_13) (va_Nw.use rfl (gkC hG 2 rfl)) hce hcv hcl ?_
  refine lv_astore (lv' := [(4, .ref q9), (0, .ref xo), (1, .int x), (2, .int y), (3, .ref ou)]) hx hb dL_play_13 hl (by decide) rfl (fun ls hl => ?_)
  refine lv_iconst (v := 1) hx hb dL_play_15 (by decide) ?_
  exact W.iret (v := 1) hx hb hr (fun t ht _ => ⟨⟨_, (), rfl, rfl, trivial⟩, hS1.F ht⟩) hS1.2.2 dL_play_16 hlk
set_option maxHeartbeats 400000 in
set_option maxRecDepth 100000 in
theorem l_play (l : Launch) (D : va_G) {xo lc lt bo yo no : Nat} {et nS k : Nat} {m2 : Int32} {sl ck cl ta nc : Nat → Nat} {pt : Nat → Nat → Int32} {len : Nat → Int32} {q b t : Nat → Nat → Nat} {ct cn : Nat → Nat → Int32} {g h RR : Nat → Nat} {x y cnt : Int32} {f : Nat → Nat → Int32} {ou : Nat} {wf : Nat → Int64} (hz0 : Nat) (hnS : nS ≤ 10) (hk : k ≤ 100) (hxx : (0 : Int32) ≤ x ∧ x ≤ 100000) (hyy : x ≤ y ∧ y ≤ 100000) (hnc : ∀ i, i < nS → nc (ck i) ≤ 8) (hp : ∀ i, i < nS → 0 < pt i 5) (hR : ∀ i, i < nS → pt i 3 = nI (RR i)) (hR9 : ∀ i, i < nS → RR i ≤ 9) : Met l yL_play (wsW_ yL_play cL_play 5 (some .int) [(0, 10, 13, 13)]) ({ frames := 7, cells := 0, slots := 0, locals := 142 } : Room) (va_Pc [.ref xo, .int x, .int y, .ref ou] (SX D [oO xo 5 [.ref lc, .ref lt, .ref bo, .ref yo, .ref no], oO lt 7 [.int m2, .ref et, .int (nI nS)], oO no 1 [.ref (g 0), .ref (g 1), .ref (g 2), .ref (g 3), .int cnt], oO (g 0) 2 [.ref (h 0), .int (nI k)], oO (g 1) 2 [.ref (h 1), .int (nI k)], oO (g 2) 2 [.ref (h 2), .int (nI k)], oO (g 3) 2 [.ref (h 3), .int (nI k)], aI D (h 0) 100 (f 0), aI D (h 1) 100 (f 1), aI D (h 2) 100 (f 2), aI D (h 3) 100 (f 3), aL D ou 1 wf] hz0 (FX D nS (fun i => [aO D et 10 (lsF sl nS), oO (sl i) 3 [.ref (cl (ck i)), .int (pt i 0), .int (pt i 1), .int (pt i 3), .int (pt i 4), .int (pt i 5), .int (pt i 6), .int (pt i 7), .int (pt i 8), .int (pt i 9), .int (pt i 10), .int (pt i 11), .int (pt i 12)], oO (cl (ck i)) 0 [.int (len (ck i)), .ref (ta (ck i)), .ref (q (ck i) 0), .ref (q (ck i) 1)], aT D (ta (ck i)) 4 (tkF (t (ck i))), oO (q (ck i) 0) 2 [.ref (b (ck i) 0), .int (nI (nc (ck i)))], oO (q (ck i) 1) 2 [.ref (b (ck i) 1), .int (nI (nc (ck i)))], aI D (b (ck i) 0) 8 (ct (ck i)), aI D (b (ck i) 1) 8 (cn (ck i))]) (va_A [oO xo 5 [.ref lc, .ref lt, .ref bo, .ref yo, .ref no], oO lt 7 [.int m2, .ref et, .int (nI nS)], oO no 1 [.ref (g 0), .ref (g 1), .ref (g 2), .ref (g 3), .int cnt], oO (g 0) 2 [.ref (h 0), .int (nI k)], oO (g 1) 2 [.ref (h 1), .int (nI k)], oO (g 2) 2 [.ref (h 2), .int (nI k)], oO (g 3) 2 [.ref (h 3), .int (nI k)], aI D (h 0) 100 (f 0), aI D (h 1) 100 (f 1), aI D (h 2) 100 (f 2), aI D (h 3) 100 (f 3), aL D ou 1 wf] hz0)))) (va_Qi (fun r _ => r = 0) (AT D (va_A [oO xo 5 [.ref lc, .ref lt, .ref bo, .ref yo, .ref no], oO lt 7 [.int m2, .ref et, .int (nI nS)], oO no 1 [.ref (g 0), .ref (g 1), .ref (g 2), .ref (g 3), .int cnt], oO (g 0) 2 [.ref (h 0), .int (nI k)], oO (g 1) 2 [.ref (h 1), .int (nI k)], oO (g 2) 2 [.ref (h 2), .int (nI k)], oO (g 3) 2 [.ref (h 3), .int (nI k)], aI D (h 0) 100 (f 0), aI D (h 1) 100 (f 1), aI D (h 2) 100 (f 2), aI D (h 3) 100 (f 3), aL D ou 1 wf] hz0) (fun _ : Unit => [oO xo 5 [.ref lc, .ref lt, .ref bo, .ref yo, .ref no], oO lt 7 [.int m2, .ref et, .int (nI nS)], oO no 1 [.ref (g 0), .ref (g 1), .ref (g 2), .ref (g 3), .int ((ncP (fun z => len (ck z)) pt (fun z => ct (ck z)) (fun z => cn (ck z)) (fun z => nc (ck z)) RR x y (0, f, 0) nS).2.2)], oO (g 0) 2 [.ref (h 0), .int (nI ((ncP (fun z => len (ck z)) pt (fun z => ct (ck z)) (fun z => cn (ck z)) (fun z => nc (ck z)) RR x y (0, f, 0) nS).1))], oO (g 1) 2 [.ref (h 1), .int (nI ((ncP (fun z => len (ck z)) pt (fun z => ct (ck z)) (fun z => cn (ck z)) (fun z => nc (ck z)) RR x y (0, f, 0) nS).1))], oO (g 2) 2 [.ref (h 2), .int (nI ((ncP (fun z => len (ck z)) pt (fun z => ct (ck z)) (fun z => cn (ck z)) (fun z => nc (ck z)) RR x y (0, f, 0) nS).1))], oO (g 3) 2 [.ref (h 3), .int (nI ((ncP (fun z => len (ck z)) pt (fun z => ct (ck z)) (fun z => cn (ck z)) (fun z => nc (ck z)) RR x y (0, f, 0) nS).1))], aI D (h 0) 100 ((ncP (fun z => len (ck z)) pt (fun z => ct (ck z)) (fun z => cn (ck z)) (fun z => nc (ck z)) RR x y (0, f, 0) nS).2.1 0), aI D (h 1) 100 ((ncP (fun z => len (ck z)) pt (fun z => ct (ck z)) (fun z => cn (ck z)) (fun z => nc (ck z)) RR x y (0, f, 0) nS).2.1 1), aI D (h 2) 100 ((ncP (fun z => len (ck z)) pt (fun z => ct (ck z)) (fun z => cn (ck z)) (fun z => nc (ck z)) RR x y (0, f, 0) nS).2.1 2), aI D (h 3) 100 ((ncP (fun z => len (ck z)) pt (fun z => ct (ck z)) (fun z => cn (ck z)) (fun z => nc (ck z)) RR x y (0, f, 0) nS).2.1 3), aL D ou 1 (vp_updL wf 0 ((ncP (fun z => len (ck z)) pt (fun z => ct (ck z)) (fun z => cn (ck z)) (fun z => nc (ck z)) RR x y (0, f, 0) nS).2.2).toInt64)])) (va_A [oO xo 5 [.ref lc, .ref lt, .ref bo, .ref yo, .ref no], oO lt 7 [.int m2, .ref et, .int (nI nS)], oO no 1 [.ref (g 0), .ref (g 1), .ref (g 2), .ref (g 3), .int cnt], oO (g 0) 2 [.ref (h 0), .int (nI k)], oO (g 1) 2 [.ref (h 1), .int (nI k)], oO (g 2) 2 [.ref (h 2), .int (nI k)], oO (g 3) 2 [.ref (h 3), .int (nI k)], aI D (h 0) 100 (f 0), aI D (h 1) 100 (f 1), aI D (h 2) 100 (f 2), aI D (h 3) 100 (f 3), aL D ou 1 wf] hz0)) 0 0 (va_A [oO xo 5 [.ref lc, .ref lt, .ref bo, .ref yo, .ref no], oO lt 7 [.int m2, .ref et, .int (nI nS)], oO no 1 [.ref (g 0), .ref (g 1), .ref (g 2), .ref (g 3), .int cnt], oO (g 0) 2 [.ref (h 0), .int (nI k)], oO (g 1) 2 [.ref (h 1), .int (nI k)], oO (g 2) 2 [.ref (h 2), .int (nI k)], oO (g 3) 2 [.ref (h 3), .int (nI k)], aI D (h 0) 100 (f 0), aI D (h 1) 100 (f 1), aI D (h 2) 100 (f 2), aI D (h 3) 100 (f 3), aL D ou 1 wf] hz0) := by
  refine va_MetW (hh := [(0, 10, 13, 13)]) (cc := cL_play) (maxL := 5) (ret := (some .int)) (by decide +kernel) rfl ?_
  intro p e s m args below meth c s₁ B hml hv
  obtain ⟨rfl, ⟨hsz, hG, hP, hD0⟩, hX⟩ := hv
  have hx := B.exec
  have hb := B.bytes
  have hr := B.returns
  have hts : ∀ w ∈ wsL_law, w.before _ s = true := fun w h => atoms_spec (ws := (wsW_ yL_play cL_play 5 (some .int) [(0, 10, 13, 13)])) B.pre w (List.mem_cons_of_mem _ (wsL2_in w h))
  have hown : s.vm.findClass RL = some m.cls := findClass_of_methodNamed B.named
  have hlk := B.notSynchronized
  have hC : CallFix p m c cL_play 5 s _ wsL_law RL := ⟨hx, hb, hml, hown, hts⟩
  subst hsz
  have hD := hD0.self (sz := s.heap.size)
  generalize hAe : va_A [oO xo 5 [.ref lc, .ref lt, .ref bo, .ref yo, .ref no], oO lt 7 [.int m2, .ref et, .int (nI nS)], oO no 1 [.ref (g 0), .ref (g 1), .ref (g 2), .ref (g 3), .int cnt], oO (g 0) 2 [.ref (h 0), .int (nI k)], oO (g 1) 2 [.ref (h 1), .int (nI k)], oO (g 2) 2 [.ref (h 2), .int (nI k)], oO (g 3) 2 [.ref (h 3), .int (nI k)], aI D (h 0) 100 (f 0), aI D (h 1) 100 (f 1), aI D (h 2) 100 (f 2), aI D (h 3) 100 (f 3), aL D ou 1 wf] s.heap.size = A at hD hX ⊢
  have hA : ∀ q : Nat, s.heap.size ≤ q → A q := fun q h => by rw [← hAe]; exact Or.inr h
  have hS : va_S A s.heap s.heap [] := va_S.rf
  obtain ⟨H, hHe⟩ : ∃ H, H = s.heap := ⟨_, rfl⟩
  rw [← hHe] at hP
  have hS : va_S A s.heap H [] := by rw [hHe]; exact hS
  have hl := lv_entry ([.ref xo, .int x, .int y, .ref ou]) (n := 5) (Nat.le_of_ble_eq_true rfl)
  rw [lg_entry_eq]
  generalize (lg_sl ([.ref xo, .int x, .int y, .ref ou]) ++ List.replicate (5 - (lg_sl ([.ref xo, .int x, .int y, .ref ou])).length) Slot.unset).toArray = ls at hl ⊢
  have hl : lv_has ls 5 [(0, .ref xo), (1, .int x), (2, .int y), (3, .ref ou)] := hl
  rw [← hHe]
  refine lv_aload_n hx hb dL_play_0 rfl (lv_at hl 3 rfl) ?_
  refine lv_iconst (v := 0) hx hb dL_play_1 (by decide) ?_
  refine lv_aload_n hx hb dL_play_2 rfl (lv_at hl 0 rfl) ?_
  refine lv_iload_n hx hb dL_play_3 rfl (lv_at hl 1 rfl) ?_
  refine lv_iload_n hx hb dL_play_4 rfl (lv_at hl 2 rfl) ?_
  have hP9 := hP.sub (ws' := [oO xo 5 [.ref lc, .ref lt, .ref bo, .ref yo, .ref no], oO lt 7 [.int m2, .ref et, .int (nI nS)], oO no 1 [.ref (g 0), .ref (g 1), .ref (g 2), .ref (g 3), .int cnt], oO (g 0) 2 [.ref (h 0), .int (nI k)], oO (g 1) 2 [.ref (h 1), .int (nI k)], oO (g 2) 2 [.ref (h 2), .int (nI k)], oO (g 3) 2 [.ref (h 3), .int (nI k)], aI D (h 0) 100 (f 0), aI D (h 1) 100 (f 1), aI D (h 2) 100 (f 2), aI D (h 3) 100 (f 3)]) [0, 1, 2, 3, 4, 5, 6, 7, 8, 9, 10] rfl
  have hD9 := (hD.sub (ws' := [oO xo 5 [.ref lc, .ref lt, .ref bo, .ref yo, .ref no], oO lt 7 [.int m2, .ref et, .int (nI nS)], oO no 1 [.ref (g 0), .ref (g 1), .ref (g 2), .ref (g 3), .int cnt], oO (g 0) 2 [.ref (h 0), .int (nI k)], oO (g 1) 2 [.ref (h 1), .int (nI k)], oO (g 2) 2 [.ref (h 2), .int (nI k)], oO (g 3) 2 [.ref (h 3), .int (nI k)], aI D (h 0) 100 (f 0), aI D (h 1) 100 (f 1), aI D (h 2) 100 (f 2), aI D (h 3) 100 (f 3)]) [0, 1, 2, 3, 4, 5, 6, 7, 8, 9, 10] (by decide) rfl).weaken (B := fun _ => True) (fun _ _ _ _ => trivial)
  refine ki (wr := [aL D ou 1 wf]) (rVX (FX.blind) (FX.pre hX hS (va_free' hD hS hA [0, 1, 2, 3, 4, 5, 6, 7, 8, 9, 10] rfl).2) (rest := [.int 0, .ref ou]) (qc := (RX5, TX5, 5)) [.int x, .int y] 2 0 0 hC (c_play l D (xo := xo) (lc := lc) (lt := lt) (bo := bo) (yo := yo) (no := no) (et := et) (nS := nS) (k := k) (m2 := m2) (sl := sl) (ck := ck) (cl := cl) (ta := ta) (nc := nc) (pt := pt) (len := len) (q := q) (b := b) (t := t) (ct := ct) (cn := cn) (g := g) (h := h) (RR := RR) (x := x) (y := y) (cnt := cnt) (f := f) (hz0 := H.size) (hnS) (hk) (hxx) (hyy) (hnc) (hp) (hR) (hR9)) rfl (hP 0 _ rfl) (gV mM_L_92 mI_X5_play mS_X5_play mN_X5 mC_X5_play) (by decide +kernel) rfl rfl ⟨Nat.le_of_ble_eq_true rfl, Nat.le_of_ble_eq_true rfl⟩ hG hP9 hD9 rfl hl.1 rfl (Nat.le_of_ble_eq_true rfl) dL_play_5 ⟨Nat.le_of_ble_eq_true rfl, Nat.le_of_ble_eq_true rfl⟩) hP hD hS hA [0, 1, 2, 3, 4, 5, 6, 7, 8, 9, 10] [11] rfl rfl (by decide) (by decide) (fun r5 u5 H locs h5 hP hD hS hz hfr => ?_)
  have hP : va_P D cls [aL D ou 1 wf, oO xo 5 [.ref lc, .ref lt, .ref bo, .ref yo, .ref no], oO lt 7 [.int m2, .ref et, .int (nI nS)], oO no 1 [.ref (g 0), .ref (g 1), .ref (g 2), .ref (g 3), .int ((ncP (fun z => len (ck z)) pt (fun z => ct (ck z)) (fun z => cn (ck z)) (fun z => nc (ck z)) RR x y (0, f, 0) nS).2.2)], oO (g 0) 2 [.ref (h 0), .int (nI ((ncP (fun z => len (ck z)) pt (fun z => ct (ck z)) (fun z => cn (ck z)) (fun z => nc (ck z)) RR x y (0, f, 0) nS).1))], oO (g 1) 2 [.ref (h 1), .int (nI ((ncP (fun z => len (ck z)) pt (fun z => ct (ck z)) (fun z => cn (ck z)) (fun z => nc (ck z)) RR x y (0, f, 0) nS).1))], oO (g 2) 2 [.ref (h 2), .int (nI ((ncP (fun z => len (ck z)) pt (fun z => ct (ck z)) (fun z => cn (ck z)) (fun z => nc (ck z)) RR x y (0, f, 0) nS).1))], oO (g 3) 2 [.ref (h 3), .int (nI ((ncP (fun z => len (ck z)) pt (fun z => ct (ck z)) (fun z => cn (ck z)) (fun z => nc (ck z)) RR x y (0, f, 0) nS).1))], aI D (h 0) 100 ((ncP (fun z => len (ck z)) pt (fun z => ct (ck z)) (fun z => cn (ck z)) (fun z => nc (ck z)) RR x y (0, f, 0) nS).2.1 0), aI D (h 1) 100 ((ncP (fun z => len (ck z)) pt (fun z => ct (ck z)) (fun z => cn (ck z)) (fun z => nc (ck z)) RR x y (0, f, 0) nS).2.1 1), aI D (h 2) 100 ((ncP (fun z => len (ck z)) pt (fun z => ct (ck z)) (fun z => cn (ck z)) (fun z => nc (ck z)) RR x y (0, f, 0) nS).2.1 2), aI D (h 3) 100 ((ncP (fun z => len (ck z)) pt (fun z => ct (ck z)) (fun z => cn (ck z)) (fun z => nc (ck z)) RR x y (0, f, 0) nS).2.1 3)] H := hP
  have hD : va_D A [aL D ou 1 wf, oO xo 5 [.ref lc, .ref lt, .ref bo, .ref yo, .ref no], oO lt 7 [.int m2, .ref et, .int (nI nS)], oO no 1 [.ref (g 0), .ref (g 1), .ref (g 2), .ref (g 3), .int ((ncP (fun z => len (ck z)) pt (fun z => ct (ck z)) (fun z => cn (ck z)) (fun z => nc (ck z)) RR x y (0, f, 0) nS).2.2)], oO (g 0) 2 [.ref (h 0), .int (nI ((ncP (fun z => len (ck z)) pt (fun z => ct (ck z)) (fun z => cn (ck z)) (fun z => nc (ck z)) RR x y (0, f, 0) nS).1))], oO (g 1) 2 [.ref (h 1), .int (nI ((ncP (fun z => len (ck z)) pt (fun z => ct (ck z)) (fun z => cn (ck z)) (fun z => nc (ck z)) RR x y (0, f, 0) nS).1))], oO (g 2) 2 [.ref (h 2), .int (nI ((ncP (fun z => len (ck z)) pt (fun z => ct (ck z)) (fun z => cn (ck z)) (fun z => nc (ck z)) RR x y (0, f, 0) nS).1))], oO (g 3) 2 [.ref (h 3), .int (nI ((ncP (fun z => len (ck z)) pt (fun z => ct (ck z)) (fun z => cn (ck z)) (fun z => nc (ck z)) RR x y (0, f, 0) nS).1))], aI D (h 0) 100 ((ncP (fun z => len (ck z)) pt (fun z => ct (ck z)) (fun z => cn (ck z)) (fun z => nc (ck z)) RR x y (0, f, 0) nS).2.1 0), aI D (h 1) 100 ((ncP (fun z => len (ck z)) pt (fun z => ct (ck z)) (fun z => cn (ck z)) (fun z => nc (ck z)) RR x y (0, f, 0) nS).2.1 1), aI D (h 2) 100 ((ncP (fun z => len (ck z)) pt (fun z => ct (ck z)) (fun z => cn (ck z)) (fun z => nc (ck z)) RR x y (0, f, 0) nS).2.1 2), aI D (h 3) 100 ((ncP (fun z => len (ck z)) pt (fun z => ct (ck z)) (fun z => cn (ck z)) (fun z => nc (ck z)) RR x y (0, f, 0) nS).2.1 3)] := hD
  obtain rfl : r5 = ((ncP (fun z => len (ck z)) pt (fun z => ct (ck z)) (fun z => cn (ck z)) (fun z => nc (ck z)) RR x y (0, f, 0) nS).2.2) := h5
  refine lv_i2l hx hb dL_play_8 rfl ?_
  refine lst (n := 1) (j := 0) hx hb hG hP hD hS 0 rfl (by omega) (by omega) dL_play_9 (fun H locs hP hD hS => ?_)
  have hP : va_P D cls [aL D ou 1 (vp_updL wf 0 (((ncP (fun z => len (ck z)) pt (fun z => ct (ck z)) (fun z => cn (ck z)) (fun z => nc (ck z)) RR x y (0, f, 0) nS).2.2).toInt64)), oO xo 5 [.ref lc, .ref lt, .ref bo, .ref yo, .ref no], oO lt 7 [.int m2, .ref et, .int (nI nS)], oO no 1 [.ref (g 0), .ref (g 1), .ref (g 2), .ref (g 3), .int ((ncP (fun z => len (ck z)) pt (fun z => ct (ck z)) (fun z => cn (ck z)) (fun z => nc (ck z)) RR x y (0, f, 0) nS).2.2)], oO (g 0) 2 [.ref (h 0), .int (nI ((ncP (fun z => len (ck z)) pt (fun z => ct (ck z)) (fun z => cn (ck z)) (fun z => nc (ck z)) RR x y (0, f, 0) nS).1))], oO (g 1) 2 [.ref (h 1), .int (nI ((ncP (fun z => len (ck z)) pt (fun z => ct (ck z)) (fun z => cn (ck z)) (fun z => nc (ck z)) RR x y (0, f, 0) nS).1))], oO (g 2) 2 [.ref (h 2), .int (nI ((ncP (fun z => len (ck z)) pt (fun z => ct (ck z)) (fun z => cn (ck z)) (fun z => nc (ck z)) RR x y (0, f, 0) nS).1))], oO (g 3) 2 [.ref (h 3), .int (nI ((ncP (fun z => len (ck z)) pt (fun z => ct (ck z)) (fun z => cn (ck z)) (fun z => nc (ck z)) RR x y (0, f, 0) nS).1))], aI D (h 0) 100 ((ncP (fun z => len (ck z)) pt (fun z => ct (ck z)) (fun z => cn (ck z)) (fun z => nc (ck z)) RR x y (0, f, 0) nS).2.1 0), aI D (h 1) 100 ((ncP (fun z => len (ck z)) pt (fun z => ct (ck z)) (fun z => cn (ck z)) (fun z => nc (ck z)) RR x y (0, f, 0) nS).2.1 1), aI D (h 2) 100 ((ncP (fun z => len (ck z)) pt (fun z => ct (ck z)) (fun z => cn (ck z)) (fun z => nc (ck z)) RR x y (0, f, 0) nS).2.1 2), aI D (h 3) 100 ((ncP (fun z => len (ck z)) pt (fun z => ct (ck z)) (fun z => cn (ck z)) (fun z => nc (ck z)) RR x y (0, f, 0) nS).2.1 3)] H := hP
  have hD : va_D A [aL D ou 1 (vp_updL wf 0 (((ncP (fun z => len (ck z)) pt (fun z => ct (ck z)) (fun z => cn (ck z)) (fun z => nc (ck z)) RR x y (0, f, 0) nS).2.2).toInt64)), oO xo 5 [.ref lc, .ref lt, .ref bo, .ref yo, .ref no], oO lt 7 [.int m2, .ref et, .int (nI nS)], oO no 1 [.ref (g 0), .ref (g 1), .ref (g 2), .ref (g 3), .int ((ncP (fun z => len (ck z)) pt (fun z => ct (ck z)) (fun z => cn (ck z)) (fun z => nc (ck z)) RR x y (0, f, 0) nS).2.2)], oO (g 0) 2 [.ref (h 0), .int (nI ((ncP (fun z => len (ck z)) pt (fun z => ct (ck z)) (fun z => cn (ck z)) (fun z => nc (ck z)) RR x y (0, f, 0) nS).1))], oO (g 1) 2 [.ref (h 1), .int (nI ((ncP (fun z => len (ck z)) pt (fun z => ct (ck z)) (fun z => cn (ck z)) (fun z => nc (ck z)) RR x y (0, f, 0) nS).1))], oO (g 2) 2 [.ref (h 2), .int (nI ((ncP (fun z => len (ck z)) pt (fun z => ct (ck z)) (fun z => cn (ck z)) (fun z => nc (ck z)) RR x y (0, f, 0) nS).1))], oO (g 3) 2 [.ref (h 3), .int (nI ((ncP (fun z => len (ck z)) pt (fun z => ct (ck z)) (fun z => cn (ck z)) (fun z => nc (ck z)) RR x y (0, f, 0) nS).1))], aI D (h 0) 100 ((ncP (fun z => len (ck z)) pt (fun z => ct (ck z)) (fun z => cn (ck z)) (fun z => nc (ck z)) RR x y (0, f, 0) nS).2.1 0), aI D (h 1) 100 ((ncP (fun z => len (ck z)) pt (fun z => ct (ck z)) (fun z => cn (ck z)) (fun z => nc (ck z)) RR x y (0, f, 0) nS).2.1 1), aI D (h 2) 100 ((ncP (fun z => len (ck z)) pt (fun z => ct (ck z)) (fun z => cn (ck z)) (fun z => nc (ck z)) RR x y (0, f, 0) nS).2.1 2), aI D (h 3) 100 ((ncP (fun z => len (ck z)) pt (fun z => ct (ck z)) (fun z => cn (ck z)) (fun z => nc (ck z)) RR x y (0, f, 0) nS).2.1 3)] := hD
  refine lv_goto (tgt := 17) hx hb dL_play_10 (by decide) ?_
  refine lv_iconst (v := 0) hx hb dL_play_17 (by decide) ?_
  refine Wi () hx hb hr hlk ?_ (hP.sub [1, 2, 3, 4, 5, 6, 7, 8, 9, 10, 11, 0] rfl) (hD.sub [1, 2, 3, 4, 5, 6, 7, 8, 9, 10, 11, 0] (by decide) rfl) hS (Nat.le_of_ble_eq_true rfl) (by first | exact Nat.le_of_ble_eq_true rfl | exact Nat.le_of_eq (Nat.zero_add _)) dL_play_18
  exact rfl
set_option maxHeartbeats 400000 in
set_option maxRecDepth 100000 in
theorem h_met_1 (l : Launch) (D : va_G) (hns : l.stackTraces = false) {xo lc lt bo yo no : Nat} {k : Nat} {g h : Nat → Nat} {f : Nat → Nat → Int32} {cnt : Int32} {ix w : Int32} {ou : Nat} (hz0 : Nat) (hk : k ≤ 100) (hh : ¬ ((0 ≤ ix ∧ ix ≤ nI k - 1) ∧ (0 ≤ w ∧ w ≤ 3))) : Met l yL_met (wsW_ yL_met cL_met 5 (some .int) [(0, 10, 13, 21)]) ({ frames := 7, cells := 1, slots := 6, locals := 117 } : Room) (va_Pc [.ref xo, .int ix, .int w, .ref ou] (TW D [oO xo 5 [.ref lc, .ref lt, .ref bo, .ref yo, .ref no], oO no 1 [.ref (g 0), .ref (g 1), .ref (g 2), .ref (g 3), .int cnt], oO (g 0) 2 [.ref (h 0), .int (nI k)], oO (g 1) 2 [.ref (h 1), .int (nI k)], oO (g 2) 2 [.ref (h 2), .int (nI k)], oO (g 3) 2 [.ref (h 3), .int (nI k)], aI D (h 0) 100 (f 0), aI D (h 1) 100 (f 1), aI D (h 2) 100 (f 2), aI D (h 3) 100 (f 3)] hz0)) (va_Qi (fun r (_ : Unit) => r = 1) (fun _ _ => True) (va_A [] hz0)) 1 6 (va_A [] hz0) := by
  refine va_MetW (hh := [(0, 10, 13, 21)]) (cc := cL_met) (maxL := 5) (ret := (some .int)) (by decide +kernel) rfl ?_
  intro p e s m args below meth c s₁ B hml hv
  obtain ⟨rfl, hsz, hG, hP, hZ⟩ := hv
  subst hsz
  have hx := B.exec
  have hb := B.bytes
  have hr := B.returns
  have hts : ∀ w ∈ wsL_law, w.before _ s = true := fun w h => atoms_spec (ws := (wsW_ yL_met cL_met 5 (some .int) [(0, 10, 13, 21)])) B.pre w (List.mem_cons_of_mem _ (wsL2_in w h))
  have hk15 : (Cond.classLink RL 15 "java/lang/IllegalStateException").before _ s = true := atoms_spec (ws := (wsW_ yL_met cL_met 5 (some .int) [(0, 10, 13, 21)])) B.pre _ (List.mem_cons_of_mem _ List.mem_cons_self)
  have hown : s.vm.findClass RL = some m.cls := findClass_of_methodNamed B.named
  have hlk := B.notSynchronized
  have hC : CallFix p m c cL_met 5 s _ wsL_law RL := ⟨hx, hb, hml, hown, hts⟩
  have hS : va_S (va_A [] s.heap.size) s.heap s.heap [] := va_S.rf
  have hl := lv_entry ([.ref xo, .int ix, .int w, .ref ou]) (n := 5) (Nat.le_of_ble_eq_true rfl)
  rw [lg_entry_eq]
  generalize (lg_sl ([.ref xo, .int ix, .int w, .ref ou]) ++ List.replicate (5 - (lg_sl ([.ref xo, .int ix, .int w, .ref ou])).length) Slot.unset).toArray = ls at hl ⊢
  have hl : lv_has ls 5 [(0, .ref xo), (1, .int ix), (2, .int w), (3, .ref ou)] := hl
  refine lv_aload_n hx hb dL_met_0 rfl (lv_at hl 3 rfl) ?_
  refine lv_iconst (v := 0) hx hb dL_met_1 (by decide) ?_
  refine lv_aload_n hx hb dL_met_2 rfl (lv_at hl 0 rfl) ?_
  refine lv_iload_n hx hb dL_met_3 rfl (lv_at hl 1 rfl) ?_
  refine lv_iload_n hx hb dL_met_4 rfl (lv_at hl 2 rfl) ?_
  have hP9 := hP.sub (ws' := [oO xo 5 [.ref lc, .ref lt, .ref bo, .ref yo, .ref no], oO no 1 [.ref (g 0), .ref (g 1), .ref (g 2), .ref (g 3), .int cnt], oO (g 0) 2 [.ref (h 0), .int (nI k)], oO (g 1) 2 [.ref (h 1), .int (nI k)], oO (g 2) 2 [.ref (h 2), .int (nI k)], oO (g 3) 2 [.ref (h 3), .int (nI k)], aI D (h 0) 100 (f 0), aI D (h 1) 100 (f 1), aI D (h 2) 100 (f 2), aI D (h 3) 100 (f 3)]) [0, 1, 2, 3, 4, 5, 6, 7, 8, 9] rfl
  refine vx_calli (A0 := va_A [] s.heap.size) (rX (rest := [.int 0, .ref ou]) (qc := (RX5, TX5, 5)) [.int ix, .int w] 2 hC (t_met_1 l D hns (xo := xo) (lc := lc) (lt := lt) (bo := bo) (yo := yo) (no := no) (k := k) (g := g) (h := h) (f := f) (cnt := cnt) (ix := ix) (w := w) (hz0 := s.heap.size) (hk) (hh)) rfl (hP 0 _ rfl) (gV mM_L_95 mI_X5_met mS_X5_met mN_X5 mC_X5_met) (by decide +kernel) rfl rfl ⟨Nat.le_of_ble_eq_true rfl, Nat.le_of_ble_eq_true rfl⟩ hG hP9 hZ rfl hl.1 rfl (Nat.le_of_ble_eq_true rfl) dL_met_5 ⟨Nat.le_of_ble_eq_true rfl, Nat.le_of_ble_eq_true rfl⟩) hS (fun q _ h => h) (fun q h => h) (fun q _ h => h) (fun E ce q9 u9 t H1 locs1 ht hvm hp9 hB hz hk hS1 hce hcv hcl => ?_) (fun r u t H1 locs1 ht hvm hp9 _ _ _ _ => hp9.elim)
  obtain rfl : E = "java/lang/IndexOutOfBoundsException" := hB
  have htb := vx_table (x := yL_met) B (hts _ mW_L_met)
  refine vx_catch (own := RL) (name := "java/lang/IndexOutOfBoundsException") (pc := 5) (rest := [.int 0, .ref ou]) hown [] ⟨0, 10, 13, 21⟩ [] (by rw [htb]; rfl) (fun z hz9 => absurd hz9 List.not_mem_nil) rfl (by decide) (hts _ mK_L_21) (va_Nw.use rfl (gkC hG 4 rfl)) hce hcv hcl ?_
  refine lv_astore (lv' := [(4, .ref q9), (0, .ref xo), (1, .int ix), (2, .int w), (3, .ref ou)]) hx hb dL_met_13 hl (by decide) rfl (fun ls hl => ?_)
  refine lv_iconst (v := 1) hx hb dL_met_15 (by decide) ?_
  exact W.iret (v := 1) hx hb hr (fun t ht _ => ⟨⟨_, (), rfl, rfl, trivial⟩, hS1.F ht⟩) hS1.2.2 dL_met_16 hlk
set_option maxHeartbeats 400000 in
set_option maxRecDepth 100000 in
theorem l_met (l : Launch) (D : va_G) {xo lc lt bo yo no : Nat} {k : Nat} {g h : Nat → Nat} {f : Nat → Nat → Int32} {cnt : Int32} {i w : Nat} {ou : Nat} {wf : Nat → Int64} (hz0 : Nat) (hk : k ≤ 100) (hi : i < k) (hw : w < 4) : Met l yL_met (wsW_ yL_met cL_met 5 (some .int) [(0, 10, 13, 21)]) ({ frames := 7, cells := 0, slots := 0, locals := 117 } : Room) (va_Pc [.ref xo, .int (nI i), .int (nI w), .ref ou] (SW D [oO xo 5 [.ref lc, .ref lt, .ref bo, .ref yo, .ref no], oO no 1 [.ref (g 0), .ref (g 1), .ref (g 2), .ref (g 3), .int cnt], oO (g 0) 2 [.ref (h 0), .int (nI k)], oO (g 1) 2 [.ref (h 1), .int (nI k)], oO (g 2) 2 [.ref (h 2), .int (nI k)], oO (g 3) 2 [.ref (h 3), .int (nI k)], aI D (h 0) 100 (f 0), aI D (h 1) 100 (f 1), aI D (h 2) 100 (f 2), aI D (h 3) 100 (f 3), aL D ou 1 wf] hz0)) (va_Qi (fun r _ => r = 0) (AT D (va_A [oO xo 5 [.ref lc, .ref lt, .ref bo, .ref yo, .ref no], oO no 1 [.ref (g 0), .ref (g 1), .ref (g 2), .ref (g 3), .int cnt], oO (g 0) 2 [.ref (h 0), .int (nI k)], oO (g 1) 2 [.ref (h 1), .int (nI k)], oO (g 2) 2 [.ref (h 2), .int (nI k)], oO (g 3) 2 [.ref (h 3), .int (nI k)], aI D (h 0) 100 (f 0), aI D (h 1) 100 (f 1), aI D (h 2) 100 (f 2), aI D (h 3) 100 (f 3), aL D ou 1 wf] hz0) (fun _ : Unit => [oO xo 5 [.ref lc, .ref lt, .ref bo, .ref yo, .ref no], oO no 1 [.ref (g 0), .ref (g 1), .ref (g 2), .ref (g 3), .int cnt], oO (g 0) 2 [.ref (h 0), .int (nI k)], oO (g 1) 2 [.ref (h 1), .int (nI k)], oO (g 2) 2 [.ref (h 2), .int (nI k)], oO (g 3) 2 [.ref (h 3), .int (nI k)], aI D (h 0) 100 (f 0), aI D (h 1) 100 (f 1), aI D (h 2) 100 (f 2), aI D (h 3) 100 (f 3), aL D ou 1 (vp_updL wf 0 (f w i).toInt64)])) (va_A [oO xo 5 [.ref lc, .ref lt, .ref bo, .ref yo, .ref no], oO no 1 [.ref (g 0), .ref (g 1), .ref (g 2), .ref (g 3), .int cnt], oO (g 0) 2 [.ref (h 0), .int (nI k)], oO (g 1) 2 [.ref (h 1), .int (nI k)], oO (g 2) 2 [.ref (h 2), .int (nI k)], oO (g 3) 2 [.ref (h 3), .int (nI k)], aI D (h 0) 100 (f 0), aI D (h 1) 100 (f 1), aI D (h 2) 100 (f 2), aI D (h 3) 100 (f 3), aL D ou 1 wf] hz0)) 0 0 (va_A [oO xo 5 [.ref lc, .ref lt, .ref bo, .ref yo, .ref no], oO no 1 [.ref (g 0), .ref (g 1), .ref (g 2), .ref (g 3), .int cnt], oO (g 0) 2 [.ref (h 0), .int (nI k)], oO (g 1) 2 [.ref (h 1), .int (nI k)], oO (g 2) 2 [.ref (h 2), .int (nI k)], oO (g 3) 2 [.ref (h 3), .int (nI k)], aI D (h 0) 100 (f 0), aI D (h 1) 100 (f 1), aI D (h 2) 100 (f 2), aI D (h 3) 100 (f 3), aL D ou 1 wf] hz0) := by
  refine va_MetW (hh := [(0, 10, 13, 21)]) (cc := cL_met) (maxL := 5) (ret := (some .int)) (by decide +kernel) rfl ?_
  intro p e s m args below meth c s₁ B hml hv
  obtain ⟨rfl, hsz, hG, hP, hD0⟩ := hv
  have hx := B.exec
  have hb := B.bytes
  have hr := B.returns
  have hts : ∀ w ∈ wsL_law, w.before _ s = true := fun w h => atoms_spec (ws := (wsW_ yL_met cL_met 5 (some .int) [(0, 10, 13, 21)])) B.pre w (List.mem_cons_of_mem _ (wsL2_in w h))
  have hown : s.vm.findClass RL = some m.cls := findClass_of_methodNamed B.named
  have hlk := B.notSynchronized
  have hC : CallFix p m c cL_met 5 s _ wsL_law RL := ⟨hx, hb, hml, hown, hts⟩
  subst hsz
  have hD := hD0.self (sz := s.heap.size)
  generalize hAe : va_A [oO xo 5 [.ref lc, .ref lt, .ref bo, .ref yo, .ref no], oO no 1 [.ref (g 0), .ref (g 1), .ref (g 2), .ref (g 3), .int cnt], oO (g 0) 2 [.ref (h 0), .int (nI k)], oO (g 1) 2 [.ref (h 1), .int (nI k)], oO (g 2) 2 [.ref (h 2), .int (nI k)], oO (g 3) 2 [.ref (h 3), .int (nI k)], aI D (h 0) 100 (f 0), aI D (h 1) 100 (f 1), aI D (h 2) 100 (f 2), aI D (h 3) 100 (f 3), aL D ou 1 wf] s.heap.size = A at hD ⊢
  have hA : ∀ q : Nat, s.heap.size ≤ q → A q := fun q h => by rw [← hAe]; exact Or.inr h
  have hS : va_S A s.heap s.heap [] := va_S.rf
  obtain ⟨H, hHe⟩ : ∃ H, H = s.heap := ⟨_, rfl⟩
  rw [← hHe] at hP
  have hS : va_S A s.heap H [] := by rw [hHe]; exact hS
  have hl := lv_entry ([.ref xo, .int (nI i), .int (nI w), .ref ou]) (n := 5) (Nat.le_of_ble_eq_true rfl)
  rw [lg_entry_eq]
  generalize (lg_sl ([.ref xo, .int (nI i), .int (nI w), .ref ou]) ++ List.replicate (5 - (lg_sl ([.ref xo, .int (nI i), .int (nI w), .ref ou])).length) Slot.unset).toArray = ls at hl ⊢
  have hl : lv_has ls 5 [(0, .ref xo), (1, .int (nI i)), (2, .int (nI w)), (3, .ref ou)] := hl
  rw [← hHe]
  refine lv_aload_n hx hb dL_met_0 rfl (lv_at hl 3 rfl) ?_
  refine lv_iconst (v := 0) hx hb dL_met_1 (by decide) ?_
  refine lv_aload_n hx hb dL_met_2 rfl (lv_at hl 0 rfl) ?_
  refine lv_iload_n hx hb dL_met_3 rfl (lv_at hl 1 rfl) ?_
  refine lv_iload_n hx hb dL_met_4 rfl (lv_at hl 2 rfl) ?_
  have hP9 := hP.sub (ws' := [oO xo 5 [.ref lc, .ref lt, .ref bo, .ref yo, .ref no], oO no 1 [.ref (g 0), .ref (g 1), .ref (g 2), .ref (g 3), .int cnt], oO (g 0) 2 [.ref (h 0), .int (nI k)], oO (g 1) 2 [.ref (h 1), .int (nI k)], oO (g 2) 2 [.ref (h 2), .int (nI k)], oO (g 3) 2 [.ref (h 3), .int (nI k)], aI D (h 0) 100 (f 0), aI D (h 1) 100 (f 1), aI D (h 2) 100 (f 2), aI D (h 3) 100 (f 3)]) [0, 1, 2, 3, 4, 5, 6, 7, 8, 9] rfl
  refine vp_callSi (pV (rest := [.int 0, .ref ou]) (qc := (RX5, TX5, 5)) [.int (nI i), .int (nI w)] 2 hC (c_met l D (xo := xo) (lc := lc) (lt := lt) (bo := bo) (yo := yo) (no := no) (k := k) (g := g) (h := h) (f := f) (cnt := cnt) (i := i) (w := w) (hk) (hi) (hw)) rfl (hP 0 _ rfl) (gV mM_L_95 mI_X5_met mS_X5_met mN_X5 mC_X5_met) (by decide +kernel) rfl rfl ⟨Nat.le_of_ble_eq_true rfl, Nat.le_of_ble_eq_true rfl⟩ hG hP9 rfl hl.1 rfl (Nat.le_of_ble_eq_true rfl) dL_met_5 ⟨Nat.le_of_ble_eq_true rfl, Nat.le_of_ble_eq_true rfl⟩) (fun r5 h5 => ?_)
  obtain rfl : r5 = (f w i) := h5
  refine lv_i2l hx hb dL_met_8 rfl ?_
  refine lst (n := 1) (j := 0) hx hb hG hP hD hS 10 rfl (by omega) (by omega) dL_met_9 (fun H locs hP hD hS => ?_)
  have hP : va_P D cls [oO xo 5 [.ref lc, .ref lt, .ref bo, .ref yo, .ref no], oO no 1 [.ref (g 0), .ref (g 1), .ref (g 2), .ref (g 3), .int cnt], oO (g 0) 2 [.ref (h 0), .int (nI k)], oO (g 1) 2 [.ref (h 1), .int (nI k)], oO (g 2) 2 [.ref (h 2), .int (nI k)], oO (g 3) 2 [.ref (h 3), .int (nI k)], aI D (h 0) 100 (f 0), aI D (h 1) 100 (f 1), aI D (h 2) 100 (f 2), aI D (h 3) 100 (f 3), aL D ou 1 (vp_updL wf 0 ((f w i).toInt64))] H := hP
  have hD : va_D A [oO xo 5 [.ref lc, .ref lt, .ref bo, .ref yo, .ref no], oO no 1 [.ref (g 0), .ref (g 1), .ref (g 2), .ref (g 3), .int cnt], oO (g 0) 2 [.ref (h 0), .int (nI k)], oO (g 1) 2 [.ref (h 1), .int (nI k)], oO (g 2) 2 [.ref (h 2), .int (nI k)], oO (g 3) 2 [.ref (h 3), .int (nI k)], aI D (h 0) 100 (f 0), aI D (h 1) 100 (f 1), aI D (h 2) 100 (f 2), aI D (h 3) 100 (f 3), aL D ou 1 (vp_updL wf 0 ((f w i).toInt64))] := hD
  refine lv_goto (tgt := 17) hx hb dL_met_10 (by decide) ?_
  refine lv_iconst (v := 0) hx hb dL_met_17 (by decide) ?_
  refine Wi () hx hb hr hlk ?_ hP hD hS (Nat.le_of_ble_eq_true rfl) (by first | exact Nat.le_of_ble_eq_true rfl | exact Nat.le_of_eq (Nat.zero_add _)) dL_met_18
  exact rfl
