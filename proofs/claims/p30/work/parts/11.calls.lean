/-- what a reading method asks, what a writing one -/
def PW (D : va_G) (wc : va_W) : State → Prop := fun U => GK D U ∧ va_P D cls wc U.heap
def SW (D : va_G) (wc : va_W) (sz : Nat) : State → Prop := fun U => U.heap.size = sz ∧ GK D U ∧ va_P D cls wc U.heap ∧ va_D (fun _ => True) wc
theorem PW.blind {D : va_G} {wc : va_W} {av : List Value} : FrameBlind (va_Pc av (PW D wc)) := fun a U g mk h => ⟨h.1, GK.vm (U := U.calling g mk a) rfl h.2.1, h.2.2⟩
theorem SW.blind {D : va_G} {wc : va_W} {sz : Nat} {av : List Value} : FrameBlind (va_Pc av (SW D wc sz)) := fun a U g mk h => ⟨h.1, h.2.1, GK.vm (U := U.calling g mk a) rfl h.2.2.1, h.2.2.2⟩
theorem PW.pre {D : va_G} {wc : va_W} {H : Heap} {s : State} {As : List Value} (hG : GK D s) (hP : va_P D cls wc H) : ∀ U : State, U.heap = H → s.WarmedH U.vm → va_Pc As (PW D wc) As.toArray U := fun U hU hW => ⟨rfl, GK.warm hW hG, by rw [hU]; exact hP⟩
theorem SW.pre {D : va_G} {wc : va_W} {H : Heap} {s : State} {As : List Value} (hG : GK D s) (hP : va_P D cls wc H) (hD : va_D (fun _ => True) wc) : ∀ U : State, U.heap = H → s.WarmedH U.vm → va_Pc As (SW D wc H.size) As.toArray U := fun U hU hW => ⟨rfl, by rw [hU], GK.warm hW hG, by rw [hU]; exact hP, hD⟩
/-- a cell of a known class: a receiver -/
theorem rcv {D : va_G} {s : State} {H : Heap} {a ci : Nat} {q : vw_C} {fs : List Value} (hG : GK D s) (hA : va_at D cls (a, .inr (ci, fs)) H) (hc : cls[ci]? = some q) : ∃ cell : Cell, H[a]? = some cell ∧ cell.vm.isStatics = false ∧ s.vm.findClass q.1 = some cell.cls := va_recv (ws := [(a, .inr (ci, fs))]) (q0 := 0) hG.K (fun k q h => by
  cases k with
  | zero => cases h; exact hA
  | succ k => simp at h) hc rfl
section CALLS
variable {p : Program} {l : Launch} {e : Env} {R : Room} {s : State} {m : MethodId} {args : Array Value} {below : List Frame} {meth : Method} {c : Code} {H : Heap} {locs : List Loc} {cells slots : Nat} {Q : State → Prop}
variable {y : MethodName} {bytes cc : ByteArray} {maxL nL index pc : Nat} {ret : Option FieldType} {rm : Room} {own : String} {b ci : Nat} {st0 rest : List Value} {ls : Array Slot} {D : va_G} {wc : va_W} {fs : List Value} {qc : vw_C}
/-- a call of a reading method, by its receiver -/
theorem pV (As : List Value) (n : Nat) {Qc : Array Value → State → Outcome → State → Prop} (S : CallFix p m c cc nL s args wsL_law own) (hM : Met l y (ws_ y bytes maxL ret) rm (va_Pc (.ref b :: As) (PW D wc)) Qc 0 0 (fun _ => False)) (hc : cls[ci]? = some qc) (hA : va_at D cls (b, .inr (ci, fs)) H) (g : GoodIn wsL_law (wsV own index qc.1 y (ws_ y bytes maxL ret))) (hd : y.cls = qc.1 ∧ y.cls ≠ "java/lang/invoke/MethodHandle" ∧ y.cls ≠ "java/lang/invoke/VarHandle" ∧ (parseMethodDescriptor y.desc).map (fun d => d.parameters.length) = some n) (hrc : rm.cells = 0) (hrs : rm.slots = 0) (hR : rm.frames + 1 ≤ R.frames ∧ 8 + (maxL + 11) + rm.locals ≤ R.locals) (hG : GK D s) (hP : va_P D cls wc H) (hn : As.length = n) (hsize : ls.size = nL) (hst : st0 = As.reverse ++ .ref b :: rest) (hW : (rest.map fun v => v.category).sum ≤ 8) (hdg : decode cc pc = .ok (.invokevirtual index, 3)) (hcs : cells ≤ R.cells ∧ slots ≤ R.slots) :
    CallRun p l e R s m args below meth c H locs cells slots 0 0 (F0 m pc ls st0) rest (Qc (.ref b :: As).toArray) (fun _ => False) :=
  W.runV S hM (cwV n S.2.2.2.2 g rfl hrc hrs hd hR) ⟨PW.blind, rcv hG hA hc, PW.pre hG hP⟩ rfl hn hsize hst (lv_room hW) hdg hcs
theorem pS (As : List Value) (n : Nat) {Qc : Array Value → State → Outcome → State → Prop} (S : CallFix p m c cc nL s args wsL_law own) (hM : Met l y (ws_ y bytes maxL ret) rm (va_Pc As (PW D wc)) Qc 0 0 (fun _ => False)) (g : GoodIn wsL_law (va_wsS own index y (ws_ y bytes maxL ret))) (hd : y.cls ≠ "java/lang/invoke/MethodHandle" ∧ y.cls ≠ "java/lang/invoke/VarHandle" ∧ (parseMethodDescriptor y.desc).map (fun d => d.parameters.length) = some n) (hrc : rm.cells = 0) (hrs : rm.slots = 0) (hR : rm.frames + 1 ≤ R.frames ∧ 8 + (maxL + 11) + rm.locals ≤ R.locals) (hG : GK D s) (hP : va_P D cls wc H) (hn : As.length = n) (hsize : ls.size = nL) (hst : st0 = As.reverse ++ rest) (hW : (rest.map fun v => v.category).sum ≤ 8) (hdg : decode cc pc = .ok (.invokestatic index, 3)) (hcs : cells ≤ R.cells ∧ slots ≤ R.slots) :
    CallRun p l e R s m args below meth c H locs cells slots 0 0 (F0 m pc ls st0) rest (Qc As.toArray) (fun _ => False) :=
  W.runS S hM (va_cwS n S.2.2.2.2 g rfl hrc hrs hd hR) ⟨PW.blind, PW.pre hG hP⟩ rfl hn hsize hst (lv_room hW) hdg hcs
/-- a nest mate's static method -/
theorem pSN {host : String} (As : List Value) (n : Nat) {Qc : Array Value → State → Outcome → State → Prop} (S : CallFix p m c cc nL s args wsL_law own) (hM : Met l y (ws_ y bytes maxL ret) rm (va_Pc As (PW D wc)) Qc 0 0 (fun _ => False)) (hl : va_Nw (.methodLinkNest own index y host) s) (h2 : Cond.static y ∈ wsL_law) (h4 : Cond.initialized y.cls ∈ wsL_law) (h5 : Cond.code y bytes maxL ret ∈ wsL_law) (hd : y.cls ≠ "java/lang/invoke/MethodHandle" ∧ y.cls ≠ "java/lang/invoke/VarHandle" ∧ (parseMethodDescriptor y.desc).map (fun d => d.parameters.length) = some n) (hrc : rm.cells = 0) (hrs : rm.slots = 0) (hR : rm.frames + 1 ≤ R.frames ∧ 8 + (maxL + 11) + rm.locals ≤ R.locals) (hG : GK D s) (hP : va_P D cls wc H) (hn : As.length = n) (hsize : ls.size = nL) (hst : st0 = As.reverse ++ rest) (hW : (rest.map fun v => v.category).sum ≤ 8) (hdg : decode cc pc = .ok (.invokestatic index, 3)) (hcs : cells ≤ R.cells ∧ slots ≤ R.slots) :
    CallRun p l e R s m args below meth c H locs cells slots 0 0 (F0 m pc ls st0) rest (Qc As.toArray) (fun _ => False) :=
  (va_runSN S hM ⟨va_cnB n S.2.2.2.2 (gW h5) rfl hrc hrs hl (S.2.2.2.2 _ h4) hd hR, S.2.2.2.2 _ h2, trivial⟩ ⟨PW.blind, PW.pre hG hP⟩ rfl hn hsize hst (lv_room hW) hdg hcs).run
/-- calls of writing methods -/
theorem rV (As : List Value) (n mc ms : Nat) {Qc : Array Value → State → Outcome → State → Prop} (S : CallFix p m c cc nL s args wsL_law own) (hM : Met l y (ws_ y bytes maxL ret) rm (va_Pc (.ref b :: As) (SW D wc H.size)) Qc mc ms (va_A wc H.size)) (hc : cls[ci]? = some qc) (hA : va_at D cls (b, .inr (ci, fs)) H) (g : GoodIn wsL_law (wsV own index qc.1 y (ws_ y bytes maxL ret))) (hd : y.cls = qc.1 ∧ y.cls ≠ "java/lang/invoke/MethodHandle" ∧ y.cls ≠ "java/lang/invoke/VarHandle" ∧ (parseMethodDescriptor y.desc).map (fun d => d.parameters.length) = some n) (hrc : rm.cells = mc) (hrs : rm.slots = ms) (hR : rm.frames + 1 ≤ R.frames ∧ 8 + (maxL + 11) + rm.locals ≤ R.locals) (hG : GK D s) (hP : va_P D cls wc H) (hD : va_D (fun _ => True) wc) (hn : As.length = n) (hsize : ls.size = nL) (hst : st0 = As.reverse ++ .ref b :: rest) (hW : (rest.map fun v => v.category).sum ≤ 8) (hdg : decode cc pc = .ok (.invokevirtual index, 3)) (hcs : cells + mc ≤ R.cells ∧ slots + ms ≤ R.slots) :
    va_Run p l e R s m args below meth c H locs cells slots mc ms (F0 m pc ls st0) rest (Qc (.ref b :: As).toArray) (va_A wc H.size) :=
  va_runV S hM (cwV n S.2.2.2.2 g rfl hrc hrs hd hR) ⟨SW.blind, rcv hG hA hc, SW.pre hG hP hD⟩ rfl hn hsize hst (lv_room hW) hdg hcs
theorem rI (As : List Value) (n mc ms : Nat) {Qc : Array Value → State → Outcome → State → Prop} (S : CallFix p m c cc nL s args wsL_law own) (hM : Met l y (ws_ y bytes maxL none) rm (va_Pc (.ref b :: As) (SW D wc H.size)) Qc mc ms (va_A wc H.size)) (h1 : Cond.methodLink own index y ∈ wsL_law) (h2 : Cond.instanceMethod y ∈ wsL_law) (h4 : Cond.initialized y.cls ∈ wsL_law) (h5 : Cond.code y bytes maxL none ∈ wsL_law) (hy : y.name = "<init>") (hd : y.cls ≠ "java/lang/invoke/MethodHandle" ∧ y.cls ≠ "java/lang/invoke/VarHandle" ∧ (parseMethodDescriptor y.desc).map (fun d => d.parameters.length) = some n) (hrc : rm.cells = mc) (hrs : rm.slots = ms) (hR : rm.frames + 1 ≤ R.frames ∧ 8 + (maxL + 11) + rm.locals ≤ R.locals) (hG : GK D s) (hP : va_P D cls wc H) (hD : va_D (fun _ => True) wc) (hn : As.length = n) (hsize : ls.size = nL) (hst : st0 = As.reverse ++ .ref b :: rest) (hW : (rest.map fun v => v.category).sum ≤ 8) (hdg : decode cc pc = .ok (.invokespecial index, 3)) (hcs : cells + mc ≤ R.cells ∧ slots + ms ≤ R.slots) :
    va_Run p l e R s m args below meth c H locs cells slots mc ms (F0 m pc ls st0) rest (Qc (.ref b :: As).toArray) (va_A wc H.size) :=
  va_runI S hM (cwI n S.2.2.2.2 (gW h5) rfl hrc hrs (S.2.2.2.2 _ h4) (S.2.2.2.2 _ h1) (S.2.2.2.2 _ h2) hy hd hR) ⟨SW.blind, SW.pre hG hP hD⟩ rfl hn hsize hst (lv_room hW) hdg hcs
theorem rIN {host : String} (As : List Value) (n mc ms : Nat) {Qc : Array Value → State → Outcome → State → Prop} (S : CallFix p m c cc nL s args wsL_law own) (hM : Met l y (ws_ y bytes maxL none) rm (va_Pc (.ref b :: As) (SW D wc H.size)) Qc mc ms (va_A wc H.size)) (hl : va_Nw (.methodLinkNest own index y host) s) (h2 : Cond.instanceMethod y ∈ wsL_law) (h4 : Cond.initialized y.cls ∈ wsL_law) (h5 : Cond.code y bytes maxL none ∈ wsL_law) (hy : y.name = "<init>") (hd : y.cls ≠ "java/lang/invoke/MethodHandle" ∧ y.cls ≠ "java/lang/invoke/VarHandle" ∧ (parseMethodDescriptor y.desc).map (fun d => d.parameters.length) = some n) (hrc : rm.cells = mc) (hrs : rm.slots = ms) (hR : rm.frames + 1 ≤ R.frames ∧ 8 + (maxL + 11) + rm.locals ≤ R.locals) (hG : GK D s) (hP : va_P D cls wc H) (hD : va_D (fun _ => True) wc) (hn : As.length = n) (hsize : ls.size = nL) (hst : st0 = As.reverse ++ .ref b :: rest) (hW : (rest.map fun v => v.category).sum ≤ 8) (hdg : decode cc pc = .ok (.invokespecial index, 3)) (hcs : cells + mc ≤ R.cells ∧ slots + ms ≤ R.slots) :
    va_Run p l e R s m args below meth c H locs cells slots mc ms (F0 m pc ls st0) rest (Qc (.ref b :: As).toArray) (va_A wc H.size) :=
  va_runIN S hM ⟨va_cnB n S.2.2.2.2 (gW h5) rfl hrc hrs hl (S.2.2.2.2 _ h4) hd hR, hy, S.2.2.2.2 _ h2⟩ ⟨SW.blind, SW.pre hG hP hD⟩ rfl hn hsize hst (lv_room hW) hdg hcs
/-- what a writing method leaves -/
def AT {S : Type} (D : va_G) (A : Nat → Prop) (w1 : S → va_W) : S → State → Prop := fun u t => va_P D cls (w1 u) t.heap ∧ va_D A (w1 u)
variable {ws wr : va_W} {A0 : Nat → Prop} {H0 : Heap} {mc ms : Nat} {a : Array Value}
theorem va_free' (hD : va_D A0 ws) (hS : va_S A0 H0 H locs) (hA : ∀ q, H0.size ≤ q → A0 q) (isC : List Nat) (hC : isC.map (fun i => ws[i]?) = wc.map some) : (∀ q, q < H.size → va_A wc H.size q → A0 q) ∧ ∀ q, va_A wc H.size q → A0 q := ⟨fun q _ h => va_free hD hS hA isC hC q h, va_free hD hS hA isC hC⟩
theorem kv {S : Type} {post : S → Prop} {w1 : S → va_W} (hr : va_Run p l e R s m args below meth c H locs cells slots mc ms (F0 m pc ls st0) rest (va_Qv post (AT D (va_A wc H.size) w1) (va_A wc H.size) a) (va_A wc H.size)) (hP : va_P D cls ws H) (hD : va_D A0 ws) (hS : va_S A0 H0 H locs) (hA : ∀ q, H0.size ≤ q → A0 q) (isC isR : List Nat) (hC : isC.map (fun i => ws[i]?) = wc.map some) (hR : isR.map (fun i => ws[i]?) = wr.map some) (hn : va_nd isR = true) (hdis : ∀ i ∈ isR, i ∉ isC)
    (kk : ∀ (u : S) (H1 : Heap) (locs1 : List Loc), post u → va_P D cls (wr ++ w1 u) H1 → va_D A0 (wr ++ w1 u) → va_S A0 H0 H1 locs1 → H.size ≤ H1.size → (∀ q : Nat, q < H.size → ¬ va_A wc H.size q → H1[q]? = H[q]?) → W p l e R s m args below meth c H1 locs1 (cells + mc) (slots + ms) Q (F0 m (pc + 3) ls rest)) : W p l e R s m args below meth c H locs cells slots Q (F0 m pc ls st0) :=
  va_callv hr hS (va_free' hD hS hA isC hC).1 (va_free' hD hS hA isC hC).2 fun u t H1 locs1 ht _ hp hB hz hk hS1 => by
    obtain ⟨hP1, hD1⟩ := hB
    rw [ht] at hP1
    obtain ⟨hP2, hD2⟩ := va_join hP hD isC isR hC hR hn hdis hk (va_free' hD hS hA isC hC).2 hP1 hD1
    exact kk u H1 locs1 hp hP2 hD2 hS1 hz hk
theorem ki {S : Type} {post : Int32 → S → Prop} {w1 : S → va_W} (hr : va_Run p l e R s m args below meth c H locs cells slots mc ms (F0 m pc ls st0) rest (va_Qi post (AT D (va_A wc H.size) w1) (va_A wc H.size) a) (va_A wc H.size)) (hP : va_P D cls ws H) (hD : va_D A0 ws) (hS : va_S A0 H0 H locs) (hA : ∀ q, H0.size ≤ q → A0 q) (isC isR : List Nat) (hC : isC.map (fun i => ws[i]?) = wc.map some) (hR : isR.map (fun i => ws[i]?) = wr.map some) (hn : va_nd isR = true) (hdis : ∀ i ∈ isR, i ∉ isC)
    (kk : ∀ (r : Int32) (u : S) (H1 : Heap) (locs1 : List Loc), post r u → va_P D cls (wr ++ w1 u) H1 → va_D A0 (wr ++ w1 u) → va_S A0 H0 H1 locs1 → H.size ≤ H1.size → (∀ q : Nat, q < H.size → ¬ va_A wc H.size q → H1[q]? = H[q]?) → W p l e R s m args below meth c H1 locs1 (cells + mc) (slots + ms) Q (F0 m (pc + 3) ls (.int r :: rest))) : W p l e R s m args below meth c H locs cells slots Q (F0 m pc ls st0) :=
  va_calli hr hS (va_free' hD hS hA isC hC).1 (va_free' hD hS hA isC hC).2 fun r u t H1 locs1 ht _ hp hB hz hk hS1 => by
    obtain ⟨hP1, hD1⟩ := hB
    rw [ht] at hP1
    obtain ⟨hP2, hD2⟩ := va_join hP hD isC isR hC hR hn hdis hk (va_free' hD hS hA isC hC).2 hP1 hD1
    exact kk r u H1 locs1 hp hP2 hD2 hS1 hz hk
theorem kl {S : Type} {post : Int64 → S → Prop} {w1 : S → va_W} (hr : va_Run p l e R s m args below meth c H locs cells slots mc ms (F0 m pc ls st0) rest (va_Ql post (AT D (va_A wc H.size) w1) (va_A wc H.size) a) (va_A wc H.size)) (hP : va_P D cls ws H) (hD : va_D A0 ws) (hS : va_S A0 H0 H locs) (hA : ∀ q, H0.size ≤ q → A0 q) (isC isR : List Nat) (hC : isC.map (fun i => ws[i]?) = wc.map some) (hR : isR.map (fun i => ws[i]?) = wr.map some) (hn : va_nd isR = true) (hdis : ∀ i ∈ isR, i ∉ isC)
    (kk : ∀ (r : Int64) (u : S) (H1 : Heap) (locs1 : List Loc), post r u → va_P D cls (wr ++ w1 u) H1 → va_D A0 (wr ++ w1 u) → va_S A0 H0 H1 locs1 → H.size ≤ H1.size → (∀ q : Nat, q < H.size → ¬ va_A wc H.size q → H1[q]? = H[q]?) → W p l e R s m args below meth c H1 locs1 (cells + mc) (slots + ms) Q (F0 m (pc + 3) ls (.long r :: rest))) : W p l e R s m args below meth c H locs cells slots Q (F0 m pc ls st0) :=
  va_calll hr hS (va_free' hD hS hA isC hC).1 (va_free' hD hS hA isC hC).2 fun r u t H1 locs1 ht _ hp hB hz hk hS1 => by
    obtain ⟨hP1, hD1⟩ := hB
    rw [ht] at hP1
    obtain ⟨hP2, hD2⟩ := va_join hP hD isC isR hC hR hn hdis hk (va_free' hD hS hA isC hC).2 hP1 hD1
    exact kk r u H1 locs1 hp hP2 hD2 hS1 hz hk
end CALLS
section ENDS
variable {p : Program} {l : Launch} {e : Env} {R : Room} {s : State} {m : MethodId} {args : Array Value} {below : List Frame} {meth : Method} {c : Code} {H : Heap} {locs : List Loc} {cells slots mc ms : Nat} {cc : ByteArray} {pc : Nat} {ls : Array Slot} {D : va_G} {A : Nat → Prop}
/-- the ends of reading methods -/
theorem Ri {post : Int32 → Prop} {v : Int32} (hx : p.tables.exec = Jvm.exec) (hb : c.code = cc) (hr : meth.sig.returnType = some .int) (hk : meth.locks = false) (hp : post v) (hdg : decode cc pc = .ok (.ireturn, 1)) : W p l e R s m args below meth c s.heap [] 0 0 (MQ below (vp_Si post) args s 0 0 (fun _ => False)) (F0 m pc ls [.int v]) := W.iret hx hb hr (fun t ht _ => ⟨v, rfl, hp, ht⟩) (fun q hq => absurd hq List.not_mem_nil) hdg hk
theorem Rz {post : Int32 → Prop} {v : Int32} (hx : p.tables.exec = Jvm.exec) (hb : c.code = cc) (hr : meth.sig.returnType = some .boolean) (hk : meth.locks = false) (hn : narrow .boolean (.int v) = .int v) (hp : post v) (hdg : decode cc pc = .ok (.ireturn, 1)) : W p l e R s m args below meth c s.heap [] 0 0 (MQ below (vp_Si post) args s 0 0 (fun _ => False)) (F0 m pc ls [.int v]) := W.zret hx hb hr hn (fun t ht _ => ⟨v, rfl, hp, ht⟩) (fun q hq => absurd hq List.not_mem_nil) hdg hk
theorem Rl {post : Int64 → Prop} {v : Int64} (hx : p.tables.exec = Jvm.exec) (hb : c.code = cc) (hr : meth.sig.returnType = some .long) (hk : meth.locks = false) (hp : post v) (hdg : decode cc pc = .ok (.lreturn, 1)) : W p l e R s m args below meth c s.heap [] 0 0 (MQ below (vp_Sl post) args s 0 0 (fun _ => False)) (F0 m pc ls [.long v]) := W.lret hx hb hr (fun t ht _ => ⟨v, rfl, hp, ht⟩) (fun q hq => absurd hq List.not_mem_nil) hdg hk
theorem Rq {post : Option Nat → Prop} {C : String} {v : Option Nat} (hx : p.tables.exec = Jvm.exec) (hb : c.code = cc) (hr : meth.sig.returnType = some (.object C)) (hk : meth.locks = false) (hp : post v) (hdg : decode cc pc = .ok (.areturn, 1)) : W p l e R s m args below meth c s.heap [] 0 0 (MQ below (va_Sq post) args s 0 0 (fun _ => False)) (F0 m pc ls [va_rf v]) := W.aret hx hb hr (Or.inl ⟨_, rfl⟩) (va_rf_or v) (fun t ht _ => ⟨v, rfl, hp, ht⟩) (fun q hq => absurd hq List.not_mem_nil) hdg hk
/-- the ends of writing ones -/
theorem Wv {S : Type} {post : S → Prop} {w1 : S → va_W} (u : S) (hx : p.tables.exec = Jvm.exec) (hb : c.code = cc) (hr : meth.sig.returnType = none) (hk : meth.locks = false) (hp : post u) (hP : va_P D cls (w1 u) H) (hD : va_D A (w1 u)) (hS : va_S A s.heap H locs) (hc : cells ≤ mc) (hs : slots ≤ ms) (hdg : decode cc pc = .ok (.return_, 1)) : W p l e R s m args below meth c H locs cells slots (MQ below (va_Qv post (AT D A w1) A) args s mc ms A) (F0 m pc ls []) := W.widen hc hs (W.vret hx hb hr (fun t ht _ => ⟨⟨u, rfl, hp, by rw [ht]; exact hP, hD⟩, hS.F ht⟩) hS.2.2 hdg hk)
theorem Wi {S : Type} {post : Int32 → S → Prop} {w1 : S → va_W} {v : Int32} (u : S) (hx : p.tables.exec = Jvm.exec) (hb : c.code = cc) (hr : meth.sig.returnType = some .int) (hk : meth.locks = false) (hp : post v u) (hP : va_P D cls (w1 u) H) (hD : va_D A (w1 u)) (hS : va_S A s.heap H locs) (hc : cells ≤ mc) (hs : slots ≤ ms) (hdg : decode cc pc = .ok (.ireturn, 1)) : W p l e R s m args below meth c H locs cells slots (MQ below (va_Qi post (AT D A w1) A) args s mc ms A) (F0 m pc ls [.int v]) := W.widen hc hs (W.iret hx hb hr (fun t ht _ => ⟨⟨v, u, rfl, hp, by rw [ht]; exact hP, hD⟩, hS.F ht⟩) hS.2.2 hdg hk)
theorem Wz {S : Type} {post : Int32 → S → Prop} {w1 : S → va_W} {v : Int32} (u : S) (hx : p.tables.exec = Jvm.exec) (hb : c.code = cc) (hr : meth.sig.returnType = some .boolean) (hk : meth.locks = false) (hn : narrow .boolean (.int v) = .int v) (hp : post v u) (hP : va_P D cls (w1 u) H) (hD : va_D A (w1 u)) (hS : va_S A s.heap H locs) (hc : cells ≤ mc) (hs : slots ≤ ms) (hdg : decode cc pc = .ok (.ireturn, 1)) : W p l e R s m args below meth c H locs cells slots (MQ below (va_Qi post (AT D A w1) A) args s mc ms A) (F0 m pc ls [.int v]) := W.widen hc hs (W.zret hx hb hr hn (fun t ht _ => ⟨⟨v, u, rfl, hp, by rw [ht]; exact hP, hD⟩, hS.F ht⟩) hS.2.2 hdg hk)
end ENDS
section ROWS
variable {p : Program} {l : Launch} {e : Env} {R : Room} {s : State} {m : MethodId} {args : Array Value} {below : List Frame} {meth : Method} {c : Code} {H : Heap} {locs : List Loc} {cells slots : Nat} {Q : State → Prop}
variable {cc : ByteArray} {pc : Nat} {ls : Array Slot} {rest : List Value} {D : va_G} {A : Nat → Prop} {a : Nat} {ws : va_W} {H0 : Heap}
/-- another name of the top -/
theorem tpi {x y : Int32} (h : x = y) (k : W p l e R s m args below meth c H locs cells slots Q (F0 m pc ls (.int y :: rest))) : W p l e R s m args below meth c H locs cells slots Q (F0 m pc ls (.int x :: rest)) := h ▸ k
theorem tpl {x y : Int64} (h : x = y) (k : W p l e R s m args below meth c H locs cells slots Q (F0 m pc ls (.long y :: rest))) : W p l e R s m args below meth c H locs cells slots Q (F0 m pc ls (.long x :: rest)) := h ▸ k
theorem tpv {x y : Value} (h : x = y) (k : W p l e R s m args below meth c H locs cells slots Q (F0 m pc ls (y :: rest))) : W p l e R s m args below meth c H locs cells slots Q (F0 m pc ls (x :: rest)) := h ▸ k
theorem ild (hx : p.tables.exec = Jvm.exec) (hb : c.code = cc) (hG : GK D s) (hP : va_P D cls ws H) (q0 : Nat) {n j : Nat} {f : Nat → Int32} (ha : ws[q0]? = some (aI D a n f)) (hj : j < n) (hn : n < 2 ^ 31) (hdg : decode cc pc = .ok (.iaload, 1))
    (kk : W p l e R s m args below meth c H locs cells slots Q (F0 m (pc + 1) ls (.int (f j) :: rest))) : W p l e R s m args below meth c H locs cells slots Q (F0 m pc ls (.int (nI j) :: .ref a :: rest)) :=
  va_iald hx hb hG.K hP q0 0 ha rfl (vp_in_nI hj hn) hdg (tpi (by rw [nI_clamp (Nat.lt_trans hj hn)]) kk)
theorem ist (hx : p.tables.exec = Jvm.exec) (hb : c.code = cc) (hG : GK D s) (hP : va_P D cls ws H) (hD : va_D A ws) (hS : va_S A H0 H locs) (q0 : Nat) {n j : Nat} {f : Nat → Int32} {x : Int32} (ha : ws[q0]? = some (aI D a n f)) (hj : j < n) (hn : n < 2 ^ 31) (hdg : decode cc pc = .ok (.iastore, 1))
    (kk : ∀ (H1 : Heap) (locs1 : List Loc), va_P D cls (ws.set q0 (aI D a n (upd f j x))) H1 → va_D A (ws.set q0 (aI D a n (upd f j x))) → va_S A H0 H1 locs1 → W p l e R s m args below meth c H1 locs1 cells slots Q (F0 m (pc + 1) ls rest)) : W p l e R s m args below meth c H locs cells slots Q (F0 m pc ls (.int x :: .int (nI j) :: .ref a :: rest)) :=
  va_iast hx hb hG.K hP hD hS q0 0 ha rfl (vp_in_nI hj hn) hdg (by rw [nI_clamp (Nat.lt_trans hj hn)]; exact kk)
theorem iln (hx : p.tables.exec = Jvm.exec) (hb : c.code = cc) (hG : GK D s) (hP : va_P D cls ws H) (q0 : Nat) {n : Nat} {f : Nat → Int32} (ha : ws[q0]? = some (aI D a n f)) (hdg : decode cc pc = .ok (.arraylength, 1))
    (kk : W p l e R s m args below meth c H locs cells slots Q (F0 m (pc + 1) ls (.int (nI n) :: rest))) : W p l e R s m args below meth c H locs cells slots Q (F0 m pc ls (.ref a :: rest)) :=
  va_alen hx hb hG.K hP q0 0 ha rfl rfl hdg kk
theorem ald (hx : p.tables.exec = Jvm.exec) (hb : c.code = cc) (hG : GK D s) (hP : va_P D cls ws H) (q0 t0 : Nat) {n j : Nat} {cA : ClassId} {C : String} {f : Nat → Option Nat} (ha : ws[q0]? = some (a, .inl (cA, n, .inr (.inr (.inr (.inr f)))))) (ht : (tys D)[t0]? = some (cA, .object C)) (hj : j < n) (hn : n < 2 ^ 31) (hdg : decode cc pc = .ok (.aaload, 1))
    (kk : W p l e R s m args below meth c H locs cells slots Q (F0 m (pc + 1) ls (va_rf (f j) :: rest))) : W p l e R s m args below meth c H locs cells slots Q (F0 m pc ls (.int (nI j) :: .ref a :: rest)) :=
  va_aldq hx hb hG.K hP q0 t0 ha ht (vp_in_nI hj hn) hdg (tpv (by rw [nI_clamp (Nat.lt_trans hj hn)]) kk)
theorem ast (hx : p.tables.exec = Jvm.exec) (hb : c.code = cc) (hG : GK D s) (hP : va_P D cls ws H) (hD : va_D A ws) (hS : va_S A H0 H locs) (q0 qk : Nat) {n j v : Nat} {f : Nat → Option Nat} {vs : List Value} (ha : ws[q0]? = some (aT D a n f)) (hv : ws[qk]? = some (v, .inr (4, vs))) (hj : j < n) (hn : n < 2 ^ 31) (hdg : decode cc pc = .ok (.aastore, 1))
    (kk : ∀ (H1 : Heap) (locs1 : List Loc), va_P D cls (ws.set q0 (aT D a n (va_up f j (some v)))) H1 → va_D A (ws.set q0 (aT D a n (va_up f j (some v)))) → va_S A H0 H1 locs1 → W p l e R s m args below meth c H1 locs1 cells slots Q (F0 m (pc + 1) ls rest)) : W p l e R s m args below meth c H locs cells slots Q (F0 m pc ls (.ref v :: .int (nI j) :: .ref a :: rest)) :=
  va_astq hx hb hG.K hP hD hS q0 3 qk 4 (r := (RX4, TX4, 3)) ha rfl hv rfl (vp_in_nI hj hn) hdg (by rw [nI_clamp (Nat.lt_trans hj hn)]; exact kk)
theorem cI_eq {cA : ClassId} {ty : FieldType} {cB : ClassId} (h : va_RA s cA ty) (h2 : va_RA s cB ty) (hty : ty = .int ∨ ty = .long ∨ ty = .double) : cA = cB := by
  rcases hty with rfl | rfl | rfl <;> exact Option.some.inj ((show _ = some cA from h).symm.trans (show _ = some cB from h2))
theorem narI (hx : p.tables.exec = Jvm.exec) (hb : c.code = cc) (hG : GK D s) (hts : ∀ w ∈ wsL_law, w.before args s = true) (hP : va_P D cls ws H) (hD : va_D A ws) (hS : va_S A H0 H locs) (hA : ∀ q, H0.size ≤ q → A q) {n : Int32} {N : Nat} (hn : ¬ n < 0) (hN : n.toNatClampNeg = N) (hby : N ≤ 100000) (hcells : cells + 1 ≤ R.cells) (hslots : slots + N ≤ R.slots) (hdg : decode cc pc = .ok (.newarray .int, 2))
    (kk : ∀ (q : Nat) (H1 : Heap), va_P D cls (ws ++ [aI D q N (fun _ => 0)]) H1 → va_D A (ws ++ [aI D q N (fun _ => 0)]) → va_S A H0 H1 locs → W p l e R s m args below meth c H1 locs (cells + 1) (slots + N) Q (F0 m (pc + 2) ls (.ref q :: rest))) : W p l e R s m args below meth c H locs cells slots Q (F0 m pc ls (.int n :: rest)) := by
  refine va_newa (atype := .int) hx hb (hts _ mA__int) (ty := .int) rfl hG.K hP hD hS hA (a0 := (N, .inl (fun _ => 0))) (fun cA => rfl) hn hN (by show N * 4 ≤ _; omega) hcells hslots hdg (fun q cA H1 hK hP1 hD1 hS1 => ?_)
  have e : cA = D.1 100 := cI_eq (hK.2 5 _ rfl).2 (hG.K.2 0 _ rfl).2 (Or.inl rfl)
  subst e
  exact kk q H1 hP1 hD1 hS1
theorem narT (hx : p.tables.exec = Jvm.exec) (hb : c.code = cc) {own : String} {index : Nat} (hown : s.vm.findClass own = some m.cls) (hlink : (Cond.classLink own index "KeyStage$Track").before args s = true) (hG : GK D s) (hP : va_P D cls ws H) (hD : va_D A ws) (hS : va_S A H0 H locs) (hA : ∀ q, H0.size ≤ q → A q) {n : Int32} {N : Nat} (hn : ¬ n < 0) (hN : n.toNatClampNeg = N) (hby : N ≤ 100000) (hcells : cells + 1 ≤ R.cells) (hslots : slots + N ≤ R.slots) (hdg : decode cc pc = .ok (.anewarray index, 3))
    (kk : ∀ (q : Nat) (H1 : Heap), va_P D cls (ws ++ [aT D q N (fun _ => none)]) H1 → va_D A (ws ++ [aT D q N (fun _ => none)]) → va_S A H0 H1 locs → W p l e R s m args below meth c H1 locs (cells + 1) (slots + N) Q (F0 m (pc + 3) ls (.ref q :: rest))) : W p l e R s m args below meth c H locs cells slots Q (F0 m pc ls (.int n :: rest)) := by
  refine va_newq hx hb hown hlink (gkA hG 0 rfl) hG.K hP hD hS hA hn hN (by omega) hcells hslots hdg (fun q cA H1 hK hP1 hD1 hS1 => ?_)
  have e : cA = D.1 103 := by
    obtain ⟨_, _, _, _, _, h1⟩ := (hK.2 5 _ rfl).2
    obtain ⟨_, _, _, _, _, h2⟩ := (hG.K.2 3 _ rfl).2
    exact Option.some.inj (h1.symm.trans h2)
  subst e
  exact kk q H1 hP1 hD1 hS1
theorem narO (hx : p.tables.exec = Jvm.exec) (hb : c.code = cc) {own : String} {index : Nat} (hown : s.vm.findClass own = some m.cls) (hlink : (Cond.classLink own index "java/lang/Object").before args s = true) (hG : GK D s) (hP : va_P D cls ws H) (hD : va_D A ws) (hS : va_S A H0 H locs) (hA : ∀ q, H0.size ≤ q → A q) {n : Int32} {N : Nat} (hn : ¬ n < 0) (hN : n.toNatClampNeg = N) (hby : N ≤ 100000) (hcells : cells + 1 ≤ R.cells) (hslots : slots + N ≤ R.slots) (hdg : decode cc pc = .ok (.anewarray index, 3))
    (kk : ∀ (q : Nat) (H1 : Heap), va_P D cls (ws ++ [aO D q N (fun _ => none)]) H1 → va_D A (ws ++ [aO D q N (fun _ => none)]) → va_S A H0 H1 locs → W p l e R s m args below meth c H1 locs (cells + 1) (slots + N) Q (F0 m (pc + 3) ls (.ref q :: rest))) : W p l e R s m args below meth c H locs cells slots Q (F0 m pc ls (.int n :: rest)) := by
  refine va_newq hx hb hown hlink (gkA hG 1 rfl) hG.K hP hD hS hA hn hN (by omega) hcells hslots hdg (fun q cA H1 hK hP1 hD1 hS1 => ?_)
  have e : cA = D.1 104 := by
    obtain ⟨_, _, _, _, _, h1⟩ := (hK.2 5 _ rfl).2
    obtain ⟨_, _, _, _, _, h2⟩ := (hG.K.2 4 _ rfl).2
    exact Option.some.inj (h1.symm.trans h2)
  subst e
  exact kk q H1 hP1 hD1 hS1
theorem asn (hx : p.tables.exec = Jvm.exec) (hb : c.code = cc) (hG : GK D s) (hP : va_P D cls ws H) (hD : va_D A ws) (hS : va_S A H0 H locs) (q0 : Nat) {n j : Nat} {f : Nat → Option Nat} (ha : ws[q0]? = some (aO D a n f)) (hj : j < n) (hn : n < 2 ^ 31) (hdg : decode cc pc = .ok (.aastore, 1))
    (kk : ∀ (H1 : Heap) (locs1 : List Loc), va_P D cls (ws.set q0 (aO D a n (va_up f j none))) H1 → va_D A (ws.set q0 (aO D a n (va_up f j none))) → va_S A H0 H1 locs1 → W p l e R s m args below meth c H1 locs1 cells slots Q (F0 m (pc + 1) ls rest)) : W p l e R s m args below meth c H locs cells slots Q (F0 m pc ls (.null :: .int (nI j) :: .ref a :: rest)) :=
  va_astqN hx hb hG.K hP hD hS q0 4 ha rfl (vp_in_nI hj hn) hdg (by rw [nI_clamp (Nat.lt_trans hj hn)]; exact kk)
theorem aso (hx : p.tables.exec = Jvm.exec) (hb : c.code = cc) (hG : GK D s) (hP : va_P D cls ws H) (hD : va_D A ws) (hS : va_S A H0 H locs) (q0 qk : Nat) {n j v ci : Nat} {r : vw_C} {f : Nat → Option Nat} {vs : List Value} (ha : ws[q0]? = some (aO D a n f)) (hv : ws[qk]? = some (v, .inr (ci, vs))) (hc : cls[ci]? = some r) (hca : va_Nw (.castable r.1 "java/lang/Object") s) (hj : j < n) (hn : n < 2 ^ 31) (hdg : decode cc pc = .ok (.aastore, 1))
    (kk : ∀ (H1 : Heap) (locs1 : List Loc), va_P D cls (ws.set q0 (aO D a n (va_up f j (some v)))) H1 → va_D A (ws.set q0 (aO D a n (va_up f j (some v)))) → va_S A H0 H1 locs1 → W p l e R s m args below meth c H1 locs1 cells slots Q (F0 m (pc + 1) ls rest)) : W p l e R s m args below meth c H locs cells slots Q (F0 m pc ls (.ref v :: .int (nI j) :: .ref a :: rest)) :=
  va_astqO hx hb hG.K hP hD hS q0 4 qk ci ha rfl hca hv hc (vp_in_nI hj hn) hdg (by rw [nI_clamp (Nat.lt_trans hj hn)]; exact kk)
theorem cpi (hx : p.tables.exec = Jvm.exec) (hb : c.code = cc) (hml : c.maxLocals = ls.size) {own : String} {index : Nat} (hown : s.vm.findClass own = some m.cls) (hlink : (Cond.methodLink own index arraycopyName).before args s = true) (hts : ∀ w ∈ wsL_law, w.before args s = true) (hG : GK D s) (hP : va_P D cls ws H) (hD : va_D A ws) (hS : va_S A H0 H locs) (q0 q1 : Nat) {a0 n0 n1 sp dp n : Nat} {f g : Nat → Int32} (ha0 : ws[q0]? = some (aI D a0 n0 f)) (ha1 : ws[q1]? = some (aI D a n1 g)) (h1 : sp < 2 ^ 31) (h2 : dp < 2 ^ 31) (h3 : n < 2 ^ 31) (h4 : sp + n ≤ n0) (h5 : dp + n ≤ n1) (hframes : 1 ≤ R.frames) (hlocals : (rest.map fun v => v.category).sum + (nativeFrameWords "java/lang/System" "arraycopy" 5 + 11) ≤ R.locals) (hdg : decode cc pc = .ok (.invokestatic index, 3))
    (kk : ∀ (H1 : Heap) (locs1 : List Loc), va_P D cls (ws.set q1 (aI D a n1 (va_cpy f g sp dp n))) H1 → va_D A (ws.set q1 (aI D a n1 (va_cpy f g sp dp n))) → va_S A H0 H1 locs1 → W p l e R s m args below meth c H1 locs1 cells slots Q (F0 m (pc + 3) ls rest)) : W p l e R s m args below meth c H locs cells slots Q (F0 m pc ls (.int (nI n) :: .int (nI dp) :: .ref a :: .int (nI sp) :: .ref a0 :: rest)) :=
  va_copyi hx hb hml hown hlink (hts _ mV_arraycopyName) (hts _ mT_arraycopyName) (hts _ mN__java_lang_System_) hG.K hP hD hS q0 q1 0 0 ha0 ha1 rfl rfl rfl (nI_pos h1) (nI_pos h2) (nI_pos h3) (by rw [nI_clamp h1, nI_clamp h3]; exact h4) (by rw [nI_clamp h2, nI_clamp h3]; exact h5) (fun i _ => rfl) hframes hlocals hdg (by rw [nI_clamp h1, nI_clamp h2, nI_clamp h3]; exact kk)
theorem cpo (hx : p.tables.exec = Jvm.exec) (hb : c.code = cc) (hml : c.maxLocals = ls.size) {own : String} {index : Nat} (hown : s.vm.findClass own = some m.cls) (hlink : (Cond.methodLink own index arraycopyName).before args s = true) (hts : ∀ w ∈ wsL_law, w.before args s = true) (hG : GK D s) (hP : va_P D cls ws H) (hD : va_D A ws) (hS : va_S A H0 H locs) (q0 q1 : Nat) {a0 n0 n1 sp dp n : Nat} {f g : Nat → Option Nat} (ha0 : ws[q0]? = some (aO D a0 n0 f)) (ha1 : ws[q1]? = some (aO D a n1 g)) (h1 : sp < 2 ^ 31) (h2 : dp < 2 ^ 31) (h3 : n < 2 ^ 31) (h4 : sp + n ≤ n0) (h5 : dp + n ≤ n1) (hel : ∀ i : Nat, i < n → ∀ y : Nat, f (sp + i) = some y → ∃ fs : List Value, va_at D cls (y, .inr (3, fs)) H) (hframes : 1 ≤ R.frames) (hlocals : (rest.map fun v => v.category).sum + (nativeFrameWords "java/lang/System" "arraycopy" 5 + 11) ≤ R.locals) (hdg : decode cc pc = .ok (.invokestatic index, 3))
    (kk : ∀ (H1 : Heap) (locs1 : List Loc), va_P D cls (ws.set q1 (aO D a n1 (va_cpy f g sp dp n))) H1 → va_D A (ws.set q1 (aO D a n1 (va_cpy f g sp dp n))) → va_S A H0 H1 locs1 → W p l e R s m args below meth c H1 locs1 cells slots Q (F0 m (pc + 3) ls rest)) : W p l e R s m args below meth c H locs cells slots Q (F0 m pc ls (.int (nI n) :: .int (nI dp) :: .ref a :: .int (nI sp) :: .ref a0 :: rest)) :=
  va_copyq hx hb hml hown hlink (hts _ mV_arraycopyName) (hts _ mT_arraycopyName) (hts _ mN__java_lang_System_) hG.K hP hD hS q0 q1 4 4 (C := RX3) ha0 ha1 rfl rfl (nI_pos h1) (nI_pos h2) (nI_pos h3) (by rw [nI_clamp h1, nI_clamp h3]; exact h4) (by rw [nI_clamp h2, nI_clamp h3]; exact h5) (by
    rw [nI_clamp h1, nI_clamp h3]
    intro i hi y hy
    obtain ⟨fs, h9⟩ := hel i hi y hy
    exact rcv hG h9 (ci := 3) rfl) (fun comp c0 h1 h2 => by
    obtain ⟨c1, t1, f1, f2, f3⟩ := Cond.castable_spec (va_Nw.use (A := args) rfl (gkC hG 1 rfl))
    cases h1.symm.trans f2
    cases h2.symm.trans f1
    exact f3) hframes hlocals hdg (by rw [nI_clamp h1, nI_clamp h2, nI_clamp h3]; exact kk)
end ROWS
/-! a writing method that asks for more -/
def SX (D : va_G) (wc : va_W) (sz : Nat) (X : State → Prop) : State → Prop := fun U => SW D wc sz U ∧ X U
theorem SX.blind {D : va_G} {wc : va_W} {sz : Nat} {av : List Value} {X : State → Prop} (hX : ∀ (a : Array Value) (U : State) (g : JFrame) (mk : MethodId), X U → X (U.calling g mk a)) : FrameBlind (va_Pc av (SX D wc sz X)) := fun a U g mk h => ⟨h.1, (SW.blind (av := av) a U g mk ⟨h.1, h.2.1⟩).2, hX a U g mk h.2.2⟩
theorem SX.pre {D : va_G} {wc : va_W} {H : Heap} {s : State} {As : List Value} {X : State → Prop} (hG : GK D s) (hP : va_P D cls wc H) (hD : va_D (fun _ => True) wc) (hX : ∀ U : State, U.heap = H → s.WarmedH U.vm → X U) : ∀ U : State, U.heap = H → s.WarmedH U.vm → va_Pc As (SX D wc H.size X) As.toArray U := fun U hU hW => ⟨rfl, (SW.pre (As := As) hG hP hD U hU hW).2, hX U hU hW⟩
/-- the empty row of a new list -/
def ZL (z : Nat) (A : Nat → Prop) (U : State) : Prop := va_Z "java/util/ArrayList" "DEFAULTCAPACITY_EMPTY_ELEMENTDATA" "[Ljava/lang/Object;" (.ref z) A U U.heap ∧ va_T (.object "java/lang/Object") z 0 (fun _ => .null) A U U.heap
theorem ZL.blind {z : Nat} {A : Nat → Prop} : ∀ (a : Array Value) (U : State) (g : JFrame) (mk : MethodId), ZL z A U → ZL z A (U.calling g mk a) := fun _ U _ _ h => ⟨va_Z.moved (Vm.Alike.refl U.vm) h.1, va_T.moved (Vm.Alike.refl U.vm) h.2⟩
theorem ZL.pre {z : Nat} {A A1 : Nat → Prop} {s : State} {H : Heap} {locs : List Loc} (h : ZL z A s) (hS : va_S A s.heap H locs) (hsub : ∀ q, A1 q → A q) : ∀ U : State, U.heap = H → s.WarmedH U.vm → ZL z A1 U := fun U hU hW => by
  subst hU
  exact ⟨va_Z.moved hW.alike ((h.1.kept hS.2.1).narrow hsub), va_T.moved hW.alike ((h.2.kept hS.2.1).narrow hsub)⟩
section CALLX
variable {p : Program} {l : Launch} {e : Env} {R : Room} {s : State} {m : MethodId} {args : Array Value} {below : List Frame} {meth : Method} {c : Code} {H : Heap} {locs : List Loc} {cells slots : Nat} {Q : State → Prop}
variable {y : MethodName} {bytes cc : ByteArray} {maxL nL index pc : Nat} {ret : Option FieldType} {rm : Room} {own : String} {b ci : Nat} {st0 rest : List Value} {ls : Array Slot} {D : va_G} {wc : va_W} {fs : List Value} {qc : vw_C}
theorem rVX {X : State → Prop} (hXb : ∀ (a : Array Value) (U : State) (g : JFrame) (mk : MethodId), X U → X (U.calling g mk a)) (hXp : ∀ U : State, U.heap = H → s.WarmedH U.vm → X U) (As : List Value) (n mc ms : Nat) {Qc : Array Value → State → Outcome → State → Prop} (S : CallFix p m c cc nL s args wsL_law own) (hM : Met l y (ws_ y bytes maxL ret) rm (va_Pc (.ref b :: As) (SX D wc H.size X)) Qc mc ms (va_A wc H.size)) (hc : cls[ci]? = some qc) (hA : va_at D cls (b, .inr (ci, fs)) H) (g : GoodIn wsL_law (wsV own index qc.1 y (ws_ y bytes maxL ret))) (hd : y.cls = qc.1 ∧ y.cls ≠ "java/lang/invoke/MethodHandle" ∧ y.cls ≠ "java/lang/invoke/VarHandle" ∧ (parseMethodDescriptor y.desc).map (fun d => d.parameters.length) = some n) (hrc : rm.cells = mc) (hrs : rm.slots = ms) (hR : rm.frames + 1 ≤ R.frames ∧ 8 + (maxL + 11) + rm.locals ≤ R.locals) (hG : GK D s) (hP : va_P D cls wc H) (hD : va_D (fun _ => True) wc) (hn : As.length = n) (hsize : ls.size = nL) (hst : st0 = As.reverse ++ .ref b :: rest) (hW : (rest.map fun v => v.category).sum ≤ 8) (hdg : decode cc pc = .ok (.invokevirtual index, 3)) (hcs : cells + mc ≤ R.cells ∧ slots + ms ≤ R.slots) :
    va_Run p l e R s m args below meth c H locs cells slots mc ms (F0 m pc ls st0) rest (Qc (.ref b :: As).toArray) (va_A wc H.size) :=
  va_runV S hM (cwV n S.2.2.2.2 g rfl hrc hrs hd hR) ⟨SX.blind hXb, rcv hG hA hc, SX.pre hG hP hD hXp⟩ rfl hn hsize hst (lv_room hW) hdg hcs
theorem rIX {X : State → Prop} (hXb : ∀ (a : Array Value) (U : State) (g : JFrame) (mk : MethodId), X U → X (U.calling g mk a)) (hXp : ∀ U : State, U.heap = H → s.WarmedH U.vm → X U) (As : List Value) (n mc ms : Nat) {Qc : Array Value → State → Outcome → State → Prop} (S : CallFix p m c cc nL s args wsL_law own) (hM : Met l y (ws_ y bytes maxL none) rm (va_Pc (.ref b :: As) (SX D wc H.size X)) Qc mc ms (va_A wc H.size)) (h1 : Cond.methodLink own index y ∈ wsL_law) (h2 : Cond.instanceMethod y ∈ wsL_law) (h4 : Cond.initialized y.cls ∈ wsL_law) (h5 : Cond.code y bytes maxL none ∈ wsL_law) (hy : y.name = "<init>") (hd : y.cls ≠ "java/lang/invoke/MethodHandle" ∧ y.cls ≠ "java/lang/invoke/VarHandle" ∧ (parseMethodDescriptor y.desc).map (fun d => d.parameters.length) = some n) (hrc : rm.cells = mc) (hrs : rm.slots = ms) (hR : rm.frames + 1 ≤ R.frames ∧ 8 + (maxL + 11) + rm.locals ≤ R.locals) (hG : GK D s) (hP : va_P D cls wc H) (hD : va_D (fun _ => True) wc) (hn : As.length = n) (hsize : ls.size = nL) (hst : st0 = As.reverse ++ .ref b :: rest) (hW : (rest.map fun v => v.category).sum ≤ 8) (hdg : decode cc pc = .ok (.invokespecial index, 3)) (hcs : cells + mc ≤ R.cells ∧ slots + ms ≤ R.slots) :
    va_Run p l e R s m args below meth c H locs cells slots mc ms (F0 m pc ls st0) rest (Qc (.ref b :: As).toArray) (va_A wc H.size) :=
  va_runI S hM (cwI n S.2.2.2.2 (gW h5) rfl hrc hrs (S.2.2.2.2 _ h4) (S.2.2.2.2 _ h1) (S.2.2.2.2 _ h2) hy hd hR) ⟨SX.blind hXb, SX.pre hG hP hD hXp⟩ rfl hn hsize hst (lv_room hW) hdg hcs
variable {ws wr : va_W} {A A0 : Nat → Prop} {H0 : Heap} {mc ms : Nat} {a : Array Value}
theorem kq {S : Type} {post : Option Nat → S → Prop} {w1 : S → va_W} (hr : va_Run p l e R s m args below meth c H locs cells slots mc ms (F0 m pc ls st0) rest (va_Qq post (AT D (va_A wc H.size) w1) (va_A wc H.size) a) (va_A wc H.size)) (hP : va_P D cls ws H) (hD : va_D A0 ws) (hS : va_S A0 H0 H locs) (hA : ∀ q, H0.size ≤ q → A0 q) (isC isR : List Nat) (hC : isC.map (fun i => ws[i]?) = wc.map some) (hR : isR.map (fun i => ws[i]?) = wr.map some) (hn : va_nd isR = true) (hdis : ∀ i ∈ isR, i ∉ isC)
    (kk : ∀ (r : Option Nat) (u : S) (H1 : Heap) (locs1 : List Loc), post r u → va_P D cls (wr ++ w1 u) H1 → va_D A0 (wr ++ w1 u) → va_S A0 H0 H1 locs1 → H.size ≤ H1.size → (∀ q : Nat, q < H.size → ¬ va_A wc H.size q → H1[q]? = H[q]?) → W p l e R s m args below meth c H1 locs1 (cells + mc) (slots + ms) Q (F0 m (pc + 3) ls (va_rf r :: rest))) : W p l e R s m args below meth c H locs cells slots Q (F0 m pc ls st0) :=
  va_callq hr hS (va_free' hD hS hA isC hC).1 (va_free' hD hS hA isC hC).2 fun r u t H1 locs1 ht _ hp hB hz hk hS1 => by
    obtain ⟨hP1, hD1⟩ := hB
    rw [ht] at hP1
    obtain ⟨hP2, hD2⟩ := va_join hP hD isC isR hC hR hn hdis hk (va_free' hD hS hA isC hC).2 hP1 hD1
    exact kk r u H1 locs1 hp hP2 hD2 hS1 hz hk
theorem Wq {S : Type} {post : Option Nat → S → Prop} {w1 : S → va_W} {v : Option Nat} {rt : FieldType} (u : S) (hx : p.tables.exec = Jvm.exec) (hb : c.code = cc) (hr : meth.sig.returnType = some rt) (hlk : meth.locks = false) (hrt : (∃ n, rt = .object n) ∨ ∃ t, rt = .array t) (hp : post v u) (hP : va_P D cls (w1 u) H) (hD : va_D A (w1 u)) (hS : va_S A s.heap H locs) (hc : cells ≤ mc) (hs : slots ≤ ms) (hdg : decode cc pc = .ok (.areturn, 1)) : W p l e R s m args below meth c H locs cells slots (MQ below (va_Qq post (AT D A w1) A) args s mc ms A) (F0 m pc ls [va_rf v]) := W.widen hc hs (W.aret hx hb hr hrt (va_rf_or v) (fun t ht _ => ⟨⟨v, u, rfl, hp, by rw [ht]; exact hP, hD⟩, hS.F ht⟩) hS.2.2 hdg hlk)
end CALLX
/-- clips and strips in a list -/
def lsF (cl : Nat → Nat) (n : Nat) : Nat → Option Nat := fun k => if k < n then some (cl k) else none
theorem lsF_ref {cl : Nat → Nat} {n k : Nat} (h : k < n) : va_rf (lsF cl n k) = .ref (cl k) := by
  rw [lsF, if_pos h]
  rfl
theorem lsF_add (cl : Nat → Nat) (n q : Nat) : va_up (lsF cl n) n (some q) = lsF (fun k => if k = n then q else cl k) (n + 1) := by
  funext k
  simp only [va_up, lsF]
  by_cases h : k = n
  · rw [if_pos h, if_pos (by omega), if_pos h]
  · rw [if_neg h]
    by_cases h2 : k < n
    · rw [if_pos h2, if_pos (by omega), if_neg h]
    · rw [if_neg h2, if_neg (by omega)]
theorem lsF_1 (q : Nat) : va_up (fun _ => none) 0 (some q) = lsF (fun _ => q) 1 := by
  funext k
  simp only [va_up, lsF]
  by_cases h : k = 0
  · rw [if_pos h, if_pos (by omega)]
  · rw [if_neg h, if_neg (by omega)]
/-! families of cells that are only read -/
def PXW (D : va_G) (wc : va_W) (X : State → Prop) : State → Prop := fun U => PW D wc U ∧ X U
theorem PXW.blind {D : va_G} {wc : va_W} {av : List Value} {X : State → Prop} (hX : ∀ (a : Array Value) (U : State) (g : JFrame) (mk : MethodId), X U → X (U.calling g mk a)) : FrameBlind (va_Pc av (PXW D wc X)) := fun a U g mk h => ⟨h.1, (PW.blind (av := av) a U g mk ⟨h.1, h.2.1⟩).2, hX a U g mk h.2.2⟩
theorem PXW.pre {D : va_G} {wc : va_W} {H : Heap} {s : State} {As : List Value} {X : State → Prop} (hG : GK D s) (hP : va_P D cls wc H) (hX : ∀ U : State, U.heap = H → s.WarmedH U.vm → X U) : ∀ U : State, U.heap = H → s.WarmedH U.vm → va_Pc As (PXW D wc X) As.toArray U := fun U hU hW => ⟨rfl, (PW.pre (As := As) hG hP U hU hW).2, hX U hU hW⟩
section CALLP
variable {p : Program} {l : Launch} {e : Env} {R : Room} {s : State} {m : MethodId} {args : Array Value} {below : List Frame} {meth : Method} {c : Code} {H : Heap} {locs : List Loc} {cells slots : Nat} {Q : State → Prop}
variable {y : MethodName} {bytes cc : ByteArray} {maxL nL index pc : Nat} {ret : Option FieldType} {rm : Room} {own : String} {b ci : Nat} {st0 rest : List Value} {ls : Array Slot} {D : va_G} {wc : va_W} {fs : List Value} {qc : vw_C}
theorem pVX {X : State → Prop} (hXb : ∀ (a : Array Value) (U : State) (g : JFrame) (mk : MethodId), X U → X (U.calling g mk a)) (hXp : ∀ U : State, U.heap = H → s.WarmedH U.vm → X U) (As : List Value) (n : Nat) {Qc : Array Value → State → Outcome → State → Prop} (S : CallFix p m c cc nL s args wsL_law own) (hM : Met l y (ws_ y bytes maxL ret) rm (va_Pc (.ref b :: As) (PXW D wc X)) Qc 0 0 (fun _ => False)) (hc : cls[ci]? = some qc) (hA : va_at D cls (b, .inr (ci, fs)) H) (g : GoodIn wsL_law (wsV own index qc.1 y (ws_ y bytes maxL ret))) (hd : y.cls = qc.1 ∧ y.cls ≠ "java/lang/invoke/MethodHandle" ∧ y.cls ≠ "java/lang/invoke/VarHandle" ∧ (parseMethodDescriptor y.desc).map (fun d => d.parameters.length) = some n) (hrc : rm.cells = 0) (hrs : rm.slots = 0) (hR : rm.frames + 1 ≤ R.frames ∧ 8 + (maxL + 11) + rm.locals ≤ R.locals) (hG : GK D s) (hP : va_P D cls wc H) (hn : As.length = n) (hsize : ls.size = nL) (hst : st0 = As.reverse ++ .ref b :: rest) (hW : (rest.map fun v => v.category).sum ≤ 8) (hdg : decode cc pc = .ok (.invokevirtual index, 3)) (hcs : cells ≤ R.cells ∧ slots ≤ R.slots) :
    CallRun p l e R s m args below meth c H locs cells slots 0 0 (F0 m pc ls st0) rest (Qc (.ref b :: As).toArray) (fun _ => False) :=
  W.runV S hM (cwV n S.2.2.2.2 g rfl hrc hrs hd hR) ⟨PXW.blind hXb, rcv hG hA hc, PXW.pre hG hP hXp⟩ rfl hn hsize hst (lv_room hW) hdg hcs
end CALLP
/-- N groups of cells, none of which the method may change -/
def FX (D : va_G) (N : Nat) (w : Nat → va_W) (A : Nat → Prop) (U : State) : Prop := ∀ i, i < N → va_P D cls (w i) U.heap ∧ ∀ (k : Nat) (q : Nat × va_E), (w i)[k]? = some q → ¬ A q.1
theorem FX.at {D : va_G} {N i : Nat} {w : Nat → va_W} {A : Nat → Prop} {s : State} {H : Heap} {locs : List Loc} (h : FX D N w A s) (hS : va_S A s.heap H locs) (hi : i < N) : va_P D cls (w i) H := fun k q hk => ((h i hi).1 k q hk).kept (hS.2.1 q.1 ((h i hi).1 k q hk).lt ((h i hi).2 k q hk))
theorem FX.pre {D : va_G} {N : Nat} {w : Nat → va_W} {A A1 : Nat → Prop} {s : State} {H : Heap} {locs : List Loc} (h : FX D N w A s) (hS : va_S A s.heap H locs) (hsub : ∀ q, A1 q → A q) : ∀ U : State, U.heap = H → s.WarmedH U.vm → FX D N w A1 U := fun U hU _ i hi => ⟨by rw [hU]; exact h.at hS hi, fun k q hk z => (h i hi).2 k q hk (hsub _ z)⟩
theorem FX.same {D : va_G} {N : Nat} {w : Nat → va_W} {A : Nat → Prop} {s : State} {H : Heap} (hH : H = s.heap) (h : FX D N w A s) : ∀ U : State, U.heap = H → s.WarmedH U.vm → FX D N w A U := fun U hU _ i hi => ⟨by rw [hU, hH]; exact (h i hi).1, (h i hi).2⟩
theorem FX.sub {D : va_G} {N : Nat} {w w' : Nat → va_W} {A : Nat → Prop} {s : State} (h : FX D N w A s) (is : List Nat) (hs : ∀ i, is.filterMap (fun k => (w i)[k]?) = w' i) : FX D N w' A s := fun i hi => ⟨(h i hi).1.sub is (hs i), fun k q hk => by
  rw [← hs i] at hk
  obtain ⟨j, -, hj⟩ := List.mem_filterMap.mp (List.mem_of_getElem? hk)
  exact (h i hi).2 j q hj⟩
/-- the greatest end -/
def endAll (e : Nat → Int32) : Nat → Int32
  | 0 => 0
  | n + 1 => if endAll e n < e n then e n else endAll e n
/-- the values of a property, strip by strip as a list has them -/
def valL (bl : Nat → Int32 → Int32) (l : List Nat) (v : Int32) : Nat → Int32
  | 0 => v
  | k + 1 => bl (l.getD k 0) (valL bl l v k)
/-- the strips of layer below L, sorted, and those of layer L below s -/
def lyT (lay : Nat → Int32) (nS : Nat) : Nat → List Nat
  | 0 => []
  | L + 1 => lyT lay nS L ++ (List.range nS).filter (fun i => lay i = nI L)
def lyI (lay : Nat → Int32) (nS L s : Nat) : List Nat := lyT lay nS L ++ (List.range s).filter (fun i => lay i = nI L)
theorem lyI_0 (lay : Nat → Int32) (nS L : Nat) : lyI lay nS L 0 = lyT lay nS L := by simp [lyI]
theorem lyI_end (lay : Nat → Int32) (nS L : Nat) : lyI lay nS L nS = lyI lay nS (L + 1) 0 := by rw [lyI_0]; rfl
theorem lyI_yes {lay : Nat → Int32} {nS L s : Nat} (h : lay s = nI L) : lyI lay nS L (s + 1) = lyI lay nS L s ++ [s] := by
  simp [lyI, List.range_succ, List.filter_append, h]
theorem lyI_no {lay : Nat → Int32} {nS L s : Nat} (h : ¬ lay s = nI L) : lyI lay nS L (s + 1) = lyI lay nS L s := by
  simp [lyI, List.range_succ, List.filter_append, h]
theorem cnt_or {p q : Nat → Bool} : ∀ (l : List Nat), (∀ x, ¬ (p x = true ∧ q x = true)) → (l.filter p).length + (l.filter q).length = (l.filter (fun x => p x || q x)).length
  | [], _ => rfl
  | x :: l, h => by
    have ih := cnt_or (p := p) (q := q) l h
    have hx := h x
    cases hp : p x <;> cases hq : q x <;> simp [List.filter_cons, hp, hq] at hx ⊢ <;> omega
theorem lyT_len (lay : Nat → Int32) (nS : Nat) : ∀ L : Nat, L < 2 ^ 30 → ∃ p : Nat → Bool, (lyT lay nS L).length = ((List.range nS).filter p).length ∧ ∀ x, p x = true → ∃ k, k < L ∧ lay x = nI k
  | 0, _ => ⟨fun _ => false, by
      have e : (List.range nS).filter (fun _ => false) = [] := by
        induction List.range nS with
        | nil => rfl
        | cons a l ih => simpa using ih
      rw [e]; rfl, fun x h => by simp at h⟩
  | L + 1, hL => by
    obtain ⟨p, h1, h2⟩ := lyT_len lay nS L (by omega)
    refine ⟨fun x => p x || decide (lay x = nI L), ?_, fun x hx => ?_⟩
    · rw [lyT, List.length_append, h1]
      refine cnt_or _ (fun x hx => ?_)
      obtain ⟨k, hk, e⟩ := h2 x hx.1
      have e2 := of_decide_eq_true hx.2
      have := (nI_eq (a := k) (b := L) (by omega) (by omega)).mp (e.symm.trans e2)
      omega
    · rcases Bool.or_eq_true _ _ ▸ hx with h | h
      · obtain ⟨k, hk, e⟩ := h2 x h
        exact ⟨k, by omega, e⟩
      · exact ⟨L, by omega, of_decide_eq_true h⟩
theorem filt_range (p : Nat → Bool) : ∀ (n s : Nat), s ≤ n → ((List.range s).filter p).length = ((List.range n).filter (fun i => decide (i < s) && p i)).length
  | 0, s, h => by
    have e : s = 0 := by omega
    subst e
    rfl
  | n + 1, s, h => by
    rcases Nat.lt_or_ge s (n + 1) with q | q
    · rw [filt_range p n s (by omega), List.range_succ, List.filter_append]
      simp [show ¬ n < s by omega]
    · have e : s = n + 1 := by omega
      subst e
      congr 1
      apply List.filter_congr
      intro x hx
      have := List.mem_range.mp hx
      simp [this]
/-- there is room for one more -/
theorem lyI_room {lay : Nat → Int32} {nS L s : Nat} (hL : L < 2 ^ 30) (hs : s < nS) (h : lay s = nI L) : (lyI lay nS L s).length < nS := by
  obtain ⟨p, h1, h2⟩ := lyT_len lay nS L hL
  rw [lyI, List.length_append, h1, filt_range _ nS s (by omega)]
  rw [cnt_or]
  · have e : ((List.range nS).filter fun x => p x || (decide (x < s) && decide (lay x = nI L))).length < (List.range nS).length := by
      rw [List.length_filter_lt_length_iff_exists]
      refine ⟨s, List.mem_range.mpr hs, fun hx => ?_⟩
      rcases Bool.or_eq_true _ _ ▸ hx with hx | hx
      · obtain ⟨k, hk, e⟩ := h2 s hx
        have := (nI_eq (a := k) (b := L) (by omega) (by omega)).mp (e.symm.trans h)
        omega
      · simp at hx
    rw [List.length_range] at e
    exact e
  · intro x hx
    obtain ⟨k, hk, e⟩ := h2 x hx.1
    have hx2 := hx.2
    simp only [Bool.and_eq_true, decide_eq_true_eq] at hx2
    have := (nI_eq (a := k) (b := L) (by omega) (by omega)).mp (e.symm.trans hx2.2)
    omega
theorem lyT_lt {lay : Nat → Int32} {nS x : Nat} : ∀ {L : Nat}, x ∈ lyT lay nS L → x < nS
  | 0, h => by simp [lyT] at h
  | L + 1, h => by
    rw [lyT] at h
    rcases List.mem_append.mp h with h | h
    · exact lyT_lt h
    · exact List.mem_range.mp (List.mem_filter.mp h).1
theorem getD_lt {l : List Nat} {k n : Nat} (h : ∀ x ∈ l, x < n) (hk : k < l.length) : l.getD k 0 < n := by
  have e : l.getD k 0 = l[k] := by simp [List.getD, List.getElem?_eq_getElem hk]
  rw [e]; exact h _ (List.getElem_mem hk)
