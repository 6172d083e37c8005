section CALLH
variable {p : Program} {l : Launch} {e : Env} {R : Room} {s : State} {m : MethodId} {args : Array Value} {below : List Frame} {meth : Method} {c : Code} {H : Heap} {locs : List Loc} {cells slots : Nat} {Q : State → Prop}
variable {y : MethodName} {bytes cc : ByteArray} {maxL nL index pc : Nat} {ret : Option FieldType} {rm : Room} {own : String} {st0 rest : List Value} {ls : Array Slot} {D : va_G} {wc : va_W}
theorem pSX {X : State → Prop} (hXb : ∀ (a : Array Value) (U : State) (g : JFrame) (mk : MethodId), X U → X (U.calling g mk a)) (hXp : ∀ U : State, U.heap = H → s.WarmedH U.vm → X U) (As : List Value) (n : Nat) {Qc : Array Value → State → Outcome → State → Prop} (S : CallFix p m c cc nL s args wsL_law own) (hM : Met l y (ws_ y bytes maxL ret) rm (va_Pc As (PXW D wc X)) Qc 0 0 (fun _ => False)) (g : GoodIn wsL_law (va_wsS own index y (ws_ y bytes maxL ret))) (hd : y.cls ≠ "java/lang/invoke/MethodHandle" ∧ y.cls ≠ "java/lang/invoke/VarHandle" ∧ (parseMethodDescriptor y.desc).map (fun d => d.parameters.length) = some n) (hrc : rm.cells = 0) (hrs : rm.slots = 0) (hR : rm.frames + 1 ≤ R.frames ∧ 8 + (maxL + 11) + rm.locals ≤ R.locals) (hG : GK D s) (hP : va_P D cls wc H) (hn : As.length = n) (hsize : ls.size = nL) (hst : st0 = As.reverse ++ rest) (hW : (rest.map fun v => v.category).sum ≤ 8) (hdg : decode cc pc = .ok (.invokestatic index, 3)) (hcs : cells ≤ R.cells ∧ slots ≤ R.slots) :
    CallRun p l e R s m args below meth c H locs cells slots 0 0 (F0 m pc ls st0) rest (Qc As.toArray) (fun _ => False) :=
  W.runS S hM (va_cwS n S.2.2.2.2 g rfl hrc hrs hd hR) ⟨PXW.blind hXb, PXW.pre hG hP hXp⟩ rfl hn hsize hst (lv_room hW) hdg hcs
theorem rS (As : List Value) (n mc ms : Nat) {Qc : Array Value → State → Outcome → State → Prop} (S : CallFix p m c cc nL s args wsL_law own) (hM : Met l y (ws_ y bytes maxL ret) rm (va_Pc As (SW D wc H.size)) Qc mc ms (va_A wc H.size)) (g : GoodIn wsL_law (va_wsS own index y (ws_ y bytes maxL ret))) (hd : y.cls ≠ "java/lang/invoke/MethodHandle" ∧ y.cls ≠ "java/lang/invoke/VarHandle" ∧ (parseMethodDescriptor y.desc).map (fun d => d.parameters.length) = some n) (hrc : rm.cells = mc) (hrs : rm.slots = ms) (hR : rm.frames + 1 ≤ R.frames ∧ 8 + (maxL + 11) + rm.locals ≤ R.locals) (hG : GK D s) (hP : va_P D cls wc H) (hD : va_D (fun _ => True) wc) (hn : As.length = n) (hsize : ls.size = nL) (hst : st0 = As.reverse ++ rest) (hW : (rest.map fun v => v.category).sum ≤ 8) (hdg : decode cc pc = .ok (.invokestatic index, 3)) (hcs : cells + mc ≤ R.cells ∧ slots + ms ≤ R.slots) :
    va_Run p l e R s m args below meth c H locs cells slots mc ms (F0 m pc ls st0) rest (Qc As.toArray) (va_A wc H.size) :=
  va_runS S hM (va_cwS n S.2.2.2.2 g rfl hrc hrs hd hR) ⟨SW.blind, SW.pre hG hP hD⟩ rfl hn hsize hst (lv_room hW) hdg hcs
end CALLH
/-- the script: a row of ints that nobody writes -/
def SCR (b L : Nat) (xs : Nat → Int32) (A : Nat → Prop) (U : State) : Prop := va_X b L xs U U.heap ∧ b < U.heap.size ∧ ¬ A b
theorem SCR.blind {b L : Nat} {xs : Nat → Int32} {A : Nat → Prop} : ∀ (a : Array Value) (U : State) (g : JFrame) (mk : MethodId), SCR b L xs A U → SCR b L xs A (U.calling g mk a) := fun _ U _ _ h => ⟨va_X.moved (Vm.Alike.refl U.vm) h.1, h.2⟩
theorem SCR.pre {b L : Nat} {xs : Nat → Int32} {A A1 : Nat → Prop} {s : State} {H : Heap} {locs : List Loc} (h : SCR b L xs A s) (hS : va_S A s.heap H locs) (hsub : ∀ q, A1 q → A q) : ∀ U : State, U.heap = H → s.WarmedH U.vm → SCR b L xs A1 U := fun U hU hW => by
  subst hU
  exact ⟨va_X.moved hW.alike (h.1.kept (hS.2.1 b h.2.1 h.2.2)), Nat.lt_of_lt_of_le h.2.1 hS.1, fun z => h.2.2 (hsub _ z)⟩
theorem and31b (x : Int32) : ∃ k, k < 2 ^ 31 ∧ x &&& 2147483647 = nI k := by
  have h : (x &&& 2147483647).toBitVec.toNat < 2 ^ 31 := by
    rw [Int32.toBitVec_and, BitVec.toNat_and]
    exact Nat.and_lt_two_pow (n := 31) _ (by decide)
  refine ⟨(x &&& 2147483647).toBitVec.toNat, h, Int32.toBitVec_inj.mp (BitVec.eq_of_toNat_eq ?_)⟩
  show _ = (BitVec.ofNat 32 _).toNat
  rw [BitVec.toNat_ofNat, Nat.mod_eq_of_lt (Nat.lt_trans h (by decide))]
theorem below_is (x : Int32) {n : Nat} (h0 : 0 < n) (hn : n < 2 ^ 31) : ∃ k, k < n ∧ (x &&& 2147483647) - (x &&& 2147483647) / nI n * nI n = nI k := by
  obtain ⟨k, hk, e⟩ := and31b x
  rw [e, pk_rem hk h0 hn]
  exact ⟨k % n, Nat.mod_lt _ h0, rfl⟩
/-- the place of a key in the law's row of keys, three numbers a key -/
def shP (f : Nat → Int32) (k N : Nat) : Nat → Int32 := fun q => if k < q ∧ q ≤ N then f (q - 3) else f q
theorem shP_self (f : Nat → Int32) (N : Nat) : shP f N N = f := by
  funext q
  rw [shP, if_neg (by omega)]
theorem shP_step {f : Nat → Int32} {k N : Nat} (h0 : 3 ≤ k) (h : k ≤ N) : upd (shP f k N) k (shP f k N (k - 3)) = shP f (k - 1) N := by
  apply upd_eq
  · rw [shP, shP, if_pos (by omega), if_neg (by omega)]
  · intro q hq
    rw [shP, shP]
    by_cases h1 : k < q ∧ q ≤ N
    · rw [if_pos h1, if_pos (by omega)]
    · rw [if_neg h1, if_neg (by omega)]
def PutP (f : Nat → Int32) (n : Nat) (tm r : Int32) (p : Nat) (g : Nat → Int32) : Prop := p ≤ n ∧ (∀ i, i < p → f (3 * i) < tm) ∧ (p < n → ¬ f (3 * p) < tm) ∧ ((p < n ∧ f (3 * p) = tm ∧ r = nI n ∧ ∀ i, i < n → g (3 * i) = f (3 * i)) ∨ (¬ (p < n ∧ f (3 * p) = tm) ∧ r = nI (n + 1) ∧ ∀ i, i < n + 1 → g (3 * i) = if i < p then f (3 * i) else if i = p then tm else f (3 * (i - 1))))
theorem put_old {f : Nat → Int32} {n p : Nat} {tm vl es : Int32} (hp : p < n) (he : f (3 * p) = tm) : ∀ i, i < n → upd (upd (upd f (3 * p) tm) (3 * p + 1) vl) (3 * p + 2) es (3 * i) = f (3 * i) := by
  intro i hi
  simp only [upd]
  rw [if_neg (by omega), if_neg (by omega)]
  by_cases e : i = p
  · rw [if_pos (by omega), e, he]
  · rw [if_neg (by omega)]
theorem put_new {f : Nat → Int32} {n p : Nat} {tm vl es : Int32} (hp : p ≤ n) : ∀ i, i < n + 1 → upd (upd (upd (shP f (3 * p + 2) (3 * n + 2)) (3 * p) tm) (3 * p + 1) vl) (3 * p + 2) es (3 * i) = if i < p then f (3 * i) else if i = p then tm else f (3 * (i - 1)) := by
  intro i hi
  simp only [upd]
  rw [if_neg (by omega), if_neg (by omega)]
  by_cases e : i = p
  · rw [if_pos (by omega), if_neg (by omega), if_pos e]
  · rw [if_neg (by omega), shP]
    by_cases e2 : i < p
    · rw [if_neg (by omega), if_pos e2]
    · rw [if_pos (by omega), if_neg e2, if_neg e]
      congr 1
      omega
set_option maxHeartbeats 4000000 in
set_option maxRecDepth 100000 in
theorem c_below (l : Launch) (D : va_G) {x : Int32} {n : Nat} (h0 : 0 < n) (hn : n < 2 ^ 31) : Met l yL_below (ws_ yL_below cL_below 2 (some .int)) ({ frames := 0, cells := 0, slots := 0, locals := 0 } : Room) (va_Pc [.int x, .int (nI n)] (PW D [])) (vp_Si (fun v => ∃ k, k < n ∧ v = nI k)) 0 0 (fun _ => False) := by
  refine va_MetF (cc := cL_below) (maxL := 2) (ret := (some .int)) (by decide +kernel) rfl ?_
  intro p e s m args below meth c s₁ B hml hv
  obtain ⟨rfl, hG, hP⟩ := hv
  have hx := B.exec
  have hb := B.bytes
  have hr := B.returns
  have hts : ∀ w ∈ wsL_law, w.before _ s = true := fun w h => atoms_spec (ws := (ws_ yL_below cL_below 2 (some .int))) B.pre w (List.mem_cons_of_mem _ h)
  have hown : s.vm.findClass RL = some m.cls := findClass_of_methodNamed B.named
  have hlk := B.notSynchronized
  have hC : CallFix p m c cL_below 2 s _ wsL_law RL := ⟨hx, hb, hml, hown, hts⟩
  have hl := lv_entry ([.int x, .int (nI n)]) (n := 2) (Nat.le_of_ble_eq_true rfl)
  rw [lg_entry_eq]
  generalize (lg_sl ([.int x, .int (nI n)]) ++ List.replicate (2 - (lg_sl ([.int x, .int (nI n)])).length) Slot.unset).toArray = ls at hl ⊢
  have hl : lv_has ls 2 [(0, .int x), (1, .int (nI n))] := hl
  refine lv_iload_n hx hb dL_below_0 rfl (lv_at hl 0 rfl) ?_
  refine lv_ldc hx hb hown (hts _ mG_L_7) dL_below_1 ?_
  refine lv_iand hx hb dL_below_3 ?_
  refine lv_iload_n hx hb dL_below_4 rfl (lv_at hl 1 rfl) ?_
  refine lv_irem hx hb dL_below_5 (nI_ne0 h0 hn) ?_
  refine Ri hx hb hr hlk ?_ dL_below_6
  exact below_is x h0 hn
set_option maxHeartbeats 4000000 in
set_option maxRecDepth 100000 in
theorem c_cell (l : Launch) (D : va_G) {b L k : Nat} {xs : Nat → Int32} (hk : k < 1000) (hL : L ≤ 260) : Met l yL_cell (ws_ yL_cell cL_cell 2 (some .int)) ({ frames := 0, cells := 0, slots := 0, locals := 0 } : Room) (va_Pc [.ref b, .int (nI k)] (PXW D [] (SCR b L xs (fun _ => False)))) (vp_Si (fun _ => True)) 0 0 (fun _ => False) := by
  refine va_MetF (cc := cL_cell) (maxL := 2) (ret := (some .int)) (by decide +kernel) rfl ?_
  intro p e s m args below meth c s₁ B hml hv
  obtain ⟨rfl, ⟨hG, hP⟩, hX⟩ := hv
  have hx := B.exec
  have hb := B.bytes
  have hr := B.returns
  have hts : ∀ w ∈ wsL_law, w.before _ s = true := fun w h => atoms_spec (ws := (ws_ yL_cell cL_cell 2 (some .int))) B.pre w (List.mem_cons_of_mem _ h)
  have hown : s.vm.findClass RL = some m.cls := findClass_of_methodNamed B.named
  have hlk := B.notSynchronized
  have hC : CallFix p m c cL_cell 2 s _ wsL_law RL := ⟨hx, hb, hml, hown, hts⟩
  have hl := lv_entry ([.ref b, .int (nI k)]) (n := 2) (Nat.le_of_ble_eq_true rfl)
  rw [lg_entry_eq]
  generalize (lg_sl ([.ref b, .int (nI k)]) ++ List.replicate (2 - (lg_sl ([.ref b, .int (nI k)])).length) Slot.unset).toArray = ls at hl ⊢
  have hl : lv_has ls 2 [(0, .ref b), (1, .int (nI k))] := hl
  refine lv_iload_n hx hb dL_cell_0 rfl (lv_at hl 1 rfl) ?_
  refine lv_aload_n hx hb dL_cell_1 rfl (lv_at hl 0 rfl) ?_
  refine va_slen hx hb hX.1 hX.2.1 hX.2.2 (va_S.rf (A := fun _ => False)) dL_cell_2 ?_
  refine tpi (y := nI L) rfl ?_
  refine lv_icmp_ge (tgt := 12) hx hb dL_cell_3 (by decide) (fun c3 => ?_) (fun c3 => ?_)
  · skip
    have n3 := (nI_leI (a := L) (b := k) (by omega) (by omega)).mp c3
    refine lv_ldc hx hb hown (hts _ mG_L_8) dL_cell_12 ?_
    refine lv_iload_n hx hb dL_cell_14 rfl (lv_at hl 1 rfl) ?_
    refine lv_iconst (v := 3) hx hb dL_cell_15 (by decide) ?_
    refine lv_iadd hx hb dL_cell_16 ?_
    refine tpi (y := nI (k + 3)) (nI_add k 3) ?_
    refine lv_imul hx hb dL_cell_17 ?_
    refine Ri hx hb hr hlk ?_ dL_cell_18
    exact trivial
  · skip
    have n3 := mt (nI_leI (a := L) (b := k) (by omega) (by omega)).mpr c3
    refine lv_aload_n hx hb dL_cell_6 rfl (lv_at hl 0 rfl) ?_
    refine lv_iload_n hx hb dL_cell_7 rfl (lv_at hl 1 rfl) ?_
    refine va_sld hx hb hX.1 hX.2.1 hX.2.2 (va_S.rf (A := fun _ => False)) (vp_in_nI (by omega) (by omega)) dL_cell_8 ?_
    refine lv_goto (tgt := 18) hx hb dL_cell_9 (by decide) ?_
    refine Ri hx hb hr hlk ?_ dL_cell_18
    exact trivial
set_option maxHeartbeats 4000000 in
set_option maxRecDepth 100000 in
theorem c_put (l : Launch) (D : va_G) {a n : Nat} {f : Nat → Int32} {tm vl es : Int32} (hz0 : Nat) (hn : n ≤ 3) : Met l yL_put (ws_ yL_put cL_put 8 (some .int)) ({ frames := 0, cells := 0, slots := 0, locals := 0 } : Room) (va_Pc [.ref a, .int (nI n), .int tm, .int vl, .int es] (SW D [aI D a 60 f] hz0)) (va_Qi (fun r ((p, g) : Nat × (Nat → Int32)) => PutP f n tm r p g) (AT D (va_A [aI D a 60 f] hz0) (fun ((p, g) : Nat × (Nat → Int32)) => [aI D a 60 g])) (va_A [aI D a 60 f] hz0)) 0 0 (va_A [aI D a 60 f] hz0) := by
  refine va_MetF (cc := cL_put) (maxL := 8) (ret := (some .int)) (by decide +kernel) rfl ?_
  intro p e s m args below meth c s₁ B hml hv
  obtain ⟨rfl, hsz, hG, hP, hD0⟩ := hv
  have hx := B.exec
  have hb := B.bytes
  have hr := B.returns
  have hts : ∀ w ∈ wsL_law, w.before _ s = true := fun w h => atoms_spec (ws := (ws_ yL_put cL_put 8 (some .int))) B.pre w (List.mem_cons_of_mem _ h)
  have hown : s.vm.findClass RL = some m.cls := findClass_of_methodNamed B.named
  have hlk := B.notSynchronized
  have hC : CallFix p m c cL_put 8 s _ wsL_law RL := ⟨hx, hb, hml, hown, hts⟩
  subst hsz
  have hD := hD0.self (sz := s.heap.size)
  generalize hAe : va_A [aI D a 60 f] s.heap.size = A at hD ⊢
  have hA : ∀ q : Nat, s.heap.size ≤ q → A q := fun q h => by rw [← hAe]; exact Or.inr h
  have hS : va_S A s.heap s.heap [] := va_S.rf
  obtain ⟨H, hHe⟩ : ∃ H, H = s.heap := ⟨_, rfl⟩
  rw [← hHe] at hP
  have hS : va_S A s.heap H [] := by rw [hHe]; exact hS
  have hl := lv_entry ([.ref a, .int (nI n), .int tm, .int vl, .int es]) (n := 8) (Nat.le_of_ble_eq_true rfl)
  rw [lg_entry_eq]
  generalize (lg_sl ([.ref a, .int (nI n), .int tm, .int vl, .int es]) ++ List.replicate (8 - (lg_sl ([.ref a, .int (nI n), .int tm, .int vl, .int es])).length) Slot.unset).toArray = ls at hl ⊢
  have hl : lv_has ls 8 [(0, .ref a), (1, .int (nI n)), (2, .int tm), (3, .int vl), (4, .int es)] := hl
  rw [← hHe]
  refine lv_iconst (v := 0) hx hb dL_put_0 (by decide) ?_
  refine lv_istore (lv' := [(5, .int 0), (0, .ref a), (1, .int (nI n)), (2, .int tm), (3, .int vl), (4, .int es)]) hx hb dL_put_1 hl (by decide) rfl (fun ls hl => ?_)
  have loop3 : ∀ (d9 : Nat) (p1 : Nat), (n - p1) < d9 → (p1 ≤ n) → (∀ i, i < p1 → f (3 * i) < tm) → ∀ (H : Heap) (locs : List Loc) (ls : Array Slot), va_P D cls [aI D a 60 f] H → va_D A [aI D a 60 f] → va_S A s.heap H locs → lv_has ls 8 [(0, .ref a), (1, .int (nI n)), (2, .int tm), (3, .int vl), (4, .int es), (5, .int (nI p1))] → W p l e ({ frames := 0, cells := 0, slots := 0, locals := 0 } : Room) s m ([.ref a, .int (nI n), .int tm, .int vl, .int es] : List Value).toArray below meth c H locs 0 0 (MQ below (va_Qi (fun r ((p, g) : Nat × (Nat → Int32)) => PutP f n tm r p g) (AT D A (fun ((p, g) : Nat × (Nat → Int32)) => [aI D a 60 g])) A) ([.ref a, .int (nI n), .int tm, .int vl, .int es] : List Value).toArray s 0 0 A) (F0 m 3 ls []) := by
    intro d9
    induction d9 with
    | zero => intro p1 hd; exact absurd hd (Nat.not_lt_zero _)
    | succ d9 ih3 =>
      intro p1 hd3 hp1 hlt H locs ls hP hD hS hl
      refine lv_iload hx hb dL_put_3 (lv_at hl 5 rfl) ?_
      refine lv_iload_n hx hb dL_put_5 rfl (lv_at hl 1 rfl) ?_
      refine lv_icmp_ge (tgt := 25) hx hb dL_put_6 (by decide) (fun c6 => ?_) (fun c6 => ?_)
      · skip
        have n6 := (nI_leI (a := n) (b := p1) (by omega) (by omega)).mp c6
        refine lv_iload hx hb dL_put_25 (lv_at hl 5 rfl) ?_
        refine lv_iload_n hx hb dL_put_27 rfl (lv_at hl 1 rfl) ?_
        refine lv_icmp_ge (tgt := 45) hx hb dL_put_28 (by decide) (fun _ => ?_) (fun h9 => absurd ((nI_leI (a := n) (b := p1) (by omega) (by omega)).mpr (by omega)) h9)
        refine lv_iconst (v := 0) hx hb dL_put_45 (by decide) ?_
        refine lv_istore (lv' := [(6, .int 0), (0, .ref a), (1, .int (nI n)), (2, .int tm), (3, .int vl), (4, .int es), (5, .int (nI p1))]) hx hb dL_put_46 hl (by decide) rfl (fun ls hl => ?_)
        refine lv_iconst (v := 3) hx hb dL_put_48 (by decide) ?_
        refine lv_iload_n hx hb dL_put_49 rfl (lv_at hl 2 rfl) ?_
        refine lv_imul hx hb dL_put_50 ?_
        refine tpi (y := nI (3 * n)) (pk_mul 3 n) ?_
        refine lv_iconst (v := 2) hx hb dL_put_51 (by decide) ?_
        refine lv_iadd hx hb dL_put_52 ?_
        refine tpi (y := nI ((3 * n) + 2)) (nI_add (3 * n) 2) ?_
        refine lv_istore (lv' := [(7, .int (nI ((3 * n) + 2))), (6, .int 0), (0, .ref a), (1, .int (nI n)), (2, .int tm), (3, .int vl), (4, .int es), (5, .int (nI p1))]) hx hb dL_put_53 hl (by decide) rfl (fun ls hl => ?_)
        have loop55 : ∀ (d9 : Nat) (k2 : Nat), k2 < d9 → (3 * p1 + 2 ≤ k2) → (k2 ≤ 3 * n + 2) → ∀ (H : Heap) (locs : List Loc) (ls : Array Slot), va_P D cls [aI D a 60 (shP f k2 (3 * n + 2))] H → va_D A [aI D a 60 (shP f k2 (3 * n + 2))] → va_S A s.heap H locs → lv_has ls 8 [(0, .ref a), (1, .int (nI n)), (2, .int tm), (3, .int vl), (4, .int es), (5, .int (nI p1)), (6, .int 0), (7, .int (nI k2))] → W p l e ({ frames := 0, cells := 0, slots := 0, locals := 0 } : Room) s m ([.ref a, .int (nI n), .int tm, .int vl, .int es] : List Value).toArray below meth c H locs 0 0 (MQ below (va_Qi (fun r ((p, g) : Nat × (Nat → Int32)) => PutP f n tm r p g) (AT D A (fun ((p, g) : Nat × (Nat → Int32)) => [aI D a 60 g])) A) ([.ref a, .int (nI n), .int tm, .int vl, .int es] : List Value).toArray s 0 0 A) (F0 m 55 ls []) := by
          intro d9
          induction d9 with
          | zero => intro k2 hd; exact absurd hd (Nat.not_lt_zero _)
          | succ d9 ih55 =>
            intro k2 hd55 hk1 hk2 H locs ls hP hD hS hl
            refine lv_iload hx hb dL_put_55 (lv_at hl 7 rfl) ?_
            refine lv_iconst (v := 3) hx hb dL_put_57 (by decide) ?_
            refine lv_iload hx hb dL_put_58 (lv_at hl 5 rfl) ?_
            refine lv_imul hx hb dL_put_60 ?_
            refine tpi (y := nI (3 * p1)) (pk_mul 3 p1) ?_
            refine lv_iconst (v := 3) hx hb dL_put_61 (by decide) ?_
            refine lv_iadd hx hb dL_put_62 ?_
            refine tpi (y := nI ((3 * p1) + 3)) (nI_add (3 * p1) 3) ?_
            refine lv_icmp_lt (tgt := 87) hx hb dL_put_63 (by decide) (fun c63 => ?_) (fun c63 => ?_)
            · skip
              have n63 := (nI_ltI (a := k2) (b := (3 * p1) + 3) (by omega) (by omega)).mp c63
              have hk9 : k2 = 3 * p1 + 2 := by omega
              subst hk9
              refine lv_aload_n hx hb dL_put_87 rfl (lv_at hl 0 rfl) ?_
              refine lv_iconst (v := 3) hx hb dL_put_88 (by decide) ?_
              refine lv_iload hx hb dL_put_89 (lv_at hl 5 rfl) ?_
              refine lv_imul hx hb dL_put_91 ?_
              refine tpi (y := nI (3 * p1)) (pk_mul 3 p1) ?_
              refine lv_iload_n hx hb dL_put_92 rfl (lv_at hl 2 rfl) ?_
              refine ist (n := 60) (j := 3 * p1) hx hb hG hP hD hS 0 rfl (by omega) (by omega) dL_put_93 (fun H locs hP hD hS => ?_)
              have hP : va_P D cls [aI D a 60 (upd (shP f (3 * p1 + 2) (3 * n + 2)) (3 * p1) tm)] H := hP
              have hD : va_D A [aI D a 60 (upd (shP f (3 * p1 + 2) (3 * n + 2)) (3 * p1) tm)] := hD
              refine lv_aload_n hx hb dL_put_94 rfl (lv_at hl 0 rfl) ?_
              refine lv_iconst (v := 3) hx hb dL_put_95 (by decide) ?_
              refine lv_iload hx hb dL_put_96 (lv_at hl 5 rfl) ?_
              refine lv_imul hx hb dL_put_98 ?_
              refine tpi (y := nI (3 * p1)) (pk_mul 3 p1) ?_
              refine lv_iconst (v := 1) hx hb dL_put_99 (by decide) ?_
              refine lv_iadd hx hb dL_put_100 ?_
              refine tpi (y := nI ((3 * p1) + 1)) (nI_add (3 * p1) 1) ?_
              refine lv_iload_n hx hb dL_put_101 rfl (lv_at hl 3 rfl) ?_
              refine ist (n := 60) (j := (3 * p1) + 1) hx hb hG hP hD hS 0 rfl (by omega) (by omega) dL_put_102 (fun H locs hP hD hS => ?_)
              have hP : va_P D cls [aI D a 60 (upd (upd (shP f (3 * p1 + 2) (3 * n + 2)) (3 * p1) tm) ((3 * p1) + 1) vl)] H := hP
              have hD : va_D A [aI D a 60 (upd (upd (shP f (3 * p1 + 2) (3 * n + 2)) (3 * p1) tm) ((3 * p1) + 1) vl)] := hD
              refine lv_aload_n hx hb dL_put_103 rfl (lv_at hl 0 rfl) ?_
              refine lv_iconst (v := 3) hx hb dL_put_104 (by decide) ?_
              refine lv_iload hx hb dL_put_105 (lv_at hl 5 rfl) ?_
              refine lv_imul hx hb dL_put_107 ?_
              refine tpi (y := nI (3 * p1)) (pk_mul 3 p1) ?_
              refine lv_iconst (v := 2) hx hb dL_put_108 (by decide) ?_
              refine lv_iadd hx hb dL_put_109 ?_
              refine tpi (y := nI ((3 * p1) + 2)) (nI_add (3 * p1) 2) ?_
              refine lv_iload hx hb dL_put_110 (lv_at hl 4 rfl) ?_
              refine ist (n := 60) (j := (3 * p1) + 2) hx hb hG hP hD hS 0 rfl (by omega) (by omega) dL_put_112 (fun H locs hP hD hS => ?_)
              have hP : va_P D cls [aI D a 60 (upd (upd (upd (shP f (3 * p1 + 2) (3 * n + 2)) (3 * p1) tm) ((3 * p1) + 1) vl) ((3 * p1) + 2) es)] H := hP
              have hD : va_D A [aI D a 60 (upd (upd (upd (shP f (3 * p1 + 2) (3 * n + 2)) (3 * p1) tm) ((3 * p1) + 1) vl) ((3 * p1) + 2) es)] := hD
              refine lv_iload hx hb dL_put_113 (lv_at hl 6 rfl) ?_
              refine lv_if_eq (tgt := 122) hx hb dL_put_115 (by decide) (fun _ => ?_) (fun h9 => (h9 (by decide)).elim)
              refine lv_iload_n hx hb dL_put_122 rfl (lv_at hl 1 rfl) ?_
              refine lv_iconst (v := 1) hx hb dL_put_123 (by decide) ?_
              refine lv_iadd hx hb dL_put_124 ?_
              refine tpi (y := nI (n + 1)) (nI_add n 1) ?_
              refine Wi (p1, upd (upd (upd (shP f (3 * p1 + 2) (3 * n + 2)) (3 * p1) tm) ((3 * p1) + 1) vl) ((3 * p1) + 2) es) hx hb hr hlk ?_ hP hD hS (Nat.le_of_ble_eq_true rfl) (by first | exact Nat.le_of_ble_eq_true rfl | exact Nat.le_of_eq (Nat.zero_add _)) dL_put_125
              exact ⟨hp1, hlt, fun h => absurd h (by omega), Or.inr ⟨fun h => absurd h.1 (by omega), rfl, put_new hp1⟩⟩
            · skip
              have n63 := mt (nI_ltI (a := k2) (b := (3 * p1) + 3) (by omega) (by omega)).mpr c63
              refine lv_iload hx hb dL_put_66 (lv_at hl 6 rfl) ?_
              refine lv_if_ne (tgt := 87) hx hb dL_put_68 (by decide) (fun h9 => (h9 (by decide)).elim) (fun _ => ?_)
              refine lv_aload_n hx hb dL_put_71 rfl (lv_at hl 0 rfl) ?_
              refine lv_iload hx hb dL_put_72 (lv_at hl 7 rfl) ?_
              refine lv_aload_n hx hb dL_put_74 rfl (lv_at hl 0 rfl) ?_
              refine lv_iload hx hb dL_put_75 (lv_at hl 7 rfl) ?_
              refine lv_iconst (v := 3) hx hb dL_put_77 (by decide) ?_
              refine lv_isub hx hb dL_put_78 ?_
              refine tpi (y := nI (k2 - 3)) (pk_sub (a := k2) (b := 3) (by omega)) ?_
              refine ild (n := 60) (j := k2 - 3) hx hb hG hP 0 rfl (by omega) (by omega) dL_put_79 ?_
              refine ist (n := 60) (j := k2) hx hb hG hP hD hS 0 rfl (by omega) (by omega) dL_put_80 (fun H locs hP hD hS => ?_)
              have hfn : upd (shP f k2 (3 * n + 2)) k2 ((shP f k2 (3 * n + 2)) (k2 - 3)) = (shP f (k2 - 1) (3 * n + 2)) := shP_step (by omega) (by omega)
              have hP : va_P D cls [aI D a 60 (shP f (k2 - 1) (3 * n + 2))] H := by rw [← hfn]; exact hP
              have hD : va_D A [aI D a 60 (shP f (k2 - 1) (3 * n + 2))] := by rw [← hfn]; exact hD
              refine lv_iinc (v := nI (k2 - 1)) (lv' := [(7, .int (nI (k2 - 1))), (0, .ref a), (1, .int (nI n)), (2, .int tm), (3, .int vl), (4, .int es), (5, .int (nI p1)), (6, .int 0)]) hx hb dL_put_81 hl (k := 7) rfl (sb_m1 (by omega)) (by decide) rfl (fun ls hl => ?_)
              refine lv_goto (tgt := 55) hx hb dL_put_84 (by decide) ?_
              exact ih55 (k2 - 1) (by omega) (by omega) (by omega) _ _ _ hP hD hS (lv_sub hl [1, 2, 3, 4, 5, 6, 7, 0] rfl)
        have hcv1 : (shP f (3 * n + 2) (3 * n + 2)) = f := shP_self f _
        have hP := Eq.mpr (congrArg (fun z9 => va_P D cls [aI D a 60 z9] H) hcv1) hP
        have hD := Eq.mpr (congrArg (fun z9 => va_D A [aI D a 60 z9]) hcv1) hD
        have hP : va_P D cls [aI D a 60 (shP f (3 * n + 2) (3 * n + 2))] H := hP
        have hD : va_D A [aI D a 60 (shP f (3 * n + 2) (3 * n + 2))] := hD
        exact loop55 _ (3 * n + 2) (Nat.lt_succ_self _) (by omega) (by omega) _ _ _ hP hD hS (lv_sub hl [2, 3, 4, 5, 6, 7, 1, 0] rfl)
      · skip
        have n6 := mt (nI_leI (a := n) (b := p1) (by omega) (by omega)).mpr c6
        refine lv_aload_n hx hb dL_put_9 rfl (lv_at hl 0 rfl) ?_
        refine lv_iconst (v := 3) hx hb dL_put_10 (by decide) ?_
        refine lv_iload hx hb dL_put_11 (lv_at hl 5 rfl) ?_
        refine lv_imul hx hb dL_put_13 ?_
        refine tpi (y := nI (3 * p1)) (pk_mul 3 p1) ?_
        refine ild (n := 60) (j := 3 * p1) hx hb hG hP 0 rfl (by omega) (by omega) dL_put_14 ?_
        refine lv_iload_n hx hb dL_put_15 rfl (lv_at hl 2 rfl) ?_
        refine lv_icmp_ge (tgt := 25) hx hb dL_put_16 (by decide) (fun c16 => ?_) (fun c16 => ?_)
        · skip
          refine lv_iload hx hb dL_put_25 (lv_at hl 5 rfl) ?_
          refine lv_iload_n hx hb dL_put_27 rfl (lv_at hl 1 rfl) ?_
          refine lv_icmp_ge (tgt := 45) hx hb dL_put_28 (by decide) (fun h9 => absurd ((nI_leI (a := n) (b := p1) (by omega) (by omega)).mp h9) (by omega)) (fun _ => ?_)
          refine lv_aload_n hx hb dL_put_31 rfl (lv_at hl 0 rfl) ?_
          refine lv_iconst (v := 3) hx hb dL_put_32 (by decide) ?_
          refine lv_iload hx hb dL_put_33 (lv_at hl 5 rfl) ?_
          refine lv_imul hx hb dL_put_35 ?_
          refine tpi (y := nI (3 * p1)) (pk_mul 3 p1) ?_
          refine ild (n := 60) (j := 3 * p1) hx hb hG hP 0 rfl (by omega) (by omega) dL_put_36 ?_
          refine lv_iload_n hx hb dL_put_37 rfl (lv_at hl 2 rfl) ?_
          refine lv_icmp_ne (tgt := 45) hx hb dL_put_38 (by decide) (fun c38 => ?_) (fun c38 => ?_)
          · skip
            refine lv_iconst (v := 0) hx hb dL_put_45 (by decide) ?_
            refine lv_istore (lv' := [(6, .int 0), (0, .ref a), (1, .int (nI n)), (2, .int tm), (3, .int vl), (4, .int es), (5, .int (nI p1))]) hx hb dL_put_46 hl (by decide) rfl (fun ls hl => ?_)
            refine lv_iconst (v := 3) hx hb dL_put_48 (by decide) ?_
            refine lv_iload_n hx hb dL_put_49 rfl (lv_at hl 2 rfl) ?_
            refine lv_imul hx hb dL_put_50 ?_
            refine tpi (y := nI (3 * n)) (pk_mul 3 n) ?_
            refine lv_iconst (v := 2) hx hb dL_put_51 (by decide) ?_
            refine lv_iadd hx hb dL_put_52 ?_
            refine tpi (y := nI ((3 * n) + 2)) (nI_add (3 * n) 2) ?_
            refine lv_istore (lv' := [(7, .int (nI ((3 * n) + 2))), (6, .int 0), (0, .ref a), (1, .int (nI n)), (2, .int tm), (3, .int vl), (4, .int es), (5, .int (nI p1))]) hx hb dL_put_53 hl (by decide) rfl (fun ls hl => ?_)
            have loop55 : ∀ (d9 : Nat) (k2 : Nat), k2 < d9 → (3 * p1 + 2 ≤ k2) → (k2 ≤ 3 * n + 2) → ∀ (H : Heap) (locs : List Loc) (ls : Array Slot), va_P D cls [aI D a 60 (shP f k2 (3 * n + 2))] H → va_D A [aI D a 60 (shP f k2 (3 * n + 2))] → va_S A s.heap H locs → lv_has ls 8 [(0, .ref a), (1, .int (nI n)), (2, .int tm), (3, .int vl), (4, .int es), (5, .int (nI p1)), (6, .int 0), (7, .int (nI k2))] → W p l e ({ frames := 0, cells := 0, slots := 0, locals := 0 } : Room) s m ([.ref a, .int (nI n), .int tm, .int vl, .int es] : List Value).toArray below meth c H locs 0 0 (MQ below (va_Qi (fun r ((p, g) : Nat × (Nat → Int32)) => PutP f n tm r p g) (AT D A (fun ((p, g) : Nat × (Nat → Int32)) => [aI D a 60 g])) A) ([.ref a, .int (nI n), .int tm, .int vl, .int es] : List Value).toArray s 0 0 A) (F0 m 55 ls []) := by
              intro d9
              induction d9 with
              | zero => intro k2 hd; exact absurd hd (Nat.not_lt_zero _)
              | succ d9 ih55 =>
                intro k2 hd55 hk1 hk2 H locs ls hP hD hS hl
                refine lv_iload hx hb dL_put_55 (lv_at hl 7 rfl) ?_
                refine lv_iconst (v := 3) hx hb dL_put_57 (by decide) ?_
                refine lv_iload hx hb dL_put_58 (lv_at hl 5 rfl) ?_
                refine lv_imul hx hb dL_put_60 ?_
                refine tpi (y := nI (3 * p1)) (pk_mul 3 p1) ?_
                refine lv_iconst (v := 3) hx hb dL_put_61 (by decide) ?_
                refine lv_iadd hx hb dL_put_62 ?_
                refine tpi (y := nI ((3 * p1) + 3)) (nI_add (3 * p1) 3) ?_
                refine lv_icmp_lt (tgt := 87) hx hb dL_put_63 (by decide) (fun c63 => ?_) (fun c63 => ?_)
                · skip
                  have n63 := (nI_ltI (a := k2) (b := (3 * p1) + 3) (by omega) (by omega)).mp c63
                  have hk9 : k2 = 3 * p1 + 2 := by omega
                  subst hk9
                  refine lv_aload_n hx hb dL_put_87 rfl (lv_at hl 0 rfl) ?_
                  refine lv_iconst (v := 3) hx hb dL_put_88 (by decide) ?_
                  refine lv_iload hx hb dL_put_89 (lv_at hl 5 rfl) ?_
                  refine lv_imul hx hb dL_put_91 ?_
                  refine tpi (y := nI (3 * p1)) (pk_mul 3 p1) ?_
                  refine lv_iload_n hx hb dL_put_92 rfl (lv_at hl 2 rfl) ?_
                  refine ist (n := 60) (j := 3 * p1) hx hb hG hP hD hS 0 rfl (by omega) (by omega) dL_put_93 (fun H locs hP hD hS => ?_)
                  have hP : va_P D cls [aI D a 60 (upd (shP f (3 * p1 + 2) (3 * n + 2)) (3 * p1) tm)] H := hP
                  have hD : va_D A [aI D a 60 (upd (shP f (3 * p1 + 2) (3 * n + 2)) (3 * p1) tm)] := hD
                  refine lv_aload_n hx hb dL_put_94 rfl (lv_at hl 0 rfl) ?_
                  refine lv_iconst (v := 3) hx hb dL_put_95 (by decide) ?_
                  refine lv_iload hx hb dL_put_96 (lv_at hl 5 rfl) ?_
                  refine lv_imul hx hb dL_put_98 ?_
                  refine tpi (y := nI (3 * p1)) (pk_mul 3 p1) ?_
                  refine lv_iconst (v := 1) hx hb dL_put_99 (by decide) ?_
                  refine lv_iadd hx hb dL_put_100 ?_
                  refine tpi (y := nI ((3 * p1) + 1)) (nI_add (3 * p1) 1) ?_
                  refine lv_iload_n hx hb dL_put_101 rfl (lv_at hl 3 rfl) ?_
                  refine ist (n := 60) (j := (3 * p1) + 1) hx hb hG hP hD hS 0 rfl (by omega) (by omega) dL_put_102 (fun H locs hP hD hS => ?_)
                  have hP : va_P D cls [aI D a 60 (upd (upd (shP f (3 * p1 + 2) (3 * n + 2)) (3 * p1) tm) ((3 * p1) + 1) vl)] H := hP
                  have hD : va_D A [aI D a 60 (upd (upd (shP f (3 * p1 + 2) (3 * n + 2)) (3 * p1) tm) ((3 * p1) + 1) vl)] := hD
                  refine lv_aload_n hx hb dL_put_103 rfl (lv_at hl 0 rfl) ?_
                  refine lv_iconst (v := 3) hx hb dL_put_104 (by decide) ?_
                  refine lv_iload hx hb dL_put_105 (lv_at hl 5 rfl) ?_
                  refine lv_imul hx hb dL_put_107 ?_
                  refine tpi (y := nI (3 * p1)) (pk_mul 3 p1) ?_
                  refine lv_iconst (v := 2) hx hb dL_put_108 (by decide) ?_
                  refine lv_iadd hx hb dL_put_109 ?_
                  refine tpi (y := nI ((3 * p1) + 2)) (nI_add (3 * p1) 2) ?_
                  refine lv_iload hx hb dL_put_110 (lv_at hl 4 rfl) ?_
                  refine ist (n := 60) (j := (3 * p1) + 2) hx hb hG hP hD hS 0 rfl (by omega) (by omega) dL_put_112 (fun H locs hP hD hS => ?_)
                  have hP : va_P D cls [aI D a 60 (upd (upd (upd (shP f (3 * p1 + 2) (3 * n + 2)) (3 * p1) tm) ((3 * p1) + 1) vl) ((3 * p1) + 2) es)] H := hP
                  have hD : va_D A [aI D a 60 (upd (upd (upd (shP f (3 * p1 + 2) (3 * n + 2)) (3 * p1) tm) ((3 * p1) + 1) vl) ((3 * p1) + 2) es)] := hD
                  refine lv_iload hx hb dL_put_113 (lv_at hl 6 rfl) ?_
                  refine lv_if_eq (tgt := 122) hx hb dL_put_115 (by decide) (fun _ => ?_) (fun h9 => (h9 (by decide)).elim)
                  refine lv_iload_n hx hb dL_put_122 rfl (lv_at hl 1 rfl) ?_
                  refine lv_iconst (v := 1) hx hb dL_put_123 (by decide) ?_
                  refine lv_iadd hx hb dL_put_124 ?_
                  refine tpi (y := nI (n + 1)) (nI_add n 1) ?_
                  refine Wi (p1, upd (upd (upd (shP f (3 * p1 + 2) (3 * n + 2)) (3 * p1) tm) ((3 * p1) + 1) vl) ((3 * p1) + 2) es) hx hb hr hlk ?_ hP hD hS (Nat.le_of_ble_eq_true rfl) (by first | exact Nat.le_of_ble_eq_true rfl | exact Nat.le_of_eq (Nat.zero_add _)) dL_put_125
                  exact ⟨hp1, hlt, fun _ => Int32.not_lt.mpr c16, Or.inr ⟨fun h => c38 h.2, rfl, put_new hp1⟩⟩
                · skip
                  have n63 := mt (nI_ltI (a := k2) (b := (3 * p1) + 3) (by omega) (by omega)).mpr c63
                  refine lv_iload hx hb dL_put_66 (lv_at hl 6 rfl) ?_
                  refine lv_if_ne (tgt := 87) hx hb dL_put_68 (by decide) (fun h9 => (h9 (by decide)).elim) (fun _ => ?_)
                  refine lv_aload_n hx hb dL_put_71 rfl (lv_at hl 0 rfl) ?_
                  refine lv_iload hx hb dL_put_72 (lv_at hl 7 rfl) ?_
                  refine lv_aload_n hx hb dL_put_74 rfl (lv_at hl 0 rfl) ?_
                  refine lv_iload hx hb dL_put_75 (lv_at hl 7 rfl) ?_
                  refine lv_iconst (v := 3) hx hb dL_put_77 (by decide) ?_
                  refine lv_isub hx hb dL_put_78 ?_
                  refine tpi (y := nI (k2 - 3)) (pk_sub (a := k2) (b := 3) (by omega)) ?_
                  refine ild (n := 60) (j := k2 - 3) hx hb hG hP 0 rfl (by omega) (by omega) dL_put_79 ?_
                  refine ist (n := 60) (j := k2) hx hb hG hP hD hS 0 rfl (by omega) (by omega) dL_put_80 (fun H locs hP hD hS => ?_)
                  have hfn : upd (shP f k2 (3 * n + 2)) k2 ((shP f k2 (3 * n + 2)) (k2 - 3)) = (shP f (k2 - 1) (3 * n + 2)) := shP_step (by omega) (by omega)
                  have hP : va_P D cls [aI D a 60 (shP f (k2 - 1) (3 * n + 2))] H := by rw [← hfn]; exact hP
                  have hD : va_D A [aI D a 60 (shP f (k2 - 1) (3 * n + 2))] := by rw [← hfn]; exact hD
                  refine lv_iinc (v := nI (k2 - 1)) (lv' := [(7, .int (nI (k2 - 1))), (0, .ref a), (1, .int (nI n)), (2, .int tm), (3, .int vl), (4, .int es), (5, .int (nI p1)), (6, .int 0)]) hx hb dL_put_81 hl (k := 7) rfl (sb_m1 (by omega)) (by decide) rfl (fun ls hl => ?_)
                  refine lv_goto (tgt := 55) hx hb dL_put_84 (by decide) ?_
                  exact ih55 (k2 - 1) (by omega) (by omega) (by omega) _ _ _ hP hD hS (lv_sub hl [1, 2, 3, 4, 5, 6, 7, 0] rfl)
            have hcv2 : (shP f (3 * n + 2) (3 * n + 2)) = f := shP_self f _
            have hP := Eq.mpr (congrArg (fun z9 => va_P D cls [aI D a 60 z9] H) hcv2) hP
            have hD := Eq.mpr (congrArg (fun z9 => va_D A [aI D a 60 z9]) hcv2) hD
            have hP : va_P D cls [aI D a 60 (shP f (3 * n + 2) (3 * n + 2))] H := hP
            have hD : va_D A [aI D a 60 (shP f (3 * n + 2) (3 * n + 2))] := hD
            exact loop55 _ (3 * n + 2) (Nat.lt_succ_self _) (by omega) (by omega) _ _ _ hP hD hS (lv_sub hl [2, 3, 4, 5, 6, 7, 1, 0] rfl)
          · skip
            refine lv_iconst (v := 1) hx hb dL_put_41 (by decide) ?_
            refine lv_goto (tgt := 46) hx hb dL_put_42 (by decide) ?_
            refine lv_istore (lv' := [(6, .int 1), (0, .ref a), (1, .int (nI n)), (2, .int tm), (3, .int vl), (4, .int es), (5, .int (nI p1))]) hx hb dL_put_46 hl (by decide) rfl (fun ls hl => ?_)
            refine lv_iconst (v := 3) hx hb dL_put_48 (by decide) ?_
            refine lv_iload_n hx hb dL_put_49 rfl (lv_at hl 2 rfl) ?_
            refine lv_imul hx hb dL_put_50 ?_
            refine tpi (y := nI (3 * n)) (pk_mul 3 n) ?_
            refine lv_iconst (v := 2) hx hb dL_put_51 (by decide) ?_
            refine lv_iadd hx hb dL_put_52 ?_
            refine tpi (y := nI ((3 * n) + 2)) (nI_add (3 * n) 2) ?_
            refine lv_istore (lv' := [(7, .int (nI ((3 * n) + 2))), (6, .int 1), (0, .ref a), (1, .int (nI n)), (2, .int tm), (3, .int vl), (4, .int es), (5, .int (nI p1))]) hx hb dL_put_53 hl (by decide) rfl (fun ls hl => ?_)
            refine lv_iload hx hb dL_put_55 (lv_at hl 0 rfl) ?_
            refine lv_iconst (v := 3) hx hb dL_put_57 (by decide) ?_
            refine lv_iload hx hb dL_put_58 (lv_at hl 7 rfl) ?_
            refine lv_imul hx hb dL_put_60 ?_
            refine tpi (y := nI (3 * p1)) (pk_mul 3 p1) ?_
            refine lv_iconst (v := 3) hx hb dL_put_61 (by decide) ?_
            refine lv_iadd hx hb dL_put_62 ?_
            refine tpi (y := nI ((3 * p1) + 3)) (nI_add (3 * p1) 3) ?_
            refine lv_icmp_lt (tgt := 87) hx hb dL_put_63 (by decide) (fun h9 => absurd ((nI_ltI (a := (3 * n) + 2) (b := (3 * p1) + 3) (by omega) (by omega)).mp h9) (by omega)) (fun _ => ?_)
            refine lv_iload hx hb dL_put_66 (lv_at hl 1 rfl) ?_
            refine lv_if_ne (tgt := 87) hx hb dL_put_68 (by decide) (fun _ => ?_) (fun h9 => absurd h9 (by decide))
            refine lv_aload_n hx hb dL_put_87 rfl (lv_at hl 2 rfl) ?_
            refine lv_iconst (v := 3) hx hb dL_put_88 (by decide) ?_
            refine lv_iload hx hb dL_put_89 (lv_at hl 7 rfl) ?_
            refine lv_imul hx hb dL_put_91 ?_
            refine tpi (y := nI (3 * p1)) (pk_mul 3 p1) ?_
            refine lv_iload_n hx hb dL_put_92 rfl (lv_at hl 4 rfl) ?_
            refine ist (n := 60) (j := 3 * p1) hx hb hG hP hD hS 0 rfl (by omega) (by omega) dL_put_93 (fun H locs hP hD hS => ?_)
            have hP : va_P D cls [aI D a 60 (upd f (3 * p1) tm)] H := hP
            have hD : va_D A [aI D a 60 (upd f (3 * p1) tm)] := hD
            refine lv_aload_n hx hb dL_put_94 rfl (lv_at hl 2 rfl) ?_
            refine lv_iconst (v := 3) hx hb dL_put_95 (by decide) ?_
            refine lv_iload hx hb dL_put_96 (lv_at hl 7 rfl) ?_
            refine lv_imul hx hb dL_put_98 ?_
            refine tpi (y := nI (3 * p1)) (pk_mul 3 p1) ?_
            refine lv_iconst (v := 1) hx hb dL_put_99 (by decide) ?_
            refine lv_iadd hx hb dL_put_100 ?_
            refine tpi (y := nI ((3 * p1) + 1)) (nI_add (3 * p1) 1) ?_
            refine lv_iload_n hx hb dL_put_101 rfl (lv_at hl 5 rfl) ?_
            refine ist (n := 60) (j := (3 * p1) + 1) hx hb hG hP hD hS 0 rfl (by omega) (by omega) dL_put_102 (fun H locs hP hD hS => ?_)
            have hP : va_P D cls [aI D a 60 (upd (upd f (3 * p1) tm) ((3 * p1) + 1) vl)] H := hP
            have hD : va_D A [aI D a 60 (upd (upd f (3 * p1) tm) ((3 * p1) + 1) vl)] := hD
            refine lv_aload_n hx hb dL_put_103 rfl (lv_at hl 2 rfl) ?_
            refine lv_iconst (v := 3) hx hb dL_put_104 (by decide) ?_
            refine lv_iload hx hb dL_put_105 (lv_at hl 7 rfl) ?_
            refine lv_imul hx hb dL_put_107 ?_
            refine tpi (y := nI (3 * p1)) (pk_mul 3 p1) ?_
            refine lv_iconst (v := 2) hx hb dL_put_108 (by decide) ?_
            refine lv_iadd hx hb dL_put_109 ?_
            refine tpi (y := nI ((3 * p1) + 2)) (nI_add (3 * p1) 2) ?_
            refine lv_iload hx hb dL_put_110 (lv_at hl 6 rfl) ?_
            refine ist (n := 60) (j := (3 * p1) + 2) hx hb hG hP hD hS 0 rfl (by omega) (by omega) dL_put_112 (fun H locs hP hD hS => ?_)
            have hP : va_P D cls [aI D a 60 (upd (upd (upd f (3 * p1) tm) ((3 * p1) + 1) vl) ((3 * p1) + 2) es)] H := hP
            have hD : va_D A [aI D a 60 (upd (upd (upd f (3 * p1) tm) ((3 * p1) + 1) vl) ((3 * p1) + 2) es)] := hD
            refine lv_iload hx hb dL_put_113 (lv_at hl 1 rfl) ?_
            refine lv_if_eq (tgt := 122) hx hb dL_put_115 (by decide) (fun h9 => absurd h9 (by decide)) (fun _ => ?_)
            refine lv_iload_n hx hb dL_put_118 rfl (lv_at hl 3 rfl) ?_
            refine lv_goto (tgt := 125) hx hb dL_put_119 (by decide) ?_
            refine Wi (p1, upd (upd (upd f (3 * p1) tm) ((3 * p1) + 1) vl) ((3 * p1) + 2) es) hx hb hr hlk ?_ hP hD hS (Nat.le_of_ble_eq_true rfl) (by first | exact Nat.le_of_ble_eq_true rfl | exact Nat.le_of_eq (Nat.zero_add _)) dL_put_125
            exact ⟨hp1, hlt, fun _ => Int32.not_lt.mpr c16, Or.inl ⟨by omega, c38, rfl, put_old (by omega) c38⟩⟩
        · skip
          refine lv_iinc (v := nI (p1 + 1)) (lv' := [(5, .int (nI (p1 + 1))), (0, .ref a), (1, .int (nI n)), (2, .int tm), (3, .int vl), (4, .int es)]) hx hb dL_put_19 hl (k := 5) rfl (nI_1 _) (by decide) rfl (fun ls hl => ?_)
          refine lv_goto (tgt := 3) hx hb dL_put_22 (by decide) ?_
          exact ih3 (p1 + 1) (by omega) (by omega) (fun i hi => by
            by_cases e : i = p1
            · rw [e]
              exact Int32.not_le.mp c16
            · exact hlt i (by omega)) _ _ _ hP hD hS (lv_sub hl [1, 2, 3, 4, 5, 0] rfl)
  exact loop3 _ 0 (Nat.lt_succ_self _) (by omega) (fun i hi => absurd hi (Nat.not_lt_zero _)) _ _ _ hP hD hS (lv_sub hl [1, 2, 3, 4, 5, 0] rfl)
