/-- all groups but the own arrays -/
def gall : List gI := [kF 0, kF 1, kF 2] ++ ((List.range 6).map kH ++ ((List.range 6).flatMap (fun c => (List.range 4).map (fun j => kT c j)) ++ (List.range 10).map kS))
theorem gall_nd : (gall ++ [kF 4]).Nodup := by decide +kernel
theorem gall_H {c : Nat} (h : c < 6) : kH c ∈ gall ++ [kF 4] := List.mem_append_left _ (List.mem_append_right _ (List.mem_append_left _ (List.mem_map.mpr ⟨c, List.mem_range.mpr h, rfl⟩)))
theorem gall_T {c j : Nat} (h : c < 6) (hj : j < 4) : kT c j ∈ gall ++ [kF 4] := List.mem_append_left _ (List.mem_append_right _ (List.mem_append_right _ (List.mem_append_left _ (List.mem_flatMap.mpr ⟨c, List.mem_range.mpr h, List.mem_map.mpr ⟨j, List.mem_range.mpr hj, rfl⟩⟩))))
theorem gall_S {i : Nat} (h : i < 10) : kS i ∈ gall ++ [kF 4] := List.mem_append_left _ (List.mem_append_right _ (List.mem_append_right _ (List.mem_append_right _ (List.mem_map.mpr ⟨i, List.mem_range.mpr h, rfl⟩))))
theorem fG_app {G : gI → va_W} : ∀ (a b : List gI), fG G (a ++ b) = fG G a ++ fG G b
  | [], _ => rfl
  | g :: a, b => by rw [List.cons_append, fG, fG, fG_app a b, List.append_assoc]
theorem fG_congr {G G' : gI → va_W} : ∀ {a : List gI}, (∀ g, g ∈ a → G' g = G g) → fG G' a = fG G a
  | [], _ => rfl
  | g :: a, h => by rw [fG, fG, h g List.mem_cons_self, fG_congr (fun x hx => h x (List.mem_cons_of_mem _ hx))]
theorem gall_4 : kF 4 ∉ gall := by simp [gall]
theorem getA {X O : va_W} {i : Nat} {q : Nat × va_E} (h : O[i]? = some q) : (X ++ O)[X.length + i]? = some q := by
  rw [List.getElem?_append_right (by omega), Nat.add_sub_cancel_left]
  exact h
theorem set_app {q : Nat × va_E} {i : Nat} {O : va_W} : ∀ (X : va_W), (X ++ O).set (X.length + i) q = X ++ O.set i q
  | [] => by rw [List.nil_append, List.nil_append, List.length_nil, Nat.zero_add]
  | x :: X => by rw [List.cons_append, List.cons_append, List.length_cons, show X.length + 1 + i = (X.length + i) + 1 by omega, List.set_cons_succ, set_app X]
theorem wG_out {D : va_G} {F0 E1 E2 O : va_W} {nC nS : Nat} {cl ta sl ck nc : Nat → Nat} {qq bb tt rr aa sz : Nat → Nat → Nat} {len : Nat → Int32} {ct cn pt : Nat → Nat → Int32} {ff : Nat → Nat → Nat → Int32} (hC : nC ≤ 6) (hS : nS ≤ 10) : ∀ g, g ∉ gall ++ [kF 4] → wG F0 E1 E2 [] O (hdC D nC cl ta qq bb tt len nc ct cn) (tkC D nC tt rr aa sz ff) (stC nS sl cl ck pt) g = [] := by
  intro g hg
  match g, hg with
  | .inl 0, hg => exact absurd (List.mem_append_left _ (List.mem_append_left _ (by simp))) hg
  | .inl 1, hg => exact absurd (List.mem_append_left _ (List.mem_append_left _ (by simp))) hg
  | .inl 2, hg => exact absurd (List.mem_append_left _ (List.mem_append_left _ (by simp))) hg
  | .inl 3, hg => rfl
  | .inl 4, hg => exact absurd (List.mem_append_right _ (by simp)) hg
  | .inl (n + 5), hg => rfl
  | .inr (.inl c), hg => exact if_neg (fun h => hg (gall_H (by omega)))
  | .inr (.inr (.inl (c, j))), hg => exact if_neg (fun h => hg (gall_T (by omega) h.2))
  | .inr (.inr (.inr i)), hg => exact if_neg (fun h => hg (gall_S (by omega)))
theorem KB.flat {D : va_G} {A0 : Nat → Prop} {z xo : Nat} {O : va_W} {H : Heap} {nC : Nat} {len : Nat → Int32} {sz : Nat → Nat → Nat} {ff : Nat → Nat → Nat → Int32} {nc : Nat → Nat} {ct : Nat → Nat → Int32} {cn : Nat → Nat → Int32} {bf : Nat → Int32} {nS : Nat} {ck : Nat → Nat} {pt : Nat → Nat → Int32} {kN : Nat} {nf : Nat → Nat → Int32} {cnt : Int32} (hK : KB D A0 z xo O H nC len sz ff nc ct cn bf nS ck pt kN nf cnt) : ∃ X : va_W, va_P D cls (X ++ O) H ∧ va_D A0 (X ++ O) ∧ ∀ (O' : va_W) (H' : Heap), va_P D cls (X ++ O') H' → va_D A0 (X ++ O') → KB D A0 z xo O' H' nC len sz ff nc ct cn bf nS ck pt kN nf cnt := by
  obtain ⟨lc, lt, bo, yo, no, ec, et, ba, ya, n0, eS, m1, m2, yf, cl, ta, sl, ggf, hhf, qq, bb, tt, rr, aa, hX⟩ := hK
  obtain ⟨hGP, hGD, hInv, hk100, hn0, hE1, hE2⟩ := hX
  have hnC := hInv.1.1
  have hnS := hInv.1.2
  have key : ∀ O' : va_W, fG (wG [oO xo 5 [.ref lc, .ref lt, .ref bo, .ref yo, .ref no], oO lc 7 [.int m1, .ref ec, .int (nI nC)], oO lt 7 [.int m2, .ref et, .int (nI nS)], oO bo 2 [.ref ba, .int (nI 4)], aI D ba 4 bf, oO yo 2 [.ref ya, .int (nI n0)], aI D ya 10 yf, oO no 1 [.ref (ggf 0), .ref (ggf 1), .ref (ggf 2), .ref (ggf 3), .int cnt], oO (ggf 0) 2 [.ref (hhf 0), .int (nI kN)], oO (ggf 1) 2 [.ref (hhf 1), .int (nI kN)], oO (ggf 2) 2 [.ref (hhf 2), .int (nI kN)], oO (ggf 3) 2 [.ref (hhf 3), .int (nI kN)], aI D (hhf 0) 100 (nf 0), aI D (hhf 1) 100 (nf 1), aI D (hhf 2) 100 (nf 2), aI D (hhf 3) 100 (nf 3)] (elC D ec nC nC cl) (elC D et nS eS sl) [] O' (hdC D nC cl ta qq bb tt len nc ct cn) (tkC D nC tt rr aa sz ff) (stC nS sl cl ck pt)) (gall ++ [kF 4]) = fG (wG [oO xo 5 [.ref lc, .ref lt, .ref bo, .ref yo, .ref no], oO lc 7 [.int m1, .ref ec, .int (nI nC)], oO lt 7 [.int m2, .ref et, .int (nI nS)], oO bo 2 [.ref ba, .int (nI 4)], aI D ba 4 bf, oO yo 2 [.ref ya, .int (nI n0)], aI D ya 10 yf, oO no 1 [.ref (ggf 0), .ref (ggf 1), .ref (ggf 2), .ref (ggf 3), .int cnt], oO (ggf 0) 2 [.ref (hhf 0), .int (nI kN)], oO (ggf 1) 2 [.ref (hhf 1), .int (nI kN)], oO (ggf 2) 2 [.ref (hhf 2), .int (nI kN)], oO (ggf 3) 2 [.ref (hhf 3), .int (nI kN)], aI D (hhf 0) 100 (nf 0), aI D (hhf 1) 100 (nf 1), aI D (hhf 2) 100 (nf 2), aI D (hhf 3) 100 (nf 3)] (elC D ec nC nC cl) (elC D et nS eS sl) [] O (hdC D nC cl ta qq bb tt len nc ct cn) (tkC D nC tt rr aa sz ff) (stC nS sl cl ck pt)) gall ++ O' := fun O' => by
    rw [fG_app]
    have e1 : fG (wG [oO xo 5 [.ref lc, .ref lt, .ref bo, .ref yo, .ref no], oO lc 7 [.int m1, .ref ec, .int (nI nC)], oO lt 7 [.int m2, .ref et, .int (nI nS)], oO bo 2 [.ref ba, .int (nI 4)], aI D ba 4 bf, oO yo 2 [.ref ya, .int (nI n0)], aI D ya 10 yf, oO no 1 [.ref (ggf 0), .ref (ggf 1), .ref (ggf 2), .ref (ggf 3), .int cnt], oO (ggf 0) 2 [.ref (hhf 0), .int (nI kN)], oO (ggf 1) 2 [.ref (hhf 1), .int (nI kN)], oO (ggf 2) 2 [.ref (hhf 2), .int (nI kN)], oO (ggf 3) 2 [.ref (hhf 3), .int (nI kN)], aI D (hhf 0) 100 (nf 0), aI D (hhf 1) 100 (nf 1), aI D (hhf 2) 100 (nf 2), aI D (hhf 3) 100 (nf 3)] (elC D ec nC nC cl) (elC D et nS eS sl) [] O' (hdC D nC cl ta qq bb tt len nc ct cn) (tkC D nC tt rr aa sz ff) (stC nS sl cl ck pt)) [kF 4] = O' := List.append_nil _
    rw [e1, fG_congr (G := (wG [oO xo 5 [.ref lc, .ref lt, .ref bo, .ref yo, .ref no], oO lc 7 [.int m1, .ref ec, .int (nI nC)], oO lt 7 [.int m2, .ref et, .int (nI nS)], oO bo 2 [.ref ba, .int (nI 4)], aI D ba 4 bf, oO yo 2 [.ref ya, .int (nI n0)], aI D ya 10 yf, oO no 1 [.ref (ggf 0), .ref (ggf 1), .ref (ggf 2), .ref (ggf 3), .int cnt], oO (ggf 0) 2 [.ref (hhf 0), .int (nI kN)], oO (ggf 1) 2 [.ref (hhf 1), .int (nI kN)], oO (ggf 2) 2 [.ref (hhf 2), .int (nI kN)], oO (ggf 3) 2 [.ref (hhf 3), .int (nI kN)], aI D (hhf 0) 100 (nf 0), aI D (hhf 1) 100 (nf 1), aI D (hhf 2) 100 (nf 2), aI D (hhf 3) 100 (nf 3)] (elC D ec nC nC cl) (elC D et nS eS sl) [] O (hdC D nC cl ta qq bb tt len nc ct cn) (tkC D nC tt rr aa sz ff) (stC nS sl cl ck pt)))]
    intro g hg
    match g, hg with
    | .inl 0, _ => rfl
    | .inl 1, _ => rfl
    | .inl 2, _ => rfl
    | .inl 3, _ => rfl
    | .inl 4, hg => exact absurd hg gall_4
    | .inl (n + 5), _ => rfl
    | .inr (.inl c), _ => rfl
    | .inr (.inr (.inl (c, j))), _ => rfl
    | .inr (.inr (.inr i)), _ => rfl
  refine ⟨fG (wG [oO xo 5 [.ref lc, .ref lt, .ref bo, .ref yo, .ref no], oO lc 7 [.int m1, .ref ec, .int (nI nC)], oO lt 7 [.int m2, .ref et, .int (nI nS)], oO bo 2 [.ref ba, .int (nI 4)], aI D ba 4 bf, oO yo 2 [.ref ya, .int (nI n0)], aI D ya 10 yf, oO no 1 [.ref (ggf 0), .ref (ggf 1), .ref (ggf 2), .ref (ggf 3), .int cnt], oO (ggf 0) 2 [.ref (hhf 0), .int (nI kN)], oO (ggf 1) 2 [.ref (hhf 1), .int (nI kN)], oO (ggf 2) 2 [.ref (hhf 2), .int (nI kN)], oO (ggf 3) 2 [.ref (hhf 3), .int (nI kN)], aI D (hhf 0) 100 (nf 0), aI D (hhf 1) 100 (nf 1), aI D (hhf 2) 100 (nf 2), aI D (hhf 3) 100 (nf 3)] (elC D ec nC nC cl) (elC D et nS eS sl) [] O (hdC D nC cl ta qq bb tt len nc ct cn) (tkC D nC tt rr aa sz ff) (stC nS sl cl ck pt)) gall, ?_, ?_, fun O' H' hP' hD' => ?_⟩
  · rw [← key O]
    exact hGP.cut _
  · rw [← key O]
    exact hGD.cut gall_nd
  · exact ⟨lc, lt, bo, yo, no, ec, et, ba, ya, n0, eS, m1, m2, yf, cl, ta, sl, ggf, hhf, qq, bb, tt, rr, aa, GP.base (key O') hP' (wG_out hnC hnS), GD.base (key O') hD' gall_nd (wG_out hnC hnS), hInv, hk100, hn0, hE1, hE2⟩
theorem kist {p : Program} {l : Launch} {e : Env} {R : Room} {s : State} {m : MethodId} {args : Array Value} {below : List Frame} {meth : Method} {c : Code} {Q : State → Prop} {cc : ByteArray} {pc : Nat} {ls : Array Slot} {rest : List Value} {D : va_G} {A0 : Nat → Prop} {z xo cells slots : Nat} {O : va_W} {H : Heap} {locs : List Loc} {nC : Nat} {len : Nat → Int32} {sz : Nat → Nat → Nat} {ff : Nat → Nat → Nat → Int32} {nc : Nat → Nat} {ct : Nat → Nat → Int32} {cn : Nat → Nat → Int32} {bf : Nat → Int32} {nS : Nat} {ck : Nat → Nat} {pt : Nat → Nat → Int32} {kN : Nat} {nf : Nat → Nat → Int32} {cnt : Int32} (hx : p.tables.exec = Jvm.exec) (hb : c.code = cc) (hG : GK D s) (hK : KB D A0 z xo O H nC len sz ff nc ct cn bf nS ck pt kN nf cnt) (hS : va_S A0 s.heap H locs) (i : Nat) {a n j : Nat} {f : Nat → Int32} {x : Int32} (ha : O[i]? = some (aI D a n f)) (hj : j < n) (hn : n < 2 ^ 31) (hdg : decode cc pc = .ok (.iastore, 1))
    (kk : ∀ (H1 : Heap) (locs1 : List Loc), KB D A0 z xo (O.set i (aI D a n (upd f j x))) H1 nC len sz ff nc ct cn bf nS ck pt kN nf cnt → va_S A0 s.heap H1 locs1 → W p l e R s m args below meth c H1 locs1 cells slots Q (F0 m (pc + 1) ls rest)) : W p l e R s m args below meth c H locs cells slots Q (F0 m pc ls (.int x :: .int (nI j) :: .ref a :: rest)) := by
  obtain ⟨X, hP, hD, back⟩ := hK.flat
  refine ist hx hb hG hP hD hS (X.length + i) (getA ha) hj hn hdg (fun H1 l1 hP1 hD1 hS1 => kk H1 l1 (back _ _ ?_ ?_) hS1)
  · rw [← set_app]
    exact hP1
  · rw [← set_app]
    exact hD1
theorem knew {p : Program} {l : Launch} {e : Env} {R : Room} {s : State} {m : MethodId} {args : Array Value} {below : List Frame} {meth : Method} {c : Code} {Q : State → Prop} {cc : ByteArray} {pc : Nat} {ls : Array Slot} {rest : List Value} {D : va_G} {A0 : Nat → Prop} {z xo cells slots : Nat} {O : va_W} {H : Heap} {locs : List Loc} {nC : Nat} {len : Nat → Int32} {sz : Nat → Nat → Nat} {ff : Nat → Nat → Nat → Int32} {nc : Nat → Nat} {ct : Nat → Nat → Int32} {cn : Nat → Nat → Int32} {bf : Nat → Int32} {nS : Nat} {ck : Nat → Nat} {pt : Nat → Nat → Int32} {kN : Nat} {nf : Nat → Nat → Int32} {cnt : Int32} (hx : p.tables.exec = Jvm.exec) (hb : c.code = cc) (hts : ∀ w ∈ wsL_law, w.before args s = true) (hG : GK D s) (hK : KB D A0 z xo O H nC len sz ff nc ct cn bf nS ck pt kN nf cnt) (hS : va_S A0 s.heap H locs) (hA : ∀ q, s.heap.size ≤ q → A0 q) {n : Int32} {N : Nat} (hn : ¬ n < 0) (hN : n.toNatClampNeg = N) (hby : N ≤ 100000) (hcells : cells + 1 ≤ R.cells) (hslots : slots + N ≤ R.slots) (hdg : decode cc pc = .ok (.newarray .int, 2))
    (kk : ∀ (q : Nat) (H1 : Heap), KB D A0 z xo (O ++ [aI D q N (fun _ => 0)]) H1 nC len sz ff nc ct cn bf nS ck pt kN nf cnt → va_S A0 s.heap H1 locs → W p l e R s m args below meth c H1 locs (cells + 1) (slots + N) Q (F0 m (pc + 2) ls (.ref q :: rest))) : W p l e R s m args below meth c H locs cells slots Q (F0 m pc ls (.int n :: rest)) := by
  obtain ⟨X, hP, hD, back⟩ := hK.flat
  refine narI hx hb hG hts hP hD hS hA hn hN hby hcells hslots hdg (fun q H1 hP1 hD1 hS1 => kk q H1 (back _ _ ?_ ?_) hS1)
  · rw [← List.append_assoc]
    exact hP1
  · rw [← List.append_assoc]
    exact hD1
theorem kcpy {p : Program} {l : Launch} {e : Env} {R : Room} {s : State} {m : MethodId} {args : Array Value} {below : List Frame} {meth : Method} {c : Code} {Q : State → Prop} {cc : ByteArray} {pc : Nat} {ls : Array Slot} {rest : List Value} {D : va_G} {A0 : Nat → Prop} {z xo cells slots : Nat} {O : va_W} {H : Heap} {locs : List Loc} {nC : Nat} {len : Nat → Int32} {sz : Nat → Nat → Nat} {ff : Nat → Nat → Nat → Int32} {nc : Nat → Nat} {ct : Nat → Nat → Int32} {cn : Nat → Nat → Int32} {bf : Nat → Int32} {nS : Nat} {ck : Nat → Nat} {pt : Nat → Nat → Int32} {kN : Nat} {nf : Nat → Nat → Int32} {cnt : Int32} (hx : p.tables.exec = Jvm.exec) (hb : c.code = cc) (hml : c.maxLocals = ls.size) {own : String} {index : Nat} (hown : s.vm.findClass own = some m.cls) (hlink : (Cond.methodLink own index arraycopyName).before args s = true) (hts : ∀ w ∈ wsL_law, w.before args s = true) (hG : GK D s) (hK : KB D A0 z xo O H nC len sz ff nc ct cn bf nS ck pt kN nf cnt) (hS : va_S A0 s.heap H locs) (i0 i1 : Nat) {a a0 n0 n1 sp dp n : Nat} {f g : Nat → Int32} (ha0 : O[i0]? = some (aI D a0 n0 f)) (ha1 : O[i1]? = some (aI D a n1 g)) (h1 : sp < 2 ^ 31) (h2 : dp < 2 ^ 31) (h3 : n < 2 ^ 31) (h4 : sp + n ≤ n0) (h5 : dp + n ≤ n1) (hframes : 1 ≤ R.frames) (hlocals : (rest.map fun v => v.category).sum + (nativeFrameWords "java/lang/System" "arraycopy" 5 + 11) ≤ R.locals) (hdg : decode cc pc = .ok (.invokestatic index, 3))
    (kk : ∀ (H1 : Heap) (locs1 : List Loc), KB D A0 z xo (O.set i1 (aI D a n1 (va_cpy f g sp dp n))) H1 nC len sz ff nc ct cn bf nS ck pt kN nf cnt → va_S A0 s.heap H1 locs1 → W p l e R s m args below meth c H1 locs1 cells slots Q (F0 m (pc + 3) ls rest)) : W p l e R s m args below meth c H locs cells slots Q (F0 m pc ls (.int (nI n) :: .int (nI dp) :: .ref a :: .int (nI sp) :: .ref a0 :: rest)) := by
  obtain ⟨X, hP, hD, back⟩ := hK.flat
  refine cpi hx hb hml hown hlink hts hG hP hD hS (X.length + i0) (X.length + i1) (getA ha0) (getA ha1) h1 h2 h3 h4 h5 hframes hlocals hdg (fun H1 l1 hP1 hD1 hS1 => kk H1 l1 (back _ _ ?_ ?_) hS1)
  · rw [← set_app]
    exact hP1
  · rw [← set_app]
    exact hD1
set_option maxHeartbeats 4000000 in
set_option maxRecDepth 100000 in
theorem k_put {p : Program} {l : Launch} {e : Env} {R : Room} {s : State} {m : MethodId} {args : Array Value} {below : List Frame} {meth : Method} {c : Code} {Q : State → Prop} {cc : ByteArray} {nL pc : Nat} {ls : Array Slot} {rest : List Value} {D : va_G} {A0 : Nat → Prop} {z xo cells slots : Nat} {H : Heap} {locs : List Loc} {nC : Nat} {len : Nat → Int32} {sz : Nat → Nat → Nat} {ff : Nat → Nat → Nat → Int32} {nc : Nat → Nat} {ct : Nat → Nat → Int32} {cn : Nat → Nat → Int32} {bf : Nat → Int32} {nS : Nat} {ck : Nat → Nat} {pt : Nat → Nat → Int32} {kN : Nat} {nf : Nat → Nat → Int32} {cnt : Int32} {o0 o1 o2 o3 : Nat × va_E} {a n : Nat} {f : Nat → Int32} {tm vl es : Int32} (S : CallFix p m c cc nL s args wsL_law RL) (hsz : ls.size = nL) (hRf : 7 ≤ R.frames) (hRl : 200 ≤ R.locals) (hcl : cells ≤ R.cells) (hsl : slots ≤ R.slots) (hW : (rest.map fun v => v.category).sum ≤ 8) (hG : GK D s) (hA : ∀ q : Nat, s.heap.size ≤ q → A0 q) (hS : va_S A0 s.heap H locs) (hn : n ≤ 3) (hK : KB D A0 z xo [o0, o1, o2, o3, aI D a 60 f] H nC len sz ff nc ct cn bf nS ck pt kN nf cnt) (hdg : decode cc pc = .ok (.invokestatic 31, 3))
    (kk : ∀ (r : Int32) (p1 : Nat) (g : Nat → Int32) (H1 : Heap) (locs1 : List Loc), PutP f n tm r p1 g → KB D A0 z xo [o0, o1, o2, o3, aI D a 60 g] H1 nC len sz ff nc ct cn bf nS ck pt kN nf cnt → va_S A0 s.heap H1 locs1 → W p l e R s m args below meth c H1 locs1 cells slots Q (F0 m (pc + 3) ls (.int r :: rest))) : W p l e R s m args below meth c H locs cells slots Q (F0 m pc ls (.int es :: .int vl :: .int tm :: .int (nI n) :: .ref a :: rest)) := by
  obtain ⟨lc, lt, bo, yo, no, ec, et, ba, ya, n0, eS, m1, m2, yf, cl, ta, sl, ggf, hhf, qq, bb, tt, rr, aa, hX⟩ := hK
  obtain ⟨hGP, hGD, hInv, hk100, hn0, hE1, hE2⟩ := hX
  have hL : fG (wG [oO xo 5 [.ref lc, .ref lt, .ref bo, .ref yo, .ref no], oO lc 7 [.int m1, .ref ec, .int (nI nC)], oO lt 7 [.int m2, .ref et, .int (nI nS)], oO bo 2 [.ref ba, .int (nI 4)], aI D ba 4 bf, oO yo 2 [.ref ya, .int (nI n0)], aI D ya 10 yf, oO no 1 [.ref (ggf 0), .ref (ggf 1), .ref (ggf 2), .ref (ggf 3), .int cnt], oO (ggf 0) 2 [.ref (hhf 0), .int (nI kN)], oO (ggf 1) 2 [.ref (hhf 1), .int (nI kN)], oO (ggf 2) 2 [.ref (hhf 2), .int (nI kN)], oO (ggf 3) 2 [.ref (hhf 3), .int (nI kN)], aI D (hhf 0) 100 (nf 0), aI D (hhf 1) 100 (nf 1), aI D (hhf 2) 100 (nf 2), aI D (hhf 3) 100 (nf 3)] (elC D ec nC nC cl) (elC D et nS eS sl) [] [o0, o1, o2, o3, aI D a 60 f] (hdC D nC cl ta qq bb tt len nc ct cn) (tkC D nC tt rr aa sz ff) (stC nS sl cl ck pt)) [kF 4] = [o0, o1, o2, o3, aI D a 60 f] := fG_cons (w := [o0, o1, o2, o3, aI D a 60 f]) rfl fG_nil
  have hnd : ([kF 4] : List gI).Nodup := by simp
  have hP0 : va_P D cls [o0, o1, o2, o3, aI D a 60 f] H := by rw [← hL]; exact hGP.cut _
  have hD0 : va_D A0 [o0, o1, o2, o3, aI D a 60 f] := by rw [← hL]; exact hGD.cut hnd
  have hP9 := hP0.sub (ws' := [aI D a 60 f]) [4] rfl
  have hD9 := (hD0.sub (ws' := [aI D a 60 f]) [4] (by decide) rfl).weaken (B := fun _ => True) (fun _ _ _ _ => trivial)
  refine gi (wr := [o0, o1, o2, o3]) (rS (rest := rest) [.ref a, .int (nI n), .int tm, .int vl, .int es] 5 0 0 S (c_put l D (a := a) (n := n) (f := f) (tm := tm) (vl := vl) (es := es) (hz0 := H.size) hn) (gS mM_L_31 mT_L_put mN_L mC_L_put) (by decide +kernel) rfl rfl ⟨Nat.le_trans (m := 7) (Nat.le_of_ble_eq_true rfl) hRf, Nat.le_trans (m := 200) (Nat.le_of_ble_eq_true rfl) hRl⟩ hG hP9 hD9 rfl hsz rfl hW hdg ⟨hcl, hsl⟩) hGP hGD hnd hS hA [4] [0, 1, 2, 3] hL rfl rfl (by decide) (by decide) (fun r u H locs hr hJ hS => ?_)
  obtain ⟨p1, g⟩ := u
  obtain ⟨hGP, hGD⟩ := hJ (wG [oO xo 5 [.ref lc, .ref lt, .ref bo, .ref yo, .ref no], oO lc 7 [.int m1, .ref ec, .int (nI nC)], oO lt 7 [.int m2, .ref et, .int (nI nS)], oO bo 2 [.ref ba, .int (nI 4)], aI D ba 4 bf, oO yo 2 [.ref ya, .int (nI n0)], aI D ya 10 yf, oO no 1 [.ref (ggf 0), .ref (ggf 1), .ref (ggf 2), .ref (ggf 3), .int cnt], oO (ggf 0) 2 [.ref (hhf 0), .int (nI kN)], oO (ggf 1) 2 [.ref (hhf 1), .int (nI kN)], oO (ggf 2) 2 [.ref (hhf 2), .int (nI kN)], oO (ggf 3) 2 [.ref (hhf 3), .int (nI kN)], aI D (hhf 0) 100 (nf 0), aI D (hhf 1) 100 (nf 1), aI D (hhf 2) 100 (nf 2), aI D (hhf 3) 100 (nf 3)] (elC D ec nC nC cl) (elC D et nS eS sl) [] [o0, o1, o2, o3, aI D a 60 g] (hdC D nC cl ta qq bb tt len nc ct cn) (tkC D nC tt rr aa sz ff) (stC nS sl cl ck pt)) [kF 4] [0, 1, 2, 3, 4] [o0, o1, o2, o3, aI D a 60 g] (fG_cons (w := [o0, o1, o2, o3, aI D a 60 g]) rfl fG_nil) rfl (by decide) (by simp) (fun _ h => h) (wG_same (gs := [kF 4]) (Or.inl rfl) (Or.inl rfl) (Or.inl rfl) (Or.inl rfl) (Or.inr (by simp)) (fun _ _ => rfl) (fun _ _ _ => rfl) (fun _ _ => rfl))
  exact kk r p1 g _ _ hr ⟨lc, lt, bo, yo, no, ec, et, ba, ya, n0, eS, m1, m2, yf, cl, ta, sl, ggf, hhf, qq, bb, tt, rr, aa, hGP, hGD, hInv, hk100, hn0, hE1, hE2⟩ hS
