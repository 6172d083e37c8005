/-- notes as they stand: how many are kept, their facts, how many there are in all -/
abbrev NS := Nat × (Nat → Nat → Int32) × Int32
def noteF (f : Nat → Nat → Int32) (x y z u : Int32) (k : Nat) : Nat → Nat → Int32 := fun j => insF (f j) (cntLe (f 0) x k) (min 99 k) (if j = 0 then x else if j = 1 then y else if j = 2 then z else u)
def noteS (x y z u : Int32) (S : NS) : NS := if cntLe (S.2.1 0) x S.1 < 100 then (min 99 S.1 + 1, noteF S.2.1 x y z u S.1, S.2.2 + 1) else (S.1, S.2.1, S.2.2 + 1)
theorem noteS_le {x y z u : Int32} {S : NS} (h : S.1 ≤ 100) : (noteS x y z u S).1 ≤ 100 := by
  rw [noteS]
  by_cases e : cntLe (S.2.1 0) x S.1 < 100
  · rw [if_pos e]
    show min 99 S.1 + 1 ≤ 100
    omega
  · rw [if_neg e]
    exact h
/-- which cue of nc is met as the i-th of round r -/
def cueX (pt : Nat → Int32) (r nc i : Nat) : Nat := if backS pt (nI r) then nc - 1 - i else i
def ncS (len : Int32) (pt : Nat → Int32) (ct cn : Nat → Int32) (x y : Int32) (num r nc i : Nat) (S : NS) : NS :=
  if x ≤ meetS len pt (nI r) (ct (cueX pt r nc i)) ∧ meetS len pt (nI r) (ct (cueX pt r nc i)) ≤ y then noteS (meetS len pt (nI r) (ct (cueX pt r nc i))) (nI num) (nI r) (cn (cueX pt r nc i)) S else S
/-- a round's cues, the first n of them -/
def ncR (len : Int32) (pt : Nat → Int32) (ct cn : Nat → Int32) (x y : Int32) (num r nc : Nat) (S : NS) : Nat → NS
  | 0 => S
  | i + 1 => ncS len pt ct cn x y num r nc i (ncR len pt ct cn x y num r nc S i)
/-- a strip's cues, of its first n rounds -/
def ncA (len : Int32) (pt : Nat → Int32) (ct cn : Nat → Int32) (x y : Int32) (num nc : Nat) (S : NS) : Nat → NS
  | 0 => S
  | r + 1 => ncR len pt ct cn x y num r nc (ncA len pt ct cn x y num nc S r) nc
/-- the cues of the first n strips -/
def ncP (len : Nat → Int32) (pt : Nat → Nat → Int32) (ct cn : Nat → Nat → Int32) (nc R : Nat → Nat) (x y : Int32) (S : NS) : Nat → NS
  | 0 => S
  | i + 1 => ncA (len i) (pt i) (ct i) (cn i) x y i (nc i) (ncP len pt ct cn nc R x y S i) (R i)
theorem FX.one {D : va_G} {N i : Nat} {w : Nat → va_W} {A : Nat → Prop} {s : State} (h : FX D N w A s) (hi : i < N) : FX D 1 (fun _ => w i) A s := fun _ _ => h i hi
theorem ncS_le {len : Int32} {pt ct cn : Nat → Int32} {x y : Int32} {num r nc i : Nat} {S : NS} (h : S.1 ≤ 100) : (ncS len pt ct cn x y num r nc i S).1 ≤ 100 := by
  rw [ncS]
  split
  · exact noteS_le h
  · exact h
theorem ncR_le {len : Int32} {pt ct cn : Nat → Int32} {x y : Int32} {num r nc : Nat} {S : NS} (h : S.1 ≤ 100) : ∀ i, (ncR len pt ct cn x y num r nc S i).1 ≤ 100
  | 0 => h
  | i + 1 => ncS_le (ncR_le h i)
theorem ncA_le {len : Int32} {pt ct cn : Nat → Int32} {x y : Int32} {num nc : Nat} {S : NS} (h : S.1 ≤ 100) : ∀ {r : Nat}, (ncA len pt ct cn x y num nc S r).1 ≤ 100
  | 0 => h
  | _ + 1 => ncR_le (ncA_le h) _
set_option maxHeartbeats 4000000 in
set_option maxRecDepth 100000 in
theorem c_note (l : Launch) (D : va_G) {no k : Nat} {g h : Nat → Nat} {f : Nat → Nat → Int32} {cnt : Int32} {x y z u : Int32} (hz0 : Nat) (hk : k ≤ 100) : Met l yX1_note (ws_ yX1_note cX1_note 6 none) ({ frames := 3, cells := 0, slots := 0, locals := 64 } : Room) (va_Pc [.ref no, .int x, .int y, .int z, .int u] (SW D [oO no 1 [.ref (g 0), .ref (g 1), .ref (g 2), .ref (g 3), .int cnt], oO (g 0) 2 [.ref (h 0), .int (nI k)], oO (g 1) 2 [.ref (h 1), .int (nI k)], oO (g 2) 2 [.ref (h 2), .int (nI k)], oO (g 3) 2 [.ref (h 3), .int (nI k)], aI D (h 0) 100 (f 0), aI D (h 1) 100 (f 1), aI D (h 2) 100 (f 2), aI D (h 3) 100 (f 3)] hz0)) (va_Qv (fun _ => True) (AT D (va_A [oO no 1 [.ref (g 0), .ref (g 1), .ref (g 2), .ref (g 3), .int cnt], oO (g 0) 2 [.ref (h 0), .int (nI k)], oO (g 1) 2 [.ref (h 1), .int (nI k)], oO (g 2) 2 [.ref (h 2), .int (nI k)], oO (g 3) 2 [.ref (h 3), .int (nI k)], aI D (h 0) 100 (f 0), aI D (h 1) 100 (f 1), aI D (h 2) 100 (f 2), aI D (h 3) 100 (f 3)] hz0) (fun _ : Unit => [oO no 1 [.ref (g 0), .ref (g 1), .ref (g 2), .ref (g 3), .int ((noteS x y z u (k, f, cnt)).2.2)], oO (g 0) 2 [.ref (h 0), .int (nI ((noteS x y z u (k, f, cnt)).1))], oO (g 1) 2 [.ref (h 1), .int (nI ((noteS x y z u (k, f, cnt)).1))], oO (g 2) 2 [.ref (h 2), .int (nI ((noteS x y z u (k, f, cnt)).1))], oO (g 3) 2 [.ref (h 3), .int (nI ((noteS x y z u (k, f, cnt)).1))], aI D (h 0) 100 ((noteS x y z u (k, f, cnt)).2.1 0), aI D (h 1) 100 ((noteS x y z u (k, f, cnt)).2.1 1), aI D (h 2) 100 ((noteS x y z u (k, f, cnt)).2.1 2), aI D (h 3) 100 ((noteS x y z u (k, f, cnt)).2.1 3)])) (va_A [oO no 1 [.ref (g 0), .ref (g 1), .ref (g 2), .ref (g 3), .int cnt], oO (g 0) 2 [.ref (h 0), .int (nI k)], oO (g 1) 2 [.ref (h 1), .int (nI k)], oO (g 2) 2 [.ref (h 2), .int (nI k)], oO (g 3) 2 [.ref (h 3), .int (nI k)], aI D (h 0) 100 (f 0), aI D (h 1) 100 (f 1), aI D (h 2) 100 (f 2), aI D (h 3) 100 (f 3)] hz0)) 0 0 (va_A [oO no 1 [.ref (g 0), .ref (g 1), .ref (g 2), .ref (g 3), .int cnt], oO (g 0) 2 [.ref (h 0), .int (nI k)], oO (g 1) 2 [.ref (h 1), .int (nI k)], oO (g 2) 2 [.ref (h 2), .int (nI k)], oO (g 3) 2 [.ref (h 3), .int (nI k)], aI D (h 0) 100 (f 0), aI D (h 1) 100 (f 1), aI D (h 2) 100 (f 2), aI D (h 3) 100 (f 3)] hz0) := by
  rcases Nat.lt_or_ge (cntLe (f 0) x k) 100 with q | q
  · have e : noteS x y z u (k, f, cnt) = (min 99 k + 1, noteF f x y z u k, cnt + 1) := if_pos q
    rw [e]
    exact c_note_in l D hz0 hk q
  · have e : noteS x y z u (k, f, cnt) = (k, f, cnt + 1) := if_neg (Nat.not_lt.mpr q)
    rw [e]
    exact c_note_full l D hz0 hk q
set_option maxHeartbeats 4000000 in
set_option maxRecDepth 100000 in
theorem c_noteCues (l : Launch) (D : va_G) {xo lc lt bo yo no : Nat} {so co ta nc RR num k : Nat} {q b t g h : Nat → Nat} {len x y cnt : Int32} {pt ct cn : Nat → Int32} {f : Nat → Nat → Int32} (hz0 : Nat) (hk : k ≤ 100) (hnc : nc ≤ 8) (hp : 0 < pt 5) (hR : pt 3 = nI RR) (hR9 : RR ≤ 9) : Met l yX5_noteCues (ws_ yX5_noteCues cX5_noteCues 11 none) ({ frames := 4, cells := 0, slots := 0, locals := 89 } : Room) (va_Pc [.ref xo, .ref so, .int (nI num), .int x, .int y] (SX D [oO xo 5 [.ref lc, .ref lt, .ref bo, .ref yo, .ref no], oO no 1 [.ref (g 0), .ref (g 1), .ref (g 2), .ref (g 3), .int cnt], oO (g 0) 2 [.ref (h 0), .int (nI k)], oO (g 1) 2 [.ref (h 1), .int (nI k)], oO (g 2) 2 [.ref (h 2), .int (nI k)], oO (g 3) 2 [.ref (h 3), .int (nI k)], aI D (h 0) 100 (f 0), aI D (h 1) 100 (f 1), aI D (h 2) 100 (f 2), aI D (h 3) 100 (f 3)] hz0 (FX D 1 (fun _ => [oO so 3 [.ref co, .int (pt 0), .int (pt 1), .int (pt 3), .int (pt 4), .int (pt 5), .int (pt 6), .int (pt 7), .int (pt 8), .int (pt 9), .int (pt 10), .int (pt 11), .int (pt 12)], oO co 0 [.int len, .ref ta, .ref (q 0), .ref (q 1)], aT D ta 4 (tkF t), oO (q 0) 2 [.ref (b 0), .int (nI nc)], oO (q 1) 2 [.ref (b 1), .int (nI nc)], aI D (b 0) 8 ct, aI D (b 1) 8 cn]) (va_A [oO xo 5 [.ref lc, .ref lt, .ref bo, .ref yo, .ref no], oO no 1 [.ref (g 0), .ref (g 1), .ref (g 2), .ref (g 3), .int cnt], oO (g 0) 2 [.ref (h 0), .int (nI k)], oO (g 1) 2 [.ref (h 1), .int (nI k)], oO (g 2) 2 [.ref (h 2), .int (nI k)], oO (g 3) 2 [.ref (h 3), .int (nI k)], aI D (h 0) 100 (f 0), aI D (h 1) 100 (f 1), aI D (h 2) 100 (f 2), aI D (h 3) 100 (f 3)] hz0)))) (va_Qv (fun _ => True) (AT D (va_A [oO xo 5 [.ref lc, .ref lt, .ref bo, .ref yo, .ref no], oO no 1 [.ref (g 0), .ref (g 1), .ref (g 2), .ref (g 3), .int cnt], oO (g 0) 2 [.ref (h 0), .int (nI k)], oO (g 1) 2 [.ref (h 1), .int (nI k)], oO (g 2) 2 [.ref (h 2), .int (nI k)], oO (g 3) 2 [.ref (h 3), .int (nI k)], aI D (h 0) 100 (f 0), aI D (h 1) 100 (f 1), aI D (h 2) 100 (f 2), aI D (h 3) 100 (f 3)] hz0) (fun _ : Unit => [oO xo 5 [.ref lc, .ref lt, .ref bo, .ref yo, .ref no], oO no 1 [.ref (g 0), .ref (g 1), .ref (g 2), .ref (g 3), .int ((ncA len pt ct cn x y num nc (k, f, cnt) RR).2.2)], oO (g 0) 2 [.ref (h 0), .int (nI ((ncA len pt ct cn x y num nc (k, f, cnt) RR).1))], oO (g 1) 2 [.ref (h 1), .int (nI ((ncA len pt ct cn x y num nc (k, f, cnt) RR).1))], oO (g 2) 2 [.ref (h 2), .int (nI ((ncA len pt ct cn x y num nc (k, f, cnt) RR).1))], oO (g 3) 2 [.ref (h 3), .int (nI ((ncA len pt ct cn x y num nc (k, f, cnt) RR).1))], aI D (h 0) 100 ((ncA len pt ct cn x y num nc (k, f, cnt) RR).2.1 0), aI D (h 1) 100 ((ncA len pt ct cn x y num nc (k, f, cnt) RR).2.1 1), aI D (h 2) 100 ((ncA len pt ct cn x y num nc (k, f, cnt) RR).2.1 2), aI D (h 3) 100 ((ncA len pt ct cn x y num nc (k, f, cnt) RR).2.1 3)])) (va_A [oO xo 5 [.ref lc, .ref lt, .ref bo, .ref yo, .ref no], oO no 1 [.ref (g 0), .ref (g 1), .ref (g 2), .ref (g 3), .int cnt], oO (g 0) 2 [.ref (h 0), .int (nI k)], oO (g 1) 2 [.ref (h 1), .int (nI k)], oO (g 2) 2 [.ref (h 2), .int (nI k)], oO (g 3) 2 [.ref (h 3), .int (nI k)], aI D (h 0) 100 (f 0), aI D (h 1) 100 (f 1), aI D (h 2) 100 (f 2), aI D (h 3) 100 (f 3)] hz0)) 0 0 (va_A [oO xo 5 [.ref lc, .ref lt, .ref bo, .ref yo, .ref no], oO no 1 [.ref (g 0), .ref (g 1), .ref (g 2), .ref (g 3), .int cnt], oO (g 0) 2 [.ref (h 0), .int (nI k)], oO (g 1) 2 [.ref (h 1), .int (nI k)], oO (g 2) 2 [.ref (h 2), .int (nI k)], oO (g 3) 2 [.ref (h 3), .int (nI k)], aI D (h 0) 100 (f 0), aI D (h 1) 100 (f 1), aI D (h 2) 100 (f 2), aI D (h 3) 100 (f 3)] hz0) := by
  refine Met.ofW (cc := cX5_noteCues) (maxL := 11) (ret := none) (by decide) rfl ?_
  intro p e s m args below meth c s₁ B hml hv
  obtain ⟨rfl, ⟨hsz, hG, hP, hD0⟩, hX⟩ := hv
  have hx := B.exec
  have hb := B.bytes
  have hr := B.returns
  have hts : ∀ w ∈ wsL_law, w.before _ s = true := fun w h => atoms_spec (ws := (ws_ yX5_noteCues cX5_noteCues 11 none)) B.pre w (List.mem_cons_of_mem _ h)
  have hown : s.vm.findClass RX5 = some m.cls := findClass_of_methodNamed B.named
  have hlk := B.notSynchronized
  have hC : CallFix p m c cX5_noteCues 11 s _ wsL_law RX5 := ⟨hx, hb, hml, hown, hts⟩
  subst hsz
  have hD := hD0.self (sz := s.heap.size)
  generalize hAe : va_A [oO xo 5 [.ref lc, .ref lt, .ref bo, .ref yo, .ref no], oO no 1 [.ref (g 0), .ref (g 1), .ref (g 2), .ref (g 3), .int cnt], oO (g 0) 2 [.ref (h 0), .int (nI k)], oO (g 1) 2 [.ref (h 1), .int (nI k)], oO (g 2) 2 [.ref (h 2), .int (nI k)], oO (g 3) 2 [.ref (h 3), .int (nI k)], aI D (h 0) 100 (f 0), aI D (h 1) 100 (f 1), aI D (h 2) 100 (f 2), aI D (h 3) 100 (f 3)] s.heap.size = A at hD hX ⊢
  have hA : ∀ q : Nat, s.heap.size ≤ q → A q := fun q h => by rw [← hAe]; exact Or.inr h
  have hS : va_S A s.heap s.heap [] := va_S.rf
  obtain ⟨H, hHe⟩ : ∃ H, H = s.heap := ⟨_, rfl⟩
  rw [← hHe] at hP
  have hS : va_S A s.heap H [] := by rw [hHe]; exact hS
  have hl := lv_entry ([.ref xo, .ref so, .int (nI num), .int x, .int y]) (n := 11) (Nat.le_of_ble_eq_true rfl)
  rw [lg_entry_eq]
  generalize (lg_sl ([.ref xo, .ref so, .int (nI num), .int x, .int y]) ++ List.replicate (11 - (lg_sl ([.ref xo, .ref so, .int (nI num), .int x, .int y])).length) Slot.unset).toArray = ls at hl ⊢
  have hl : lv_has ls 11 [(0, .ref xo), (1, .ref so), (2, .int (nI num)), (3, .int x), (4, .int y)] := hl
  rw [← hHe]
  have hW : va_P D cls [oO so 3 [.ref co, .int (pt 0), .int (pt 1), .int (pt 3), .int (pt 4), .int (pt 5), .int (pt 6), .int (pt 7), .int (pt 8), .int (pt 9), .int (pt 10), .int (pt 11), .int (pt 12)], oO co 0 [.int len, .ref ta, .ref (q 0), .ref (q 1)], aT D ta 4 (tkF t), oO (q 0) 2 [.ref (b 0), .int (nI nc)], oO (q 1) 2 [.ref (b 1), .int (nI nc)], aI D (b 0) 8 ct, aI D (b 1) 8 cn] H := FX.at hX hS (i := 0) (by omega)
  refine lv_aload_n hx hb dX5_noteCues_0 rfl (lv_at hl 1 rfl) ?_
  refine va_getN (D := D) (ci := 3) (v := .ref co) (C := RX3) (T := TX3) (N := 13) hx hb hts inlX3 hown hG.K hW 0 rfl rfl 0 (by decide) (va_Nw.use rfl (nF_KeyStage_304 hG)) (fun _ h9 => h9) rfl dX5_noteCues_1 ?_
  refine lv_astore (lv' := [(5, .ref co), (0, .ref xo), (1, .ref so), (2, .int (nI num)), (3, .int x), (4, .int y)]) hx hb dX5_noteCues_4 hl (by decide) rfl (fun ls hl => ?_)
  refine lv_aload hx hb dX5_noteCues_6 (lv_at hl 0 rfl) ?_
  have hP9 := hW.sub (ws' := [oO co 0 [.int len, .ref ta, .ref (q 0), .ref (q 1)], aT D ta 4 (tkF t), oO (q 0) 2 [.ref (b 0), .int (nI nc)], oO (q 1) 2 [.ref (b 1), .int (nI nc)], aI D (b 0) 8 ct, aI D (b 1) 8 cn]) [1, 2, 3, 4, 5, 6] rfl
  refine vp_callSi (pV (rest := []) (qc := (RX0, TX0, 4)) [] 0 hC (c_cueCount l D (q := q) (b := b) (t := t) (ct := ct) (cn := cn) (co := co) (len := len) (ta := ta) (nc := nc) ) rfl (hW 1 _ rfl) (gV mM_X5_81 mI_X0_cueCount mS_X0_cueCount mN_X0 mC_X0_cueCount) (by decide +kernel) rfl rfl ⟨Nat.le_of_ble_eq_true rfl, Nat.le_of_ble_eq_true rfl⟩ hG hP9 rfl hl.1 rfl (Nat.le_of_ble_eq_true rfl) dX5_noteCues_8 ⟨Nat.le_of_ble_eq_true rfl, Nat.le_of_ble_eq_true rfl⟩) (fun r8 h8 => ?_)
  obtain rfl : r8 = (nI nc) := h8
  refine lv_istore (lv' := [(6, .int (nI nc)), (5, .ref co), (0, .ref xo), (1, .ref so), (2, .int (nI num)), (3, .int x), (4, .int y)]) hx hb dX5_noteCues_11 hl (by decide) rfl (fun ls hl => ?_)
  refine lv_iconst (v := 0) hx hb dX5_noteCues_13 (by decide) ?_
  refine lv_istore (lv' := [(7, .int 0), (6, .int (nI nc)), (5, .ref co), (0, .ref xo), (1, .ref so), (2, .int (nI num)), (3, .int x), (4, .int y)]) hx hb dX5_noteCues_14 hl (by decide) rfl (fun ls hl => ?_)
  have loop16 : ∀ (d9 : Nat) (r1 : Nat) (S1 : NS), (RR - r1) < d9 → (r1 ≤ RR) → (S1 = ncA len pt ct cn x y num nc (k, f, cnt) r1) → (S1.1 ≤ 100) → ∀ (H : Heap) (locs : List Loc) (ls : Array Slot), va_P D cls [oO xo 5 [.ref lc, .ref lt, .ref bo, .ref yo, .ref no], oO no 1 [.ref (g 0), .ref (g 1), .ref (g 2), .ref (g 3), .int S1.2.2], oO (g 0) 2 [.ref (h 0), .int (nI S1.1)], oO (g 1) 2 [.ref (h 1), .int (nI S1.1)], oO (g 2) 2 [.ref (h 2), .int (nI S1.1)], oO (g 3) 2 [.ref (h 3), .int (nI S1.1)], aI D (h 0) 100 (S1.2.1 0), aI D (h 1) 100 (S1.2.1 1), aI D (h 2) 100 (S1.2.1 2), aI D (h 3) 100 (S1.2.1 3)] H → va_D A [oO xo 5 [.ref lc, .ref lt, .ref bo, .ref yo, .ref no], oO no 1 [.ref (g 0), .ref (g 1), .ref (g 2), .ref (g 3), .int S1.2.2], oO (g 0) 2 [.ref (h 0), .int (nI S1.1)], oO (g 1) 2 [.ref (h 1), .int (nI S1.1)], oO (g 2) 2 [.ref (h 2), .int (nI S1.1)], oO (g 3) 2 [.ref (h 3), .int (nI S1.1)], aI D (h 0) 100 (S1.2.1 0), aI D (h 1) 100 (S1.2.1 1), aI D (h 2) 100 (S1.2.1 2), aI D (h 3) 100 (S1.2.1 3)] → va_S A s.heap H locs → lv_has ls 11 [(0, .ref xo), (1, .ref so), (2, .int (nI num)), (3, .int x), (4, .int y), (5, .ref co), (6, .int (nI nc)), (7, .int (nI r1))] → W p l e ({ frames := 4, cells := 0, slots := 0, locals := 89 } : Room) s m ([.ref xo, .ref so, .int (nI num), .int x, .int y] : List Value).toArray below meth c H locs 0 0 (MQ below (va_Qv (fun _ => True) (AT D A (fun _ : Unit => [oO xo 5 [.ref lc, .ref lt, .ref bo, .ref yo, .ref no], oO no 1 [.ref (g 0), .ref (g 1), .ref (g 2), .ref (g 3), .int ((ncA len pt ct cn x y num nc (k, f, cnt) RR).2.2)], oO (g 0) 2 [.ref (h 0), .int (nI ((ncA len pt ct cn x y num nc (k, f, cnt) RR).1))], oO (g 1) 2 [.ref (h 1), .int (nI ((ncA len pt ct cn x y num nc (k, f, cnt) RR).1))], oO (g 2) 2 [.ref (h 2), .int (nI ((ncA len pt ct cn x y num nc (k, f, cnt) RR).1))], oO (g 3) 2 [.ref (h 3), .int (nI ((ncA len pt ct cn x y num nc (k, f, cnt) RR).1))], aI D (h 0) 100 ((ncA len pt ct cn x y num nc (k, f, cnt) RR).2.1 0), aI D (h 1) 100 ((ncA len pt ct cn x y num nc (k, f, cnt) RR).2.1 1), aI D (h 2) 100 ((ncA len pt ct cn x y num nc (k, f, cnt) RR).2.1 2), aI D (h 3) 100 ((ncA len pt ct cn x y num nc (k, f, cnt) RR).2.1 3)])) A) ([.ref xo, .ref so, .int (nI num), .int x, .int y] : List Value).toArray s 0 0 A) (F0 m 16 ls []) := by
    intro d9
    induction d9 with
    | zero => intro r1 S1 hd; exact absurd hd (Nat.not_lt_zero _)
    | succ d9 ih16 =>
      intro r1 S1 hd16 hr1 hS1 hk1 H locs ls hP hD hS hl
      have hW : va_P D cls [oO so 3 [.ref co, .int (pt 0), .int (pt 1), .int (pt 3), .int (pt 4), .int (pt 5), .int (pt 6), .int (pt 7), .int (pt 8), .int (pt 9), .int (pt 10), .int (pt 11), .int (pt 12)], oO co 0 [.int len, .ref ta, .ref (q 0), .ref (q 1)], aT D ta 4 (tkF t), oO (q 0) 2 [.ref (b 0), .int (nI nc)], oO (q 1) 2 [.ref (b 1), .int (nI nc)], aI D (b 0) 8 ct, aI D (b 1) 8 cn] H := FX.at hX hS (i := 0) (by omega)
      refine lv_iload hx hb dX5_noteCues_16 (lv_at hl 7 rfl) ?_
      refine lv_aload_n hx hb dX5_noteCues_18 rfl (lv_at hl 1 rfl) ?_
      refine va_getN (D := D) (ci := 3) (v := .int (pt 3)) (C := RX3) (T := TX3) (N := 13) hx hb hts inlX3 hown hG.K hW 0 rfl rfl 3 (by decide) (va_Nw.use rfl (nF_KeyStage_308 hG)) (fun _ h9 => h9) rfl dX5_noteCues_19 ?_
      refine tpi (y := nI RR) (hR) ?_
      refine lv_icmp_ge (tgt := 121) hx hb dX5_noteCues_22 (by decide) (fun c22 => ?_) (fun c22 => ?_)
      · skip
        have n22 := (nI_leI (a := RR) (b := r1) (by omega) (by omega)).mp c22
        have hi9 : r1 = RR := by omega
        subst r1
        subst hS1
        refine Wv () hx hb hr hlk ?_ hP hD hS (Nat.le_of_ble_eq_true rfl) (by first | exact Nat.le_of_ble_eq_true rfl | exact Nat.le_of_eq (Nat.zero_add _)) dX5_noteCues_121
        exact trivial
      · skip
        have n22 := mt (nI_leI (a := RR) (b := r1) (by omega) (by omega)).mpr c22
        refine lv_iconst (v := 0) hx hb dX5_noteCues_25 (by decide) ?_
        refine lv_istore (lv' := [(8, .int 0), (0, .ref xo), (1, .ref so), (2, .int (nI num)), (3, .int x), (4, .int y), (5, .ref co), (6, .int (nI nc)), (7, .int (nI r1))]) hx hb dX5_noteCues_26 hl (by decide) rfl (fun ls hl => ?_)
        have loop28 : ∀ (d9 : Nat) (i1 : Nat) (S2 : NS), (nc - i1) < d9 → (i1 ≤ nc) → (S2 = ncR len pt ct cn x y num r1 nc S1 i1) → (S2.1 ≤ 100) → ∀ (H : Heap) (locs : List Loc) (ls : Array Slot), va_P D cls [oO xo 5 [.ref lc, .ref lt, .ref bo, .ref yo, .ref no], oO no 1 [.ref (g 0), .ref (g 1), .ref (g 2), .ref (g 3), .int S2.2.2], oO (g 0) 2 [.ref (h 0), .int (nI S2.1)], oO (g 1) 2 [.ref (h 1), .int (nI S2.1)], oO (g 2) 2 [.ref (h 2), .int (nI S2.1)], oO (g 3) 2 [.ref (h 3), .int (nI S2.1)], aI D (h 0) 100 (S2.2.1 0), aI D (h 1) 100 (S2.2.1 1), aI D (h 2) 100 (S2.2.1 2), aI D (h 3) 100 (S2.2.1 3)] H → va_D A [oO xo 5 [.ref lc, .ref lt, .ref bo, .ref yo, .ref no], oO no 1 [.ref (g 0), .ref (g 1), .ref (g 2), .ref (g 3), .int S2.2.2], oO (g 0) 2 [.ref (h 0), .int (nI S2.1)], oO (g 1) 2 [.ref (h 1), .int (nI S2.1)], oO (g 2) 2 [.ref (h 2), .int (nI S2.1)], oO (g 3) 2 [.ref (h 3), .int (nI S2.1)], aI D (h 0) 100 (S2.2.1 0), aI D (h 1) 100 (S2.2.1 1), aI D (h 2) 100 (S2.2.1 2), aI D (h 3) 100 (S2.2.1 3)] → va_S A s.heap H locs → lv_has ls 11 [(0, .ref xo), (1, .ref so), (2, .int (nI num)), (3, .int x), (4, .int y), (5, .ref co), (6, .int (nI nc)), (7, .int (nI r1)), (8, .int (nI i1))] → W p l e ({ frames := 4, cells := 0, slots := 0, locals := 89 } : Room) s m ([.ref xo, .ref so, .int (nI num), .int x, .int y] : List Value).toArray below meth c H locs 0 0 (MQ below (va_Qv (fun _ => True) (AT D A (fun _ : Unit => [oO xo 5 [.ref lc, .ref lt, .ref bo, .ref yo, .ref no], oO no 1 [.ref (g 0), .ref (g 1), .ref (g 2), .ref (g 3), .int ((ncA len pt ct cn x y num nc (k, f, cnt) RR).2.2)], oO (g 0) 2 [.ref (h 0), .int (nI ((ncA len pt ct cn x y num nc (k, f, cnt) RR).1))], oO (g 1) 2 [.ref (h 1), .int (nI ((ncA len pt ct cn x y num nc (k, f, cnt) RR).1))], oO (g 2) 2 [.ref (h 2), .int (nI ((ncA len pt ct cn x y num nc (k, f, cnt) RR).1))], oO (g 3) 2 [.ref (h 3), .int (nI ((ncA len pt ct cn x y num nc (k, f, cnt) RR).1))], aI D (h 0) 100 ((ncA len pt ct cn x y num nc (k, f, cnt) RR).2.1 0), aI D (h 1) 100 ((ncA len pt ct cn x y num nc (k, f, cnt) RR).2.1 1), aI D (h 2) 100 ((ncA len pt ct cn x y num nc (k, f, cnt) RR).2.1 2), aI D (h 3) 100 ((ncA len pt ct cn x y num nc (k, f, cnt) RR).2.1 3)])) A) ([.ref xo, .ref so, .int (nI num), .int x, .int y] : List Value).toArray s 0 0 A) (F0 m 28 ls []) := by
          intro d9
          induction d9 with
          | zero => intro i1 S2 hd; exact absurd hd (Nat.not_lt_zero _)
          | succ d9 ih28 =>
            intro i1 S2 hd28 hi1 hS2 hk2 H locs ls hP hD hS hl
            have hW : va_P D cls [oO so 3 [.ref co, .int (pt 0), .int (pt 1), .int (pt 3), .int (pt 4), .int (pt 5), .int (pt 6), .int (pt 7), .int (pt 8), .int (pt 9), .int (pt 10), .int (pt 11), .int (pt 12)], oO co 0 [.int len, .ref ta, .ref (q 0), .ref (q 1)], aT D ta 4 (tkF t), oO (q 0) 2 [.ref (b 0), .int (nI nc)], oO (q 1) 2 [.ref (b 1), .int (nI nc)], aI D (b 0) 8 ct, aI D (b 1) 8 cn] H := FX.at hX hS (i := 0) (by omega)
            refine lv_iload hx hb dX5_noteCues_28 (lv_at hl 8 rfl) ?_
            refine lv_iload hx hb dX5_noteCues_30 (lv_at hl 6 rfl) ?_
            refine lv_icmp_ge (tgt := 115) hx hb dX5_noteCues_32 (by decide) (fun c32 => ?_) (fun c32 => ?_)
            · skip
              have n32 := (nI_leI (a := nc) (b := i1) (by omega) (by omega)).mp c32
              have hi9 : i1 = nc := by omega
              subst i1
              refine lv_iinc (v := nI (r1 + 1)) (lv' := [(7, .int (nI (r1 + 1))), (0, .ref xo), (1, .ref so), (2, .int (nI num)), (3, .int x), (4, .int y), (5, .ref co), (6, .int (nI nc)), (8, .int (nI nc))]) hx hb dX5_noteCues_115 hl (k := 7) rfl (nI_1 _) (by decide) rfl (fun ls hl => ?_)
              refine lv_goto (tgt := 16) hx hb dX5_noteCues_118 (by decide) ?_
              exact ih16 (r1 + 1) S2 (by omega) (by omega) (by rw [ncA, ← hS1]; exact hS2) (hk2) _ _ _ hP hD hS (lv_sub hl [1, 2, 3, 4, 5, 6, 7, 0] rfl)
            · skip
              have n32 := mt (nI_leI (a := nc) (b := i1) (by omega) (by omega)).mpr c32
              refine lv_aload_n hx hb dX5_noteCues_35 rfl (lv_at hl 1 rfl) ?_
              refine lv_iload hx hb dX5_noteCues_36 (lv_at hl 7 rfl) ?_
              have hP9 := hW.sub (ws' := [oO so 3 [.ref co, .int (pt 0), .int (pt 1), .int (pt 3), .int (pt 4), .int (pt 5), .int (pt 6), .int (pt 7), .int (pt 8), .int (pt 9), .int (pt 10), .int (pt 11), .int (pt 12)], oO co 0 [.int len, .ref ta, .ref (q 0), .ref (q 1)]]) [0, 1] rfl
              refine vp_callSi (pV (rest := []) (qc := (RX3, TX3, 13)) [.int (nI r1)] 1 hC (c_isBackwards l D (q := q) (pt := pt) (so := so) (x := nI r1) (co := co) (len := len) (ta := ta) ) rfl (hW 0 _ rfl) (gV mM_X5_311 mI_X3_isBackwards mS_X3_isBackwards mN_X3 mC_X3_isBackwards) (by decide +kernel) rfl rfl ⟨Nat.le_of_ble_eq_true rfl, Nat.le_of_ble_eq_true rfl⟩ hG hP9 rfl hl.1 rfl (Nat.le_of_ble_eq_true rfl) dX5_noteCues_38 ⟨Nat.le_of_ble_eq_true rfl, Nat.le_of_ble_eq_true rfl⟩) (fun r38 h38 => ?_)
              rcases h38 with ⟨rfl, hb38⟩ | ⟨rfl, hb38⟩
              · skip
                have hcX : cueX pt r1 nc i1 = nc - 1 - i1 := if_pos hb38
                refine lv_if_eq (tgt := 54) hx hb dX5_noteCues_41 (by decide) (fun h9 => absurd h9 (by decide)) (fun _ => ?_)
                refine lv_iload hx hb dX5_noteCues_44 (lv_at hl 6 rfl) ?_
                refine lv_iconst (v := 1) hx hb dX5_noteCues_46 (by decide) ?_
                refine lv_isub hx hb dX5_noteCues_47 ?_
                refine tpi (y := nI (nc - 1)) (pk_sub (a := nc) (b := 1) (by omega)) ?_
                refine lv_iload hx hb dX5_noteCues_48 (lv_at hl 8 rfl) ?_
                refine lv_isub hx hb dX5_noteCues_50 ?_
                refine tpi (y := nI ((nc - 1) - i1)) (pk_sub (a := (nc - 1)) (b := i1) (by omega)) ?_
                refine lv_goto (tgt := 56) hx hb dX5_noteCues_51 (by decide) ?_
                refine lv_istore (lv' := [(9, .int (nI ((nc - 1) - i1))), (0, .ref xo), (1, .ref so), (2, .int (nI num)), (3, .int x), (4, .int y), (5, .ref co), (6, .int (nI nc)), (7, .int (nI r1)), (8, .int (nI i1))]) hx hb dX5_noteCues_56 hl (by decide) rfl (fun ls hl => ?_)
                refine lv_aload_n hx hb dX5_noteCues_58 rfl (lv_at hl 2 rfl) ?_
                refine lv_iload hx hb dX5_noteCues_59 (lv_at hl 8 rfl) ?_
                refine lv_aload hx hb dX5_noteCues_61 (lv_at hl 6 rfl) ?_
                refine va_getN (D := D) (ci := 0) (v := .ref (q 0)) (C := RX0) (T := TX0) (N := 4) hx hb hts inlX0 hown hG.K hW 1 rfl rfl 2 (by decide) (va_Nw.use rfl (nF_KeyStage_314 hG)) (fun _ h9 => h9) rfl dX5_noteCues_63 ?_
                refine lv_iload hx hb dX5_noteCues_66 (lv_at hl 0 rfl) ?_
                have hP9 := hW.sub (ws' := [oO (q 0) 2 [.ref (b 0), .int (nI nc)], aI D (b 0) 8 ct]) [3, 5] rfl
                refine vp_callSi (pV (rest := [.int (nI r1), .ref so]) (qc := (RX2, TX2, 2)) [.int (nI ((nc - 1) - i1))] 1 hC (c_get l D (r := q 0) (j := (nc - 1) - i1) (a := b 0) (sz := nc) (n := 8) (f := ct) (by omega) (by omega) (by omega)) rfl (hW 3 _ rfl) (gV mM_X5_173 mI_X2_get mS_X2_get mN_X2 mC_X2_get) (by decide +kernel) rfl rfl ⟨Nat.le_of_ble_eq_true rfl, Nat.le_of_ble_eq_true rfl⟩ hG hP9 rfl hl.1 rfl (Nat.le_of_ble_eq_true rfl) dX5_noteCues_68 ⟨Nat.le_of_ble_eq_true rfl, Nat.le_of_ble_eq_true rfl⟩) (fun r68 h68 => ?_)
                obtain rfl : r68 = (ct ((nc - 1) - i1)) := h68
                have hP9 := hW.sub (ws' := [oO so 3 [.ref co, .int (pt 0), .int (pt 1), .int (pt 3), .int (pt 4), .int (pt 5), .int (pt 6), .int (pt 7), .int (pt 8), .int (pt 9), .int (pt 10), .int (pt 11), .int (pt 12)], oO co 0 [.int len, .ref ta, .ref (q 0), .ref (q 1)]]) [0, 1] rfl
                refine vp_callSi (pV (rest := []) (qc := (RX3, TX3, 13)) [.int (nI r1), .int (ct ((nc - 1) - i1))] 2 hC (c_meetingTime l D (q := q) (pt := pt) (so := so) (x := nI r1) (y := ct ((nc - 1) - i1)) (co := co) (len := len) (ta := ta) (hp)) rfl (hW 0 _ rfl) (gV mM_X5_317 mI_X3_meetingTime mS_X3_meetingTime mN_X3 mC_X3_meetingTime) (by decide +kernel) rfl rfl ⟨Nat.le_of_ble_eq_true rfl, Nat.le_of_ble_eq_true rfl⟩ hG hP9 rfl hl.1 rfl (Nat.le_of_ble_eq_true rfl) dX5_noteCues_71 ⟨Nat.le_of_ble_eq_true rfl, Nat.le_of_ble_eq_true rfl⟩) (fun r71 h71 => ?_)
                obtain rfl : r71 = (meetS len pt (nI r1) (ct ((nc - 1) - i1))) := h71
                refine lv_istore (lv' := [(10, .int (meetS len pt (nI r1) (ct ((nc - 1) - i1)))), (9, .int (nI ((nc - 1) - i1))), (0, .ref xo), (1, .ref so), (2, .int (nI num)), (3, .int x), (4, .int y), (5, .ref co), (6, .int (nI nc)), (7, .int (nI r1)), (8, .int (nI i1))]) hx hb dX5_noteCues_74 hl (by decide) rfl (fun ls hl => ?_)
                refine lv_iload hx hb dX5_noteCues_76 (lv_at hl 0 rfl) ?_
                refine lv_iload_n hx hb dX5_noteCues_78 rfl (lv_at hl 5 rfl) ?_
                refine lv_iload hx hb dX5_noteCues_79 (lv_at hl 6 rfl) ?_
                have hP9 : va_P D cls [] H := fun k q h => by simp at h
                refine vp_callSi (pS (rest := []) [.int (meetS len pt (nI r1) (ct ((nc - 1) - i1))), .int x, .int y] 3 hC (c_isIn l D (x := meetS len pt (nI r1) (ct ((nc - 1) - i1))) (a := x) (b := y) ) (gS mM_X5_41 mT_X5_isIn mN_X5 mC_X5_isIn) (by decide +kernel) rfl rfl ⟨Nat.le_of_ble_eq_true rfl, Nat.le_of_ble_eq_true rfl⟩ hG hP9 rfl hl.1 rfl (Nat.le_of_ble_eq_true rfl) dX5_noteCues_81 ⟨Nat.le_of_ble_eq_true rfl, Nat.le_of_ble_eq_true rfl⟩) (fun r81 h81 => ?_)
                rcases h81 with ⟨rfl, hb81⟩ | ⟨rfl, hb81⟩
                · skip
                  refine lv_if_eq (tgt := 109) hx hb dX5_noteCues_84 (by decide) (fun h9 => absurd h9 (by decide)) (fun _ => ?_)
                  refine lv_aload_n hx hb dX5_noteCues_87 rfl (lv_at hl 2 rfl) ?_
                  refine va_get (D := D) (ci := 5) (v := .ref no) (C := RX5) (T := TX5) (N := 5) hx hb hts inlX5 hown hG.K hP 0 rfl rfl 4 (by decide) (hts _ mF_X5_37) (fun _ h9 => h9) rfl dX5_noteCues_88 ?_
                  refine lv_iload hx hb dX5_noteCues_91 (lv_at hl 0 rfl) ?_
                  refine lv_iload_n hx hb dX5_noteCues_93 rfl (lv_at hl 4 rfl) ?_
                  refine lv_iload hx hb dX5_noteCues_94 (lv_at hl 9 rfl) ?_
                  refine lv_aload hx hb dX5_noteCues_96 (lv_at hl 7 rfl) ?_
                  refine va_getN (D := D) (ci := 0) (v := .ref (q 1)) (C := RX0) (T := TX0) (N := 4) hx hb hts inlX0 hown hG.K hW 1 rfl rfl 3 (by decide) (va_Nw.use rfl (nF_KeyStage_320 hG)) (fun _ h9 => h9) rfl dX5_noteCues_98 ?_
                  refine lv_iload hx hb dX5_noteCues_101 (lv_at hl 1 rfl) ?_
                  have hP9 := hW.sub (ws' := [oO (q 1) 2 [.ref (b 1), .int (nI nc)], aI D (b 1) 8 cn]) [4, 6] rfl
                  refine vp_callSi (pV (rest := [.int (nI r1), .int (nI num), .int (meetS len pt (nI r1) (ct ((nc - 1) - i1))), .ref no]) (qc := (RX2, TX2, 2)) [.int (nI ((nc - 1) - i1))] 1 hC (c_get l D (r := q 1) (j := (nc - 1) - i1) (a := b 1) (sz := nc) (n := 8) (f := cn) (by omega) (by omega) (by omega)) rfl (hW 4 _ rfl) (gV mM_X5_173 mI_X2_get mS_X2_get mN_X2 mC_X2_get) (by decide +kernel) rfl rfl ⟨Nat.le_of_ble_eq_true rfl, Nat.le_of_ble_eq_true rfl⟩ hG hP9 rfl hl.1 rfl (Nat.le_of_ble_eq_true rfl) dX5_noteCues_103 ⟨Nat.le_of_ble_eq_true rfl, Nat.le_of_ble_eq_true rfl⟩) (fun r103 h103 => ?_)
                  obtain rfl : r103 = (cn ((nc - 1) - i1)) := h103
                  have hP9 := hP.sub (ws' := [oO no 1 [.ref (g 0), .ref (g 1), .ref (g 2), .ref (g 3), .int S2.2.2], oO (g 0) 2 [.ref (h 0), .int (nI S2.1)], oO (g 1) 2 [.ref (h 1), .int (nI S2.1)], oO (g 2) 2 [.ref (h 2), .int (nI S2.1)], oO (g 3) 2 [.ref (h 3), .int (nI S2.1)], aI D (h 0) 100 (S2.2.1 0), aI D (h 1) 100 (S2.2.1 1), aI D (h 2) 100 (S2.2.1 2), aI D (h 3) 100 (S2.2.1 3)]) [1, 2, 3, 4, 5, 6, 7, 8, 9] rfl
                  have hD9 := (hD.sub (ws' := [oO no 1 [.ref (g 0), .ref (g 1), .ref (g 2), .ref (g 3), .int S2.2.2], oO (g 0) 2 [.ref (h 0), .int (nI S2.1)], oO (g 1) 2 [.ref (h 1), .int (nI S2.1)], oO (g 2) 2 [.ref (h 2), .int (nI S2.1)], oO (g 3) 2 [.ref (h 3), .int (nI S2.1)], aI D (h 0) 100 (S2.2.1 0), aI D (h 1) 100 (S2.2.1 1), aI D (h 2) 100 (S2.2.1 2), aI D (h 3) 100 (S2.2.1 3)]) [1, 2, 3, 4, 5, 6, 7, 8, 9] (by decide) rfl).weaken (B := fun _ => True) (fun _ _ _ _ => trivial)
                  refine kv (wr := [oO xo 5 [.ref lc, .ref lt, .ref bo, .ref yo, .ref no]]) (rV (rest := []) (qc := (RX1, TX1, 5)) [.int (meetS len pt (nI r1) (ct ((nc - 1) - i1))), .int (nI num), .int (nI r1), .int (cn ((nc - 1) - i1))] 4 0 0 hC (c_note l D (g := g) (h := h) (f := S2.2.1) (k := S2.1) (cnt := S2.2.2) (no := no) (x := meetS len pt (nI r1) (ct ((nc - 1) - i1))) (y := nI num) (z := nI r1) (u := cn ((nc - 1) - i1)) (hz0 := H.size) (by omega)) rfl (hP 1 _ rfl) (gV mM_X5_323 mI_X1_note mS_X1_note mN_X1 mC_X1_note) (by decide +kernel) rfl rfl ⟨Nat.le_of_ble_eq_true rfl, Nat.le_of_ble_eq_true rfl⟩ hG hP9 hD9 rfl hl.1 rfl (Nat.le_of_ble_eq_true rfl) dX5_noteCues_106 ⟨Nat.le_of_ble_eq_true rfl, Nat.le_of_ble_eq_true rfl⟩) hP hD hS hA [1, 2, 3, 4, 5, 6, 7, 8, 9] [0] rfl rfl (by decide) (by decide) (fun u106 H locs h106 hP hD hS hz hfr => ?_)
                  have hP : va_P D cls [oO xo 5 [.ref lc, .ref lt, .ref bo, .ref yo, .ref no], oO no 1 [.ref (g 0), .ref (g 1), .ref (g 2), .ref (g 3), .int ((noteS (meetS len pt (nI r1) (ct ((nc - 1) - i1))) (nI num) (nI r1) (cn ((nc - 1) - i1)) (S2.1, S2.2.1, S2.2.2)).2.2)], oO (g 0) 2 [.ref (h 0), .int (nI ((noteS (meetS len pt (nI r1) (ct ((nc - 1) - i1))) (nI num) (nI r1) (cn ((nc - 1) - i1)) (S2.1, S2.2.1, S2.2.2)).1))], oO (g 1) 2 [.ref (h 1), .int (nI ((noteS (meetS len pt (nI r1) (ct ((nc - 1) - i1))) (nI num) (nI r1) (cn ((nc - 1) - i1)) (S2.1, S2.2.1, S2.2.2)).1))], oO (g 2) 2 [.ref (h 2), .int (nI ((noteS (meetS len pt (nI r1) (ct ((nc - 1) - i1))) (nI num) (nI r1) (cn ((nc - 1) - i1)) (S2.1, S2.2.1, S2.2.2)).1))], oO (g 3) 2 [.ref (h 3), .int (nI ((noteS (meetS len pt (nI r1) (ct ((nc - 1) - i1))) (nI num) (nI r1) (cn ((nc - 1) - i1)) (S2.1, S2.2.1, S2.2.2)).1))], aI D (h 0) 100 ((noteS (meetS len pt (nI r1) (ct ((nc - 1) - i1))) (nI num) (nI r1) (cn ((nc - 1) - i1)) (S2.1, S2.2.1, S2.2.2)).2.1 0), aI D (h 1) 100 ((noteS (meetS len pt (nI r1) (ct ((nc - 1) - i1))) (nI num) (nI r1) (cn ((nc - 1) - i1)) (S2.1, S2.2.1, S2.2.2)).2.1 1), aI D (h 2) 100 ((noteS (meetS len pt (nI r1) (ct ((nc - 1) - i1))) (nI num) (nI r1) (cn ((nc - 1) - i1)) (S2.1, S2.2.1, S2.2.2)).2.1 2), aI D (h 3) 100 ((noteS (meetS len pt (nI r1) (ct ((nc - 1) - i1))) (nI num) (nI r1) (cn ((nc - 1) - i1)) (S2.1, S2.2.1, S2.2.2)).2.1 3)] H := hP
                  have hD : va_D A [oO xo 5 [.ref lc, .ref lt, .ref bo, .ref yo, .ref no], oO no 1 [.ref (g 0), .ref (g 1), .ref (g 2), .ref (g 3), .int ((noteS (meetS len pt (nI r1) (ct ((nc - 1) - i1))) (nI num) (nI r1) (cn ((nc - 1) - i1)) (S2.1, S2.2.1, S2.2.2)).2.2)], oO (g 0) 2 [.ref (h 0), .int (nI ((noteS (meetS len pt (nI r1) (ct ((nc - 1) - i1))) (nI num) (nI r1) (cn ((nc - 1) - i1)) (S2.1, S2.2.1, S2.2.2)).1))], oO (g 1) 2 [.ref (h 1), .int (nI ((noteS (meetS len pt (nI r1) (ct ((nc - 1) - i1))) (nI num) (nI r1) (cn ((nc - 1) - i1)) (S2.1, S2.2.1, S2.2.2)).1))], oO (g 2) 2 [.ref (h 2), .int (nI ((noteS (meetS len pt (nI r1) (ct ((nc - 1) - i1))) (nI num) (nI r1) (cn ((nc - 1) - i1)) (S2.1, S2.2.1, S2.2.2)).1))], oO (g 3) 2 [.ref (h 3), .int (nI ((noteS (meetS len pt (nI r1) (ct ((nc - 1) - i1))) (nI num) (nI r1) (cn ((nc - 1) - i1)) (S2.1, S2.2.1, S2.2.2)).1))], aI D (h 0) 100 ((noteS (meetS len pt (nI r1) (ct ((nc - 1) - i1))) (nI num) (nI r1) (cn ((nc - 1) - i1)) (S2.1, S2.2.1, S2.2.2)).2.1 0), aI D (h 1) 100 ((noteS (meetS len pt (nI r1) (ct ((nc - 1) - i1))) (nI num) (nI r1) (cn ((nc - 1) - i1)) (S2.1, S2.2.1, S2.2.2)).2.1 1), aI D (h 2) 100 ((noteS (meetS len pt (nI r1) (ct ((nc - 1) - i1))) (nI num) (nI r1) (cn ((nc - 1) - i1)) (S2.1, S2.2.1, S2.2.2)).2.1 2), aI D (h 3) 100 ((noteS (meetS len pt (nI r1) (ct ((nc - 1) - i1))) (nI num) (nI r1) (cn ((nc - 1) - i1)) (S2.1, S2.2.1, S2.2.2)).2.1 3)] := hD
                  refine lv_iinc (v := nI (i1 + 1)) (lv' := [(8, .int (nI (i1 + 1))), (10, .int (meetS len pt (nI r1) (ct ((nc - 1) - i1)))), (9, .int (nI ((nc - 1) - i1))), (0, .ref xo), (1, .ref so), (2, .int (nI num)), (3, .int x), (4, .int y), (5, .ref co), (6, .int (nI nc)), (7, .int (nI r1))]) hx hb dX5_noteCues_109 hl (k := 10) rfl (nI_1 _) (by decide) rfl (fun ls hl => ?_)
                  refine lv_goto (tgt := 28) hx hb dX5_noteCues_112 (by decide) ?_
                  exact ih28 (i1 + 1) (noteS (meetS len pt (nI r1) (ct (nc - 1 - i1))) (nI num) (nI r1) (cn (nc - 1 - i1)) S2) (by omega) (by omega) (by rw [ncR, ← hS2, ncS, hcX, if_pos hb81]) (noteS_le hk2) _ _ _ hP hD hS (lv_sub hl [3, 4, 5, 6, 7, 8, 9, 10, 0] rfl)
                · skip
                  refine lv_if_eq (tgt := 109) hx hb dX5_noteCues_84 (by decide) (fun _ => ?_) (fun h9 => (h9 (by decide)).elim)
                  refine lv_iinc (v := nI (i1 + 1)) (lv' := [(8, .int (nI (i1 + 1))), (10, .int (meetS len pt (nI r1) (ct ((nc - 1) - i1)))), (9, .int (nI ((nc - 1) - i1))), (0, .ref xo), (1, .ref so), (2, .int (nI num)), (3, .int x), (4, .int y), (5, .ref co), (6, .int (nI nc)), (7, .int (nI r1))]) hx hb dX5_noteCues_109 hl (k := 10) rfl (nI_1 _) (by decide) rfl (fun ls hl => ?_)
                  refine lv_goto (tgt := 28) hx hb dX5_noteCues_112 (by decide) ?_
                  exact ih28 (i1 + 1) S2 (by omega) (by omega) (by rw [ncR, ← hS2, ncS, hcX, if_neg hb81]) (hk2) _ _ _ hP hD hS (lv_sub hl [3, 4, 5, 6, 7, 8, 9, 10, 0] rfl)
              · skip
                have hcX : cueX pt r1 nc i1 = i1 := if_neg hb38
                refine lv_if_eq (tgt := 54) hx hb dX5_noteCues_41 (by decide) (fun _ => ?_) (fun h9 => (h9 (by decide)).elim)
                refine lv_iload hx hb dX5_noteCues_54 (lv_at hl 8 rfl) ?_
                refine lv_istore (lv' := [(9, .int (nI i1)), (0, .ref xo), (1, .ref so), (2, .int (nI num)), (3, .int x), (4, .int y), (5, .ref co), (6, .int (nI nc)), (7, .int (nI r1)), (8, .int (nI i1))]) hx hb dX5_noteCues_56 hl (by decide) rfl (fun ls hl => ?_)
                refine lv_aload_n hx hb dX5_noteCues_58 rfl (lv_at hl 2 rfl) ?_
                refine lv_iload hx hb dX5_noteCues_59 (lv_at hl 8 rfl) ?_
                refine lv_aload hx hb dX5_noteCues_61 (lv_at hl 6 rfl) ?_
                refine va_getN (D := D) (ci := 0) (v := .ref (q 0)) (C := RX0) (T := TX0) (N := 4) hx hb hts inlX0 hown hG.K hW 1 rfl rfl 2 (by decide) (va_Nw.use rfl (nF_KeyStage_314 hG)) (fun _ h9 => h9) rfl dX5_noteCues_63 ?_
                refine lv_iload hx hb dX5_noteCues_66 (lv_at hl 0 rfl) ?_
                have hP9 := hW.sub (ws' := [oO (q 0) 2 [.ref (b 0), .int (nI nc)], aI D (b 0) 8 ct]) [3, 5] rfl
                refine vp_callSi (pV (rest := [.int (nI r1), .ref so]) (qc := (RX2, TX2, 2)) [.int (nI i1)] 1 hC (c_get l D (r := q 0) (j := i1) (a := b 0) (sz := nc) (n := 8) (f := ct) (by omega) (by omega) (by omega)) rfl (hW 3 _ rfl) (gV mM_X5_173 mI_X2_get mS_X2_get mN_X2 mC_X2_get) (by decide +kernel) rfl rfl ⟨Nat.le_of_ble_eq_true rfl, Nat.le_of_ble_eq_true rfl⟩ hG hP9 rfl hl.1 rfl (Nat.le_of_ble_eq_true rfl) dX5_noteCues_68 ⟨Nat.le_of_ble_eq_true rfl, Nat.le_of_ble_eq_true rfl⟩) (fun r68 h68 => ?_)
                obtain rfl : r68 = (ct i1) := h68
                have hP9 := hW.sub (ws' := [oO so 3 [.ref co, .int (pt 0), .int (pt 1), .int (pt 3), .int (pt 4), .int (pt 5), .int (pt 6), .int (pt 7), .int (pt 8), .int (pt 9), .int (pt 10), .int (pt 11), .int (pt 12)], oO co 0 [.int len, .ref ta, .ref (q 0), .ref (q 1)]]) [0, 1] rfl
                refine vp_callSi (pV (rest := []) (qc := (RX3, TX3, 13)) [.int (nI r1), .int (ct i1)] 2 hC (c_meetingTime l D (q := q) (pt := pt) (so := so) (x := nI r1) (y := ct i1) (co := co) (len := len) (ta := ta) (hp)) rfl (hW 0 _ rfl) (gV mM_X5_317 mI_X3_meetingTime mS_X3_meetingTime mN_X3 mC_X3_meetingTime) (by decide +kernel) rfl rfl ⟨Nat.le_of_ble_eq_true rfl, Nat.le_of_ble_eq_true rfl⟩ hG hP9 rfl hl.1 rfl (Nat.le_of_ble_eq_true rfl) dX5_noteCues_71 ⟨Nat.le_of_ble_eq_true rfl, Nat.le_of_ble_eq_true rfl⟩) (fun r71 h71 => ?_)
                obtain rfl : r71 = (meetS len pt (nI r1) (ct i1)) := h71
                refine lv_istore (lv' := [(10, .int (meetS len pt (nI r1) (ct i1))), (9, .int (nI i1)), (0, .ref xo), (1, .ref so), (2, .int (nI num)), (3, .int x), (4, .int y), (5, .ref co), (6, .int (nI nc)), (7, .int (nI r1)), (8, .int (nI i1))]) hx hb dX5_noteCues_74 hl (by decide) rfl (fun ls hl => ?_)
                refine lv_iload hx hb dX5_noteCues_76 (lv_at hl 0 rfl) ?_
                refine lv_iload_n hx hb dX5_noteCues_78 rfl (lv_at hl 5 rfl) ?_
                refine lv_iload hx hb dX5_noteCues_79 (lv_at hl 6 rfl) ?_
                have hP9 : va_P D cls [] H := fun k q h => by simp at h
                refine vp_callSi (pS (rest := []) [.int (meetS len pt (nI r1) (ct i1)), .int x, .int y] 3 hC (c_isIn l D (x := meetS len pt (nI r1) (ct i1)) (a := x) (b := y) ) (gS mM_X5_41 mT_X5_isIn mN_X5 mC_X5_isIn) (by decide +kernel) rfl rfl ⟨Nat.le_of_ble_eq_true rfl, Nat.le_of_ble_eq_true rfl⟩ hG hP9 rfl hl.1 rfl (Nat.le_of_ble_eq_true rfl) dX5_noteCues_81 ⟨Nat.le_of_ble_eq_true rfl, Nat.le_of_ble_eq_true rfl⟩) (fun r81 h81 => ?_)
                rcases h81 with ⟨rfl, hb81⟩ | ⟨rfl, hb81⟩
                · skip
                  refine lv_if_eq (tgt := 109) hx hb dX5_noteCues_84 (by decide) (fun h9 => absurd h9 (by decide)) (fun _ => ?_)
                  refine lv_aload_n hx hb dX5_noteCues_87 rfl (lv_at hl 2 rfl) ?_
                  refine va_get (D := D) (ci := 5) (v := .ref no) (C := RX5) (T := TX5) (N := 5) hx hb hts inlX5 hown hG.K hP 0 rfl rfl 4 (by decide) (hts _ mF_X5_37) (fun _ h9 => h9) rfl dX5_noteCues_88 ?_
                  refine lv_iload hx hb dX5_noteCues_91 (lv_at hl 0 rfl) ?_
                  refine lv_iload_n hx hb dX5_noteCues_93 rfl (lv_at hl 4 rfl) ?_
                  refine lv_iload hx hb dX5_noteCues_94 (lv_at hl 9 rfl) ?_
                  refine lv_aload hx hb dX5_noteCues_96 (lv_at hl 7 rfl) ?_
                  refine va_getN (D := D) (ci := 0) (v := .ref (q 1)) (C := RX0) (T := TX0) (N := 4) hx hb hts inlX0 hown hG.K hW 1 rfl rfl 3 (by decide) (va_Nw.use rfl (nF_KeyStage_320 hG)) (fun _ h9 => h9) rfl dX5_noteCues_98 ?_
                  refine lv_iload hx hb dX5_noteCues_101 (lv_at hl 1 rfl) ?_
                  have hP9 := hW.sub (ws' := [oO (q 1) 2 [.ref (b 1), .int (nI nc)], aI D (b 1) 8 cn]) [4, 6] rfl
                  refine vp_callSi (pV (rest := [.int (nI r1), .int (nI num), .int (meetS len pt (nI r1) (ct i1)), .ref no]) (qc := (RX2, TX2, 2)) [.int (nI i1)] 1 hC (c_get l D (r := q 1) (j := i1) (a := b 1) (sz := nc) (n := 8) (f := cn) (by omega) (by omega) (by omega)) rfl (hW 4 _ rfl) (gV mM_X5_173 mI_X2_get mS_X2_get mN_X2 mC_X2_get) (by decide +kernel) rfl rfl ⟨Nat.le_of_ble_eq_true rfl, Nat.le_of_ble_eq_true rfl⟩ hG hP9 rfl hl.1 rfl (Nat.le_of_ble_eq_true rfl) dX5_noteCues_103 ⟨Nat.le_of_ble_eq_true rfl, Nat.le_of_ble_eq_true rfl⟩) (fun r103 h103 => ?_)
                  obtain rfl : r103 = (cn i1) := h103
                  have hP9 := hP.sub (ws' := [oO no 1 [.ref (g 0), .ref (g 1), .ref (g 2), .ref (g 3), .int S2.2.2], oO (g 0) 2 [.ref (h 0), .int (nI S2.1)], oO (g 1) 2 [.ref (h 1), .int (nI S2.1)], oO (g 2) 2 [.ref (h 2), .int (nI S2.1)], oO (g 3) 2 [.ref (h 3), .int (nI S2.1)], aI D (h 0) 100 (S2.2.1 0), aI D (h 1) 100 (S2.2.1 1), aI D (h 2) 100 (S2.2.1 2), aI D (h 3) 100 (S2.2.1 3)]) [1, 2, 3, 4, 5, 6, 7, 8, 9] rfl
                  have hD9 := (hD.sub (ws' := [oO no 1 [.ref (g 0), .ref (g 1), .ref (g 2), .ref (g 3), .int S2.2.2], oO (g 0) 2 [.ref (h 0), .int (nI S2.1)], oO (g 1) 2 [.ref (h 1), .int (nI S2.1)], oO (g 2) 2 [.ref (h 2), .int (nI S2.1)], oO (g 3) 2 [.ref (h 3), .int (nI S2.1)], aI D (h 0) 100 (S2.2.1 0), aI D (h 1) 100 (S2.2.1 1), aI D (h 2) 100 (S2.2.1 2), aI D (h 3) 100 (S2.2.1 3)]) [1, 2, 3, 4, 5, 6, 7, 8, 9] (by decide) rfl).weaken (B := fun _ => True) (fun _ _ _ _ => trivial)
                  refine kv (wr := [oO xo 5 [.ref lc, .ref lt, .ref bo, .ref yo, .ref no]]) (rV (rest := []) (qc := (RX1, TX1, 5)) [.int (meetS len pt (nI r1) (ct i1)), .int (nI num), .int (nI r1), .int (cn i1)] 4 0 0 hC (c_note l D (g := g) (h := h) (f := S2.2.1) (k := S2.1) (cnt := S2.2.2) (no := no) (x := meetS len pt (nI r1) (ct i1)) (y := nI num) (z := nI r1) (u := cn i1) (hz0 := H.size) (by omega)) rfl (hP 1 _ rfl) (gV mM_X5_323 mI_X1_note mS_X1_note mN_X1 mC_X1_note) (by decide +kernel) rfl rfl ⟨Nat.le_of_ble_eq_true rfl, Nat.le_of_ble_eq_true rfl⟩ hG hP9 hD9 rfl hl.1 rfl (Nat.le_of_ble_eq_true rfl) dX5_noteCues_106 ⟨Nat.le_of_ble_eq_true rfl, Nat.le_of_ble_eq_true rfl⟩) hP hD hS hA [1, 2, 3, 4, 5, 6, 7, 8, 9] [0] rfl rfl (by decide) (by decide) (fun u106 H locs h106 hP hD hS hz hfr => ?_)
                  have hP : va_P D cls [oO xo 5 [.ref lc, .ref lt, .ref bo, .ref yo, .ref no], oO no 1 [.ref (g 0), .ref (g 1), .ref (g 2), .ref (g 3), .int ((noteS (meetS len pt (nI r1) (ct i1)) (nI num) (nI r1) (cn i1) (S2.1, S2.2.1, S2.2.2)).2.2)], oO (g 0) 2 [.ref (h 0), .int (nI ((noteS (meetS len pt (nI r1) (ct i1)) (nI num) (nI r1) (cn i1) (S2.1, S2.2.1, S2.2.2)).1))], oO (g 1) 2 [.ref (h 1), .int (nI ((noteS (meetS len pt (nI r1) (ct i1)) (nI num) (nI r1) (cn i1) (S2.1, S2.2.1, S2.2.2)).1))], oO (g 2) 2 [.ref (h 2), .int (nI ((noteS (meetS len pt (nI r1) (ct i1)) (nI num) (nI r1) (cn i1) (S2.1, S2.2.1, S2.2.2)).1))], oO (g 3) 2 [.ref (h 3), .int (nI ((noteS (meetS len pt (nI r1) (ct i1)) (nI num) (nI r1) (cn i1) (S2.1, S2.2.1, S2.2.2)).1))], aI D (h 0) 100 ((noteS (meetS len pt (nI r1) (ct i1)) (nI num) (nI r1) (cn i1) (S2.1, S2.2.1, S2.2.2)).2.1 0), aI D (h 1) 100 ((noteS (meetS len pt (nI r1) (ct i1)) (nI num) (nI r1) (cn i1) (S2.1, S2.2.1, S2.2.2)).2.1 1), aI D (h 2) 100 ((noteS (meetS len pt (nI r1) (ct i1)) (nI num) (nI r1) (cn i1) (S2.1, S2.2.1, S2.2.2)).2.1 2), aI D (h 3) 100 ((noteS (meetS len pt (nI r1) (ct i1)) (nI num) (nI r1) (cn i1) (S2.1, S2.2.1, S2.2.2)).2.1 3)] H := hP
                  have hD : va_D A [oO xo 5 [.ref lc, .ref lt, .ref bo, .ref yo, .ref no], oO no 1 [.ref (g 0), .ref (g 1), .ref (g 2), .ref (g 3), .int ((noteS (meetS len pt (nI r1) (ct i1)) (nI num) (nI r1) (cn i1) (S2.1, S2.2.1, S2.2.2)).2.2)], oO (g 0) 2 [.ref (h 0), .int (nI ((noteS (meetS len pt (nI r1) (ct i1)) (nI num) (nI r1) (cn i1) (S2.1, S2.2.1, S2.2.2)).1))], oO (g 1) 2 [.ref (h 1), .int (nI ((noteS (meetS len pt (nI r1) (ct i1)) (nI num) (nI r1) (cn i1) (S2.1, S2.2.1, S2.2.2)).1))], oO (g 2) 2 [.ref (h 2), .int (nI ((noteS (meetS len pt (nI r1) (ct i1)) (nI num) (nI r1) (cn i1) (S2.1, S2.2.1, S2.2.2)).1))], oO (g 3) 2 [.ref (h 3), .int (nI ((noteS (meetS len pt (nI r1) (ct i1)) (nI num) (nI r1) (cn i1) (S2.1, S2.2.1, S2.2.2)).1))], aI D (h 0) 100 ((noteS (meetS len pt (nI r1) (ct i1)) (nI num) (nI r1) (cn i1) (S2.1, S2.2.1, S2.2.2)).2.1 0), aI D (h 1) 100 ((noteS (meetS len pt (nI r1) (ct i1)) (nI num) (nI r1) (cn i1) (S2.1, S2.2.1, S2.2.2)).2.1 1), aI D (h 2) 100 ((noteS (meetS len pt (nI r1) (ct i1)) (nI num) (nI r1) (cn i1) (S2.1, S2.2.1, S2.2.2)).2.1 2), aI D (h 3) 100 ((noteS (meetS len pt (nI r1) (ct i1)) (nI num) (nI r1) (cn i1) (S2.1, S2.2.1, S2.2.2)).2.1 3)] := hD
                  refine lv_iinc (v := nI (i1 + 1)) (lv' := [(8, .int (nI (i1 + 1))), (10, .int (meetS len pt (nI r1) (ct i1))), (9, .int (nI i1)), (0, .ref xo), (1, .ref so), (2, .int (nI num)), (3, .int x), (4, .int y), (5, .ref co), (6, .int (nI nc)), (7, .int (nI r1))]) hx hb dX5_noteCues_109 hl (k := 10) rfl (nI_1 _) (by decide) rfl (fun ls hl => ?_)
                  refine lv_goto (tgt := 28) hx hb dX5_noteCues_112 (by decide) ?_
                  exact ih28 (i1 + 1) (noteS (meetS len pt (nI r1) (ct i1)) (nI num) (nI r1) (cn i1) S2) (by omega) (by omega) (by rw [ncR, ← hS2, ncS, hcX, if_pos hb81]) (noteS_le hk2) _ _ _ hP hD hS (lv_sub hl [3, 4, 5, 6, 7, 8, 9, 10, 0] rfl)
                · skip
                  refine lv_if_eq (tgt := 109) hx hb dX5_noteCues_84 (by decide) (fun _ => ?_) (fun h9 => (h9 (by decide)).elim)
                  refine lv_iinc (v := nI (i1 + 1)) (lv' := [(8, .int (nI (i1 + 1))), (10, .int (meetS len pt (nI r1) (ct i1))), (9, .int (nI i1)), (0, .ref xo), (1, .ref so), (2, .int (nI num)), (3, .int x), (4, .int y), (5, .ref co), (6, .int (nI nc)), (7, .int (nI r1))]) hx hb dX5_noteCues_109 hl (k := 10) rfl (nI_1 _) (by decide) rfl (fun ls hl => ?_)
                  refine lv_goto (tgt := 28) hx hb dX5_noteCues_112 (by decide) ?_
                  exact ih28 (i1 + 1) S2 (by omega) (by omega) (by rw [ncR, ← hS2, ncS, hcX, if_neg hb81]) (hk2) _ _ _ hP hD hS (lv_sub hl [3, 4, 5, 6, 7, 8, 9, 10, 0] rfl)
        exact loop28 _ 0 S1 (Nat.lt_succ_self _) (by omega) (rfl) (hk1) _ _ _ hP hD hS (lv_sub hl [1, 2, 3, 4, 5, 6, 7, 8, 0] rfl)
  exact loop16 _ 0 (k, f, cnt) (Nat.lt_succ_self _) (by omega) (rfl) (hk) _ _ _ hP hD hS (lv_sub hl [3, 4, 5, 6, 7, 2, 1, 0] rfl)
set_option maxHeartbeats 4000000 in
set_option maxRecDepth 100000 in
theorem t_play (l : Launch) (D : va_G) (hns : l.stackTraces = false) {xo : Nat} {x y : Int32} (hz0 : Nat) (hh : ¬ (((0 : Int32) ≤ x ∧ x ≤ 100000) ∧ (x ≤ y ∧ y ≤ 100000))) : vx_Met l yX5_play (ws_ yX5_play cX5_play 4 (some .int)) ({ frames := 6, cells := 1, slots := 6, locals := 119 } : Room) (va_Pc [.ref xo, .int x, .int y] (TW D [] hz0)) (va_Qi (fun _ (_ : Unit) => False) (fun _ _ => False) (va_A [] hz0)) (XE "java/lang/IllegalArgumentException" (va_A [] hz0)) 1 6 (va_A [] hz0) := by
  refine vx_ofW (cc := cX5_play) (maxL := 4) (ret := (some .int)) (by decide) rfl ?_
  intro p e s m args below meth c s₁ B hml hne hv
  obtain ⟨rfl, hsz, hG, hP, hZ⟩ := hv
  subst hsz
  have hx := B.exec
  have hb := B.bytes
  have hr := B.returns
  have hts : ∀ w ∈ wsL_law, w.before _ s = true := fun w h => atoms_spec (ws := (ws_ yX5_play cX5_play 4 (some .int))) B.pre w (List.mem_cons_of_mem _ h)
  have hown : s.vm.findClass RX5 = some m.cls := findClass_of_methodNamed B.named
  have hlk := B.notSynchronized
  have hC : CallFix p m c cX5_play 4 s _ wsL_law RX5 := ⟨hx, hb, hml, hown, hts⟩
  have hl := lv_entry ([.ref xo, .int x, .int y]) (n := 4) (Nat.le_of_ble_eq_true rfl)
  rw [lg_entry_eq]
  generalize (lg_sl ([.ref xo, .int x, .int y]) ++ List.replicate (4 - (lg_sl ([.ref xo, .int x, .int y])).length) Slot.unset).toArray = ls at hl ⊢
  have hl : lv_has ls 4 [(0, .ref xo), (1, .int x), (2, .int y)] := hl
  refine lv_iload_n hx hb dX5_play_0 rfl (lv_at hl 1 rfl) ?_
  have hP9 : va_P D cls [] s.heap := fun k q h => by simp at h
  refine vp_callSi (pS (rest := []) [.int x] 1 hC (c_isTime l D (x := x) ) (gS mM_X5_236 mT_X5_isTime mN_X5 mC_X5_isTime) (by decide +kernel) rfl rfl ⟨Nat.le_of_ble_eq_true rfl, Nat.le_of_ble_eq_true rfl⟩ hG hP9 rfl hl.1 rfl (Nat.le_of_ble_eq_true rfl) dX5_play_1 ⟨Nat.le_of_ble_eq_true rfl, Nat.le_of_ble_eq_true rfl⟩) (fun r1 h1 => ?_)
  rcases h1 with ⟨rfl, hb1⟩ | ⟨rfl, hb1⟩
  · skip
    refine lv_if_eq (tgt := 18) hx hb dX5_play_4 (by decide) (fun h9 => absurd h9 (by decide)) (fun _ => ?_)
    refine lv_iload_n hx hb dX5_play_7 rfl (lv_at hl 2 rfl) ?_
    refine lv_iload_n hx hb dX5_play_8 rfl (lv_at hl 1 rfl) ?_
    refine lv_ldcw hx hb hown (hts _ mG_X5_264) dX5_play_9 ?_
    have hP9 : va_P D cls [] s.heap := fun k q h => by simp at h
    refine vp_callSi (pS (rest := []) [.int y, .int x, .int 100000] 3 hC (c_isIn l D (x := y) (a := x) (b := 100000) ) (gS mM_X5_41 mT_X5_isIn mN_X5 mC_X5_isIn) (by decide +kernel) rfl rfl ⟨Nat.le_of_ble_eq_true rfl, Nat.le_of_ble_eq_true rfl⟩ hG hP9 rfl hl.1 rfl (Nat.le_of_ble_eq_true rfl) dX5_play_12 ⟨Nat.le_of_ble_eq_true rfl, Nat.le_of_ble_eq_true rfl⟩) (fun r12 h12 => ?_)
    rcases h12 with ⟨rfl, hb12⟩ | ⟨rfl, hb12⟩
    · exact absurd hb12 (fun h9 => hh ⟨hb1, h9⟩)
    refine lv_if_ne (tgt := 29) hx hb dX5_play_15 (by decide) (fun h9 => (h9 (by decide)).elim) (fun _ => ?_)
    obtain ⟨sa, hsa⟩ := gkS hG 28 rfl
    exact vx_throwSW (ik := 45) (is := 265) (ic := 49) (cls := "java/lang/IllegalArgumentException") (names := tXn) hx hb hns hown (by decide +kernel) (by decide +kernel) (hts _ mK_X5_45) (hts _ mN__java_lang_IllegalArgumentException_) hsa (vx_hat (fun w hw => hts w (thr_in49 w hw)) thr_bad49 (thr_B 2 hG rfl)) thr_ot49 hZ.1 hZ.2 va_S.rf (by rw [hml]; exact hl.1) dX5_play_18 dX5_play_21 dX5_play_22 dX5_play_25 dX5_play_28 (fun x hx => (hne x hx).elim) (Nat.le_of_ble_eq_true rfl) (Nat.le_of_ble_eq_true rfl) (Nat.le_of_ble_eq_true rfl) (Nat.le_of_ble_eq_true rfl) hlk (XE.of rfl) (fun q hq => absurd hq List.not_mem_nil) (Nat.le_of_ble_eq_true rfl) (Nat.le_of_ble_eq_true rfl)
  · skip
    refine lv_if_eq (tgt := 18) hx hb dX5_play_4 (by decide) (fun _ => ?_) (fun h9 => (h9 (by decide)).elim)
    obtain ⟨sa, hsa⟩ := gkS hG 28 rfl
    exact vx_throwSW (ik := 45) (is := 265) (ic := 49) (cls := "java/lang/IllegalArgumentException") (names := tXn) hx hb hns hown (by decide +kernel) (by decide +kernel) (hts _ mK_X5_45) (hts _ mN__java_lang_IllegalArgumentException_) hsa (vx_hat (fun w hw => hts w (thr_in49 w hw)) thr_bad49 (thr_B 2 hG rfl)) thr_ot49 hZ.1 hZ.2 va_S.rf (by rw [hml]; exact hl.1) dX5_play_18 dX5_play_21 dX5_play_22 dX5_play_25 dX5_play_28 (fun x hx => (hne x hx).elim) (Nat.le_of_ble_eq_true rfl) (Nat.le_of_ble_eq_true rfl) (Nat.le_of_ble_eq_true rfl) (Nat.le_of_ble_eq_true rfl) hlk (XE.of rfl) (fun q hq => absurd hq List.not_mem_nil) (Nat.le_of_ble_eq_true rfl) (Nat.le_of_ble_eq_true rfl)
set_option maxHeartbeats 4000000 in
set_option maxRecDepth 100000 in
theorem c_play (l : Launch) (D : va_G) {xo lc lt bo yo no : Nat} {et nS k : Nat} {m2 : Int32} {sl ck cl ta nc : Nat → Nat} {pt : Nat → Nat → Int32} {len : Nat → Int32} {q b t : Nat → Nat → Nat} {ct cn : Nat → Nat → Int32} {g h RR : Nat → Nat} {x y cnt : Int32} {f : Nat → Nat → Int32} (hz0 : Nat) (hnS : nS ≤ 10) (hk : k ≤ 100) (hxx : (0 : Int32) ≤ x ∧ x ≤ 100000) (hyy : x ≤ y ∧ y ≤ 100000) (hnc : ∀ i, i < nS → nc (ck i) ≤ 8) (hp : ∀ i, i < nS → 0 < pt i 5) (hR : ∀ i, i < nS → pt i 3 = nI (RR i)) (hR9 : ∀ i, i < nS → RR i ≤ 9) : Met l yX5_play (ws_ yX5_play cX5_play 4 (some .int)) ({ frames := 6, cells := 0, slots := 0, locals := 119 } : Room) (va_Pc [.ref xo, .int x, .int y] (SX D [oO xo 5 [.ref lc, .ref lt, .ref bo, .ref yo, .ref no], oO lt 7 [.int m2, .ref et, .int (nI nS)], oO no 1 [.ref (g 0), .ref (g 1), .ref (g 2), .ref (g 3), .int cnt], oO (g 0) 2 [.ref (h 0), .int (nI k)], oO (g 1) 2 [.ref (h 1), .int (nI k)], oO (g 2) 2 [.ref (h 2), .int (nI k)], oO (g 3) 2 [.ref (h 3), .int (nI k)], aI D (h 0) 100 (f 0), aI D (h 1) 100 (f 1), aI D (h 2) 100 (f 2), aI D (h 3) 100 (f 3)] hz0 (FX D nS (fun i => [aO D et 10 (lsF sl nS), oO (sl i) 3 [.ref (cl (ck i)), .int (pt i 0), .int (pt i 1), .int (pt i 3), .int (pt i 4), .int (pt i 5), .int (pt i 6), .int (pt i 7), .int (pt i 8), .int (pt i 9), .int (pt i 10), .int (pt i 11), .int (pt i 12)], oO (cl (ck i)) 0 [.int (len (ck i)), .ref (ta (ck i)), .ref (q (ck i) 0), .ref (q (ck i) 1)], aT D (ta (ck i)) 4 (tkF (t (ck i))), oO (q (ck i) 0) 2 [.ref (b (ck i) 0), .int (nI (nc (ck i)))], oO (q (ck i) 1) 2 [.ref (b (ck i) 1), .int (nI (nc (ck i)))], aI D (b (ck i) 0) 8 (ct (ck i)), aI D (b (ck i) 1) 8 (cn (ck i))]) (va_A [oO xo 5 [.ref lc, .ref lt, .ref bo, .ref yo, .ref no], oO lt 7 [.int m2, .ref et, .int (nI nS)], oO no 1 [.ref (g 0), .ref (g 1), .ref (g 2), .ref (g 3), .int cnt], oO (g 0) 2 [.ref (h 0), .int (nI k)], oO (g 1) 2 [.ref (h 1), .int (nI k)], oO (g 2) 2 [.ref (h 2), .int (nI k)], oO (g 3) 2 [.ref (h 3), .int (nI k)], aI D (h 0) 100 (f 0), aI D (h 1) 100 (f 1), aI D (h 2) 100 (f 2), aI D (h 3) 100 (f 3)] hz0)))) (va_Qi (fun v _ => v = (ncP (fun z => len (ck z)) pt (fun z => ct (ck z)) (fun z => cn (ck z)) (fun z => nc (ck z)) RR x y (0, f, 0) nS).2.2) (AT D (va_A [oO xo 5 [.ref lc, .ref lt, .ref bo, .ref yo, .ref no], oO lt 7 [.int m2, .ref et, .int (nI nS)], oO no 1 [.ref (g 0), .ref (g 1), .ref (g 2), .ref (g 3), .int cnt], oO (g 0) 2 [.ref (h 0), .int (nI k)], oO (g 1) 2 [.ref (h 1), .int (nI k)], oO (g 2) 2 [.ref (h 2), .int (nI k)], oO (g 3) 2 [.ref (h 3), .int (nI k)], aI D (h 0) 100 (f 0), aI D (h 1) 100 (f 1), aI D (h 2) 100 (f 2), aI D (h 3) 100 (f 3)] hz0) (fun _ : Unit => [oO xo 5 [.ref lc, .ref lt, .ref bo, .ref yo, .ref no], oO lt 7 [.int m2, .ref et, .int (nI nS)], oO no 1 [.ref (g 0), .ref (g 1), .ref (g 2), .ref (g 3), .int ((ncP (fun z => len (ck z)) pt (fun z => ct (ck z)) (fun z => cn (ck z)) (fun z => nc (ck z)) RR x y (0, f, 0) nS).2.2)], oO (g 0) 2 [.ref (h 0), .int (nI ((ncP (fun z => len (ck z)) pt (fun z => ct (ck z)) (fun z => cn (ck z)) (fun z => nc (ck z)) RR x y (0, f, 0) nS).1))], oO (g 1) 2 [.ref (h 1), .int (nI ((ncP (fun z => len (ck z)) pt (fun z => ct (ck z)) (fun z => cn (ck z)) (fun z => nc (ck z)) RR x y (0, f, 0) nS).1))], oO (g 2) 2 [.ref (h 2), .int (nI ((ncP (fun z => len (ck z)) pt (fun z => ct (ck z)) (fun z => cn (ck z)) (fun z => nc (ck z)) RR x y (0, f, 0) nS).1))], oO (g 3) 2 [.ref (h 3), .int (nI ((ncP (fun z => len (ck z)) pt (fun z => ct (ck z)) (fun z => cn (ck z)) (fun z => nc (ck z)) RR x y (0, f, 0) nS).1))], aI D (h 0) 100 ((ncP (fun z => len (ck z)) pt (fun z => ct (ck z)) (fun z => cn (ck z)) (fun z => nc (ck z)) RR x y (0, f, 0) nS).2.1 0), aI D (h 1) 100 ((ncP (fun z => len (ck z)) pt (fun z => ct (ck z)) (fun z => cn (ck z)) (fun z => nc (ck z)) RR x y (0, f, 0) nS).2.1 1), aI D (h 2) 100 ((ncP (fun z => len (ck z)) pt (fun z => ct (ck z)) (fun z => cn (ck z)) (fun z => nc (ck z)) RR x y (0, f, 0) nS).2.1 2), aI D (h 3) 100 ((ncP (fun z => len (ck z)) pt (fun z => ct (ck z)) (fun z => cn (ck z)) (fun z => nc (ck z)) RR x y (0, f, 0) nS).2.1 3)])) (va_A [oO xo 5 [.ref lc, .ref lt, .ref bo, .ref yo, .ref no], oO lt 7 [.int m2, .ref et, .int (nI nS)], oO no 1 [.ref (g 0), .ref (g 1), .ref (g 2), .ref (g 3), .int cnt], oO (g 0) 2 [.ref (h 0), .int (nI k)], oO (g 1) 2 [.ref (h 1), .int (nI k)], oO (g 2) 2 [.ref (h 2), .int (nI k)], oO (g 3) 2 [.ref (h 3), .int (nI k)], aI D (h 0) 100 (f 0), aI D (h 1) 100 (f 1), aI D (h 2) 100 (f 2), aI D (h 3) 100 (f 3)] hz0)) 0 0 (va_A [oO xo 5 [.ref lc, .ref lt, .ref bo, .ref yo, .ref no], oO lt 7 [.int m2, .ref et, .int (nI nS)], oO no 1 [.ref (g 0), .ref (g 1), .ref (g 2), .ref (g 3), .int cnt], oO (g 0) 2 [.ref (h 0), .int (nI k)], oO (g 1) 2 [.ref (h 1), .int (nI k)], oO (g 2) 2 [.ref (h 2), .int (nI k)], oO (g 3) 2 [.ref (h 3), .int (nI k)], aI D (h 0) 100 (f 0), aI D (h 1) 100 (f 1), aI D (h 2) 100 (f 2), aI D (h 3) 100 (f 3)] hz0) := by
  refine Met.ofW (cc := cX5_play) (maxL := 4) (ret := (some .int)) (by decide) rfl ?_
  intro p e s m args below meth c s₁ B hml hv
  obtain ⟨rfl, ⟨hsz, hG, hP, hD0⟩, hX⟩ := hv
  have hx := B.exec
  have hb := B.bytes
  have hr := B.returns
  have hts : ∀ w ∈ wsL_law, w.before _ s = true := fun w h => atoms_spec (ws := (ws_ yX5_play cX5_play 4 (some .int))) B.pre w (List.mem_cons_of_mem _ h)
  have hown : s.vm.findClass RX5 = some m.cls := findClass_of_methodNamed B.named
  have hlk := B.notSynchronized
  have hC : CallFix p m c cX5_play 4 s _ wsL_law RX5 := ⟨hx, hb, hml, hown, hts⟩
  subst hsz
  have hD := hD0.self (sz := s.heap.size)
  generalize hAe : va_A [oO xo 5 [.ref lc, .ref lt, .ref bo, .ref yo, .ref no], oO lt 7 [.int m2, .ref et, .int (nI nS)], oO no 1 [.ref (g 0), .ref (g 1), .ref (g 2), .ref (g 3), .int cnt], oO (g 0) 2 [.ref (h 0), .int (nI k)], oO (g 1) 2 [.ref (h 1), .int (nI k)], oO (g 2) 2 [.ref (h 2), .int (nI k)], oO (g 3) 2 [.ref (h 3), .int (nI k)], aI D (h 0) 100 (f 0), aI D (h 1) 100 (f 1), aI D (h 2) 100 (f 2), aI D (h 3) 100 (f 3)] s.heap.size = A at hD hX ⊢
  have hA : ∀ q : Nat, s.heap.size ≤ q → A q := fun q h => by rw [← hAe]; exact Or.inr h
  have hS : va_S A s.heap s.heap [] := va_S.rf
  obtain ⟨H, hHe⟩ : ∃ H, H = s.heap := ⟨_, rfl⟩
  rw [← hHe] at hP
  have hS : va_S A s.heap H [] := by rw [hHe]; exact hS
  have hl := lv_entry ([.ref xo, .int x, .int y]) (n := 4) (Nat.le_of_ble_eq_true rfl)
  rw [lg_entry_eq]
  generalize (lg_sl ([.ref xo, .int x, .int y]) ++ List.replicate (4 - (lg_sl ([.ref xo, .int x, .int y])).length) Slot.unset).toArray = ls at hl ⊢
  have hl : lv_has ls 4 [(0, .ref xo), (1, .int x), (2, .int y)] := hl
  rw [← hHe]
  refine lv_iload_n hx hb dX5_play_0 rfl (lv_at hl 1 rfl) ?_
  have hP9 : va_P D cls [] H := fun k q h => by simp at h
  refine vp_callSi (pS (rest := []) [.int x] 1 hC (c_isTime l D (x := x) ) (gS mM_X5_236 mT_X5_isTime mN_X5 mC_X5_isTime) (by decide +kernel) rfl rfl ⟨Nat.le_of_ble_eq_true rfl, Nat.le_of_ble_eq_true rfl⟩ hG hP9 rfl hl.1 rfl (Nat.le_of_ble_eq_true rfl) dX5_play_1 ⟨Nat.le_of_ble_eq_true rfl, Nat.le_of_ble_eq_true rfl⟩) (fun r1 h1 => ?_)
  rcases h1 with ⟨rfl, hb1⟩ | ⟨rfl, hb1⟩
  rotate_left
  · exact absurd (hxx) hb1
  refine lv_if_eq (tgt := 18) hx hb dX5_play_4 (by decide) (fun h9 => absurd h9 (by decide)) (fun _ => ?_)
  refine lv_iload_n hx hb dX5_play_7 rfl (lv_at hl 2 rfl) ?_
  refine lv_iload_n hx hb dX5_play_8 rfl (lv_at hl 1 rfl) ?_
  refine lv_ldcw hx hb hown (hts _ mG_X5_264) dX5_play_9 ?_
  have hP9 : va_P D cls [] H := fun k q h => by simp at h
  refine vp_callSi (pS (rest := []) [.int y, .int x, .int 100000] 3 hC (c_isIn l D (x := y) (a := x) (b := 100000) ) (gS mM_X5_41 mT_X5_isIn mN_X5 mC_X5_isIn) (by decide +kernel) rfl rfl ⟨Nat.le_of_ble_eq_true rfl, Nat.le_of_ble_eq_true rfl⟩ hG hP9 rfl hl.1 rfl (Nat.le_of_ble_eq_true rfl) dX5_play_12 ⟨Nat.le_of_ble_eq_true rfl, Nat.le_of_ble_eq_true rfl⟩) (fun r12 h12 => ?_)
  rcases h12 with ⟨rfl, hb12⟩ | ⟨rfl, hb12⟩
  rotate_left
  · exact absurd (hyy) hb12
  refine lv_if_ne (tgt := 29) hx hb dX5_play_15 (by decide) (fun _ => ?_) (fun h9 => absurd h9 (by decide))
  refine lv_aload_n hx hb dX5_play_29 rfl (lv_at hl 0 rfl) ?_
  refine va_get (D := D) (ci := 5) (v := .ref no) (C := RX5) (T := TX5) (N := 5) hx hb hts inlX5 hown hG.K hP 0 rfl rfl 4 (by decide) (hts _ mF_X5_37) (fun _ h9 => h9) rfl dX5_play_30 ?_
  have hP9 := hP.sub (ws' := [oO no 1 [.ref (g 0), .ref (g 1), .ref (g 2), .ref (g 3), .int cnt], oO (g 0) 2 [.ref (h 0), .int (nI k)], oO (g 1) 2 [.ref (h 1), .int (nI k)], oO (g 2) 2 [.ref (h 2), .int (nI k)], oO (g 3) 2 [.ref (h 3), .int (nI k)], aI D (h 0) 100 (f 0), aI D (h 1) 100 (f 1), aI D (h 2) 100 (f 2), aI D (h 3) 100 (f 3)]) [2, 3, 4, 5, 6, 7, 8, 9, 10] rfl
  have hD9 := (hD.sub (ws' := [oO no 1 [.ref (g 0), .ref (g 1), .ref (g 2), .ref (g 3), .int cnt], oO (g 0) 2 [.ref (h 0), .int (nI k)], oO (g 1) 2 [.ref (h 1), .int (nI k)], oO (g 2) 2 [.ref (h 2), .int (nI k)], oO (g 3) 2 [.ref (h 3), .int (nI k)], aI D (h 0) 100 (f 0), aI D (h 1) 100 (f 1), aI D (h 2) 100 (f 2), aI D (h 3) 100 (f 3)]) [2, 3, 4, 5, 6, 7, 8, 9, 10] (by decide) rfl).weaken (B := fun _ => True) (fun _ _ _ _ => trivial)
  refine kv (wr := [oO xo 5 [.ref lc, .ref lt, .ref bo, .ref yo, .ref no], oO lt 7 [.int m2, .ref et, .int (nI nS)]]) (rV (rest := []) (qc := (RX1, TX1, 5)) [] 0 0 0 hC (c_clear l D (g := g) (h := h) (f := f) (no := no) (cnt := cnt) (k := k) (hz0 := H.size) (by omega)) rfl (hP 2 _ rfl) (gV mM_X5_267 mI_X1_clear mS_X1_clear mN_X1 mC_X1_clear) (by decide +kernel) rfl rfl ⟨Nat.le_of_ble_eq_true rfl, Nat.le_of_ble_eq_true rfl⟩ hG hP9 hD9 rfl hl.1 rfl (Nat.le_of_ble_eq_true rfl) dX5_play_33 ⟨Nat.le_of_ble_eq_true rfl, Nat.le_of_ble_eq_true rfl⟩) hP hD hS hA [2, 3, 4, 5, 6, 7, 8, 9, 10] [0, 1] rfl rfl (by decide) (by decide) (fun u33 H locs h33 hP hD hS hz hfr => ?_)
  have hP : va_P D cls [oO xo 5 [.ref lc, .ref lt, .ref bo, .ref yo, .ref no], oO lt 7 [.int m2, .ref et, .int (nI nS)], oO no 1 [.ref (g 0), .ref (g 1), .ref (g 2), .ref (g 3), .int 0], oO (g 0) 2 [.ref (h 0), .int (nI 0)], oO (g 1) 2 [.ref (h 1), .int (nI 0)], oO (g 2) 2 [.ref (h 2), .int (nI 0)], oO (g 3) 2 [.ref (h 3), .int (nI 0)], aI D (h 0) 100 (f 0), aI D (h 1) 100 (f 1), aI D (h 2) 100 (f 2), aI D (h 3) 100 (f 3)] H := hP
  have hD : va_D A [oO xo 5 [.ref lc, .ref lt, .ref bo, .ref yo, .ref no], oO lt 7 [.int m2, .ref et, .int (nI nS)], oO no 1 [.ref (g 0), .ref (g 1), .ref (g 2), .ref (g 3), .int 0], oO (g 0) 2 [.ref (h 0), .int (nI 0)], oO (g 1) 2 [.ref (h 1), .int (nI 0)], oO (g 2) 2 [.ref (h 2), .int (nI 0)], oO (g 3) 2 [.ref (h 3), .int (nI 0)], aI D (h 0) 100 (f 0), aI D (h 1) 100 (f 1), aI D (h 2) 100 (f 2), aI D (h 3) 100 (f 3)] := hD
  refine lv_iconst (v := 0) hx hb dX5_play_36 (by decide) ?_
  refine lv_istore_n (lv' := [(3, .int 0), (0, .ref xo), (1, .int x), (2, .int y)]) hx hb dX5_play_37 rfl hl (by decide) rfl (fun ls hl => ?_)
  have loop38 : ∀ (d9 : Nat) (i : Nat) (S1 : NS), (nS - i) < d9 → (i ≤ nS) → (S1 = ncP (fun z => len (ck z)) pt (fun z => ct (ck z)) (fun z => cn (ck z)) (fun z => nc (ck z)) RR x y (0, f, 0) i) → (S1.1 ≤ 100) → ∀ (H : Heap) (locs : List Loc) (ls : Array Slot), va_P D cls [oO xo 5 [.ref lc, .ref lt, .ref bo, .ref yo, .ref no], oO lt 7 [.int m2, .ref et, .int (nI nS)], oO no 1 [.ref (g 0), .ref (g 1), .ref (g 2), .ref (g 3), .int S1.2.2], oO (g 0) 2 [.ref (h 0), .int (nI S1.1)], oO (g 1) 2 [.ref (h 1), .int (nI S1.1)], oO (g 2) 2 [.ref (h 2), .int (nI S1.1)], oO (g 3) 2 [.ref (h 3), .int (nI S1.1)], aI D (h 0) 100 (S1.2.1 0), aI D (h 1) 100 (S1.2.1 1), aI D (h 2) 100 (S1.2.1 2), aI D (h 3) 100 (S1.2.1 3)] H → va_D A [oO xo 5 [.ref lc, .ref lt, .ref bo, .ref yo, .ref no], oO lt 7 [.int m2, .ref et, .int (nI nS)], oO no 1 [.ref (g 0), .ref (g 1), .ref (g 2), .ref (g 3), .int S1.2.2], oO (g 0) 2 [.ref (h 0), .int (nI S1.1)], oO (g 1) 2 [.ref (h 1), .int (nI S1.1)], oO (g 2) 2 [.ref (h 2), .int (nI S1.1)], oO (g 3) 2 [.ref (h 3), .int (nI S1.1)], aI D (h 0) 100 (S1.2.1 0), aI D (h 1) 100 (S1.2.1 1), aI D (h 2) 100 (S1.2.1 2), aI D (h 3) 100 (S1.2.1 3)] → va_S A s.heap H locs → lv_has ls 4 [(0, .ref xo), (1, .int x), (2, .int y), (3, .int (nI i))] → W p l e ({ frames := 6, cells := 0, slots := 0, locals := 119 } : Room) s m ([.ref xo, .int x, .int y] : List Value).toArray below meth c H locs 0 0 (MQ below (va_Qi (fun v _ => v = (ncP (fun z => len (ck z)) pt (fun z => ct (ck z)) (fun z => cn (ck z)) (fun z => nc (ck z)) RR x y (0, f, 0) nS).2.2) (AT D A (fun _ : Unit => [oO xo 5 [.ref lc, .ref lt, .ref bo, .ref yo, .ref no], oO lt 7 [.int m2, .ref et, .int (nI nS)], oO no 1 [.ref (g 0), .ref (g 1), .ref (g 2), .ref (g 3), .int ((ncP (fun z => len (ck z)) pt (fun z => ct (ck z)) (fun z => cn (ck z)) (fun z => nc (ck z)) RR x y (0, f, 0) nS).2.2)], oO (g 0) 2 [.ref (h 0), .int (nI ((ncP (fun z => len (ck z)) pt (fun z => ct (ck z)) (fun z => cn (ck z)) (fun z => nc (ck z)) RR x y (0, f, 0) nS).1))], oO (g 1) 2 [.ref (h 1), .int (nI ((ncP (fun z => len (ck z)) pt (fun z => ct (ck z)) (fun z => cn (ck z)) (fun z => nc (ck z)) RR x y (0, f, 0) nS).1))], oO (g 2) 2 [.ref (h 2), .int (nI ((ncP (fun z => len (ck z)) pt (fun z => ct (ck z)) (fun z => cn (ck z)) (fun z => nc (ck z)) RR x y (0, f, 0) nS).1))], oO (g 3) 2 [.ref (h 3), .int (nI ((ncP (fun z => len (ck z)) pt (fun z => ct (ck z)) (fun z => cn (ck z)) (fun z => nc (ck z)) RR x y (0, f, 0) nS).1))], aI D (h 0) 100 ((ncP (fun z => len (ck z)) pt (fun z => ct (ck z)) (fun z => cn (ck z)) (fun z => nc (ck z)) RR x y (0, f, 0) nS).2.1 0), aI D (h 1) 100 ((ncP (fun z => len (ck z)) pt (fun z => ct (ck z)) (fun z => cn (ck z)) (fun z => nc (ck z)) RR x y (0, f, 0) nS).2.1 1), aI D (h 2) 100 ((ncP (fun z => len (ck z)) pt (fun z => ct (ck z)) (fun z => cn (ck z)) (fun z => nc (ck z)) RR x y (0, f, 0) nS).2.1 2), aI D (h 3) 100 ((ncP (fun z => len (ck z)) pt (fun z => ct (ck z)) (fun z => cn (ck z)) (fun z => nc (ck z)) RR x y (0, f, 0) nS).2.1 3)])) A) ([.ref xo, .int x, .int y] : List Value).toArray s 0 0 A) (F0 m 38 ls []) := by
    intro d9
    induction d9 with
    | zero => intro i S1 hd; exact absurd hd (Nat.not_lt_zero _)
    | succ d9 ih38 =>
      intro i S1 hd38 hi hS1 hk1 H locs ls hP hD hS hl
      refine lv_iload_n hx hb dX5_play_38 rfl (lv_at hl 3 rfl) ?_
      refine lv_aload_n hx hb dX5_play_39 rfl (lv_at hl 0 rfl) ?_
      refine va_get (D := D) (ci := 5) (v := .ref lt) (C := RX5) (T := TX5) (N := 5) hx hb hts inlX5 hown hG.K hP 0 rfl rfl 1 (by decide) (hts _ mF_X5_16) (fun _ h9 => h9) rfl dX5_play_40 ?_
      have hP9 := hP.sub (ws' := [oO lt 7 [.int m2, .ref et, .int (nI nS)]]) [1] rfl
      refine vp_callSi (pV (rest := [.int (nI i)]) (qc := (RJx4a65c, TJx4a65c, 3)) [] 0 hC (c_list_size l D (lo := lt) (mc := m2) (ea := et) (n := nS) ) rfl (hP 1 _ rfl) (gV mM_X5_52 mI_Jx4a65c_size_8abf5 mS_Jx4a65c_size_8abf5 mN_Jx4a65c mC_Jx4a65c_size_8abf5) (by decide +kernel) rfl rfl ⟨Nat.le_of_ble_eq_true rfl, Nat.le_of_ble_eq_true rfl⟩ hG hP9 rfl hl.1 rfl (Nat.le_of_ble_eq_true rfl) dX5_play_43 ⟨Nat.le_of_ble_eq_true rfl, Nat.le_of_ble_eq_true rfl⟩) (fun r43 h43 => ?_)
      obtain rfl : r43 = (nI nS) := h43
      refine lv_icmp_ge (tgt := 73) hx hb dX5_play_46 (by decide) (fun c46 => ?_) (fun c46 => ?_)
      · skip
        have n46 := (nI_leI (a := nS) (b := i) (by omega) (by omega)).mp c46
        have hi9 : i = nS := by omega
        subst i
        subst hS1
        refine lv_aload_n hx hb dX5_play_73 rfl (lv_at hl 0 rfl) ?_
        refine va_get (D := D) (ci := 5) (v := .ref no) (C := RX5) (T := TX5) (N := 5) hx hb hts inlX5 hown hG.K hP 0 rfl rfl 4 (by decide) (hts _ mF_X5_37) (fun _ h9 => h9) rfl dX5_play_74 ?_
        refine va_getN (D := D) (ci := 1) (v := .int ((ncP (fun z => len (ck z)) pt (fun z => ct (ck z)) (fun z => cn (ck z)) (fun z => nc (ck z)) RR x y (0, f, 0) nS).2.2)) (C := RX1) (T := TX1) (N := 5) hx hb hts inlX1 hown hG.K hP 2 rfl rfl 4 (by decide) (va_Nw.use rfl (nF_KeyStage_274 hG)) (fun _ h9 => h9) rfl dX5_play_77 ?_
        refine Wi () hx hb hr hlk ?_ hP hD hS (Nat.le_of_ble_eq_true rfl) (by first | exact Nat.le_of_ble_eq_true rfl | exact Nat.le_of_eq (Nat.zero_add _)) dX5_play_80
        exact rfl
      · skip
        have n46 := mt (nI_leI (a := nS) (b := i) (by omega) (by omega)).mpr c46
        have hW : va_P D cls [aO D et 10 (lsF sl nS), oO (sl i) 3 [.ref (cl (ck i)), .int (pt i 0), .int (pt i 1), .int (pt i 3), .int (pt i 4), .int (pt i 5), .int (pt i 6), .int (pt i 7), .int (pt i 8), .int (pt i 9), .int (pt i 10), .int (pt i 11), .int (pt i 12)], oO (cl (ck i)) 0 [.int (len (ck i)), .ref (ta (ck i)), .ref (q (ck i) 0), .ref (q (ck i) 1)], aT D (ta (ck i)) 4 (tkF (t (ck i))), oO (q (ck i) 0) 2 [.ref (b (ck i) 0), .int (nI (nc (ck i)))], oO (q (ck i) 1) 2 [.ref (b (ck i) 1), .int (nI (nc (ck i)))], aI D (b (ck i) 0) 8 (ct (ck i)), aI D (b (ck i) 1) 8 (cn (ck i))] H := FX.at hX hS (i := i) (by omega)
        refine lv_aload_n hx hb dX5_play_49 rfl (lv_at hl 0 rfl) ?_
        refine lv_aload_n hx hb dX5_play_50 rfl (lv_at hl 0 rfl) ?_
        refine va_get (D := D) (ci := 5) (v := .ref lt) (C := RX5) (T := TX5) (N := 5) hx hb hts inlX5 hown hG.K hP 0 rfl rfl 1 (by decide) (hts _ mF_X5_16) (fun _ h9 => h9) rfl dX5_play_51 ?_
        refine lv_iload_n hx hb dX5_play_54 rfl (lv_at hl 3 rfl) ?_
        have hP8 := ((hP.sub (ws' := [oO lt 7 [.int m2, .ref et, .int (nI nS)]]) [1] rfl).app (hW.sub (ws' := [aO D et 10 (lsF sl nS)]) [0] rfl))
        have hP9 : va_P D cls [oO lt 7 [.int m2, .ref et, .int (nI nS)], aO D et 10 (lsF sl nS)] H := hP8.sub [0, 1] rfl
        refine va_csq (pV (rest := [.ref xo]) (qc := (RJx4a65c, TJx4a65c, 3)) [.int (nI i)] 1 hC (c_list_get l D (lo := lt) (i := i) (mc := m2) (ea := et) (n := nS) (k := 10) (f := lsF sl nS) (by omega) (by omega) (by omega)) rfl (hP 1 _ rfl) (gV mM_X5_250 mI_Jx4a65c_get_915e3 mS_Jx4a65c_get_915e3 mN_Jx4a65c mC_Jx4a65c_get_915e3) (by decide +kernel) rfl rfl ⟨Nat.le_of_ble_eq_true rfl, Nat.le_of_ble_eq_true rfl⟩ hG hP9 rfl hl.1 rfl (Nat.le_of_ble_eq_true rfl) dX5_play_55 ⟨Nat.le_of_ble_eq_true rfl, Nat.le_of_ble_eq_true rfl⟩) (fun r55 h55 => ?_)
        obtain rfl : r55 = ((lsF sl nS) i) := h55
        refine tpv (y := .ref (sl i)) (lsF_ref (by omega)) ?_
        refine va_castS (nm := RX3) hx hb hown (hts _ mK_X5_183) (hG.K.1 3 _ rfl).2 (rcv hG (hW 1 _ rfl) (ci := 3) rfl) dX5_play_58 ?_
        refine lv_iload_n hx hb dX5_play_61 rfl (lv_at hl 3 rfl) ?_
        refine lv_iload_n hx hb dX5_play_62 rfl (lv_at hl 1 rfl) ?_
        refine lv_iload_n hx hb dX5_play_63 rfl (lv_at hl 2 rfl) ?_
        have hP9 := hP.sub (ws' := [oO xo 5 [.ref lc, .ref lt, .ref bo, .ref yo, .ref no], oO no 1 [.ref (g 0), .ref (g 1), .ref (g 2), .ref (g 3), .int S1.2.2], oO (g 0) 2 [.ref (h 0), .int (nI S1.1)], oO (g 1) 2 [.ref (h 1), .int (nI S1.1)], oO (g 2) 2 [.ref (h 2), .int (nI S1.1)], oO (g 3) 2 [.ref (h 3), .int (nI S1.1)], aI D (h 0) 100 (S1.2.1 0), aI D (h 1) 100 (S1.2.1 1), aI D (h 2) 100 (S1.2.1 2), aI D (h 3) 100 (S1.2.1 3)]) [0, 2, 3, 4, 5, 6, 7, 8, 9, 10] rfl
        have hD9 := (hD.sub (ws' := [oO xo 5 [.ref lc, .ref lt, .ref bo, .ref yo, .ref no], oO no 1 [.ref (g 0), .ref (g 1), .ref (g 2), .ref (g 3), .int S1.2.2], oO (g 0) 2 [.ref (h 0), .int (nI S1.1)], oO (g 1) 2 [.ref (h 1), .int (nI S1.1)], oO (g 2) 2 [.ref (h 2), .int (nI S1.1)], oO (g 3) 2 [.ref (h 3), .int (nI S1.1)], aI D (h 0) 100 (S1.2.1 0), aI D (h 1) 100 (S1.2.1 1), aI D (h 2) 100 (S1.2.1 2), aI D (h 3) 100 (S1.2.1 3)]) [0, 2, 3, 4, 5, 6, 7, 8, 9, 10] (by decide) rfl).weaken (B := fun _ => True) (fun _ _ _ _ => trivial)
        refine kv (wr := [oO lt 7 [.int m2, .ref et, .int (nI nS)]]) (rVX (FX.blind) (((FX.one hX (i := i) (by omega)).sub [1, 2, 3, 4, 5, 6, 7] (fun _ => rfl)).pre hS (va_free' hD hS hA [0, 2, 3, 4, 5, 6, 7, 8, 9, 10] rfl).2) (rest := []) (qc := (RX5, TX5, 5)) [.ref (sl i), .int (nI i), .int x, .int y] 4 0 0 hC (c_noteCues l D (so := sl i) (co := cl (ck i)) (ta := ta (ck i)) (nc := nc (ck i)) (RR := RR i) (num := i) (q := q (ck i)) (b := b (ck i)) (t := t (ck i)) (g := g) (h := h) (len := len (ck i)) (pt := pt i) (ct := ct (ck i)) (cn := cn (ck i)) (f := S1.2.1) (k := S1.1) (cnt := S1.2.2) (xo := xo) (x := x) (y := y) (lc := lc) (lt := lt) (bo := bo) (yo := yo) (no := no) (hz0 := H.size) (hk1) (hnc i (by omega)) (hp i (by omega)) (hR i (by omega)) (hR9 i (by omega))) rfl (hP 0 _ rfl) (gV mM_X5_270 mI_X5_noteCues mS_X5_noteCues mN_X5 mC_X5_noteCues) (by decide +kernel) rfl rfl ⟨Nat.le_of_ble_eq_true rfl, Nat.le_of_ble_eq_true rfl⟩ hG hP9 hD9 rfl hl.1 rfl (Nat.le_of_ble_eq_true rfl) dX5_play_64 ⟨Nat.le_of_ble_eq_true rfl, Nat.le_of_ble_eq_true rfl⟩) hP hD hS hA [0, 2, 3, 4, 5, 6, 7, 8, 9, 10] [1] rfl rfl (by decide) (by decide) (fun u64 H locs h64 hP hD hS hz hfr => ?_)
        have hP : va_P D cls [oO lt 7 [.int m2, .ref et, .int (nI nS)], oO xo 5 [.ref lc, .ref lt, .ref bo, .ref yo, .ref no], oO no 1 [.ref (g 0), .ref (g 1), .ref (g 2), .ref (g 3), .int ((ncA (len (ck i)) (pt i) (ct (ck i)) (cn (ck i)) x y i (nc (ck i)) (S1.1, S1.2.1, S1.2.2) (RR i)).2.2)], oO (g 0) 2 [.ref (h 0), .int (nI ((ncA (len (ck i)) (pt i) (ct (ck i)) (cn (ck i)) x y i (nc (ck i)) (S1.1, S1.2.1, S1.2.2) (RR i)).1))], oO (g 1) 2 [.ref (h 1), .int (nI ((ncA (len (ck i)) (pt i) (ct (ck i)) (cn (ck i)) x y i (nc (ck i)) (S1.1, S1.2.1, S1.2.2) (RR i)).1))], oO (g 2) 2 [.ref (h 2), .int (nI ((ncA (len (ck i)) (pt i) (ct (ck i)) (cn (ck i)) x y i (nc (ck i)) (S1.1, S1.2.1, S1.2.2) (RR i)).1))], oO (g 3) 2 [.ref (h 3), .int (nI ((ncA (len (ck i)) (pt i) (ct (ck i)) (cn (ck i)) x y i (nc (ck i)) (S1.1, S1.2.1, S1.2.2) (RR i)).1))], aI D (h 0) 100 ((ncA (len (ck i)) (pt i) (ct (ck i)) (cn (ck i)) x y i (nc (ck i)) (S1.1, S1.2.1, S1.2.2) (RR i)).2.1 0), aI D (h 1) 100 ((ncA (len (ck i)) (pt i) (ct (ck i)) (cn (ck i)) x y i (nc (ck i)) (S1.1, S1.2.1, S1.2.2) (RR i)).2.1 1), aI D (h 2) 100 ((ncA (len (ck i)) (pt i) (ct (ck i)) (cn (ck i)) x y i (nc (ck i)) (S1.1, S1.2.1, S1.2.2) (RR i)).2.1 2), aI D (h 3) 100 ((ncA (len (ck i)) (pt i) (ct (ck i)) (cn (ck i)) x y i (nc (ck i)) (S1.1, S1.2.1, S1.2.2) (RR i)).2.1 3)] H := hP
        have hD : va_D A [oO lt 7 [.int m2, .ref et, .int (nI nS)], oO xo 5 [.ref lc, .ref lt, .ref bo, .ref yo, .ref no], oO no 1 [.ref (g 0), .ref (g 1), .ref (g 2), .ref (g 3), .int ((ncA (len (ck i)) (pt i) (ct (ck i)) (cn (ck i)) x y i (nc (ck i)) (S1.1, S1.2.1, S1.2.2) (RR i)).2.2)], oO (g 0) 2 [.ref (h 0), .int (nI ((ncA (len (ck i)) (pt i) (ct (ck i)) (cn (ck i)) x y i (nc (ck i)) (S1.1, S1.2.1, S1.2.2) (RR i)).1))], oO (g 1) 2 [.ref (h 1), .int (nI ((ncA (len (ck i)) (pt i) (ct (ck i)) (cn (ck i)) x y i (nc (ck i)) (S1.1, S1.2.1, S1.2.2) (RR i)).1))], oO (g 2) 2 [.ref (h 2), .int (nI ((ncA (len (ck i)) (pt i) (ct (ck i)) (cn (ck i)) x y i (nc (ck i)) (S1.1, S1.2.1, S1.2.2) (RR i)).1))], oO (g 3) 2 [.ref (h 3), .int (nI ((ncA (len (ck i)) (pt i) (ct (ck i)) (cn (ck i)) x y i (nc (ck i)) (S1.1, S1.2.1, S1.2.2) (RR i)).1))], aI D (h 0) 100 ((ncA (len (ck i)) (pt i) (ct (ck i)) (cn (ck i)) x y i (nc (ck i)) (S1.1, S1.2.1, S1.2.2) (RR i)).2.1 0), aI D (h 1) 100 ((ncA (len (ck i)) (pt i) (ct (ck i)) (cn (ck i)) x y i (nc (ck i)) (S1.1, S1.2.1, S1.2.2) (RR i)).2.1 1), aI D (h 2) 100 ((ncA (len (ck i)) (pt i) (ct (ck i)) (cn (ck i)) x y i (nc (ck i)) (S1.1, S1.2.1, S1.2.2) (RR i)).2.1 2), aI D (h 3) 100 ((ncA (len (ck i)) (pt i) (ct (ck i)) (cn (ck i)) x y i (nc (ck i)) (S1.1, S1.2.1, S1.2.2) (RR i)).2.1 3)] := hD
        refine lv_iinc (v := nI (i + 1)) (lv' := [(3, .int (nI (i + 1))), (0, .ref xo), (1, .int x), (2, .int y)]) hx hb dX5_play_67 hl (k := 3) rfl (nI_1 _) (by decide) rfl (fun ls hl => ?_)
        refine lv_goto (tgt := 38) hx hb dX5_play_70 (by decide) ?_
        exact ih38 (i + 1) (ncA (len (ck i)) (pt i) (ct (ck i)) (cn (ck i)) x y i (nc (ck i)) S1 (RR i)) (by omega) (by omega) (by rw [ncP, ← hS1]) (ncA_le hk1) _ _ _ (hP.sub [1, 0, 2, 3, 4, 5, 6, 7, 8, 9, 10] rfl) (hD.sub [1, 0, 2, 3, 4, 5, 6, 7, 8, 9, 10] (by decide) rfl) hS (lv_sub hl [1, 2, 3, 0] rfl)
  exact loop38 _ 0 (0, f, 0) (Nat.lt_succ_self _) (by omega) (rfl) (Nat.zero_le _) _ _ _ hP hD hS (lv_sub hl [1, 2, 3, 0] rfl)
