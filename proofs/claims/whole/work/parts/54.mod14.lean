/-- the cues behind a place have moved up by one place of four cells -/
def sh4 (f : Nat → Int32) (k n : Nat) : Nat → Int32 := fun p => if 4 * k + 4 ≤ p ∧ p < 4 * n + 4 then f (p - 4) else f p
def nt4 (x y z u : Int32) (w : Nat) : Int32 := if w = 0 then x else if w = 1 then y else if w = 2 then z else u
def in4 (f : Nat → Int32) (d n : Nat) (x y z u : Int32) : Nat → Int32 := fun p => if 4 * d ≤ p ∧ p < 4 * d + 4 then nt4 x y z u (p - 4 * d) else sh4 f d n p
theorem sh4_self (f : Nat → Int32) (n : Nat) : sh4 f n n = f := by
  funext p
  rw [sh4, if_neg (by omega)]
theorem sh4_step {f : Nat → Int32} {k n : Nat} (h0 : 0 < k) (h : k ≤ n) : va_cpy (sh4 f k n) (sh4 f k n) (4 * k - 4) (4 * k) 4 = sh4 f (k - 1) n := by
  funext p
  rw [va_cpy]
  by_cases e : 4 * k ≤ p ∧ p < 4 * k + 4
  · rw [if_pos e, sh4, sh4, if_neg (by omega), if_pos (by omega)]
    congr 1
    omega
  · rw [if_neg e, sh4, sh4]
    by_cases e2 : 4 * k + 4 ≤ p ∧ p < 4 * n + 4
    · rw [if_pos e2, if_pos (by omega)]
    · rw [if_neg e2, if_neg (by omega)]
theorem nt4_is (x y z u : Int32) (w : Nat) (h : w < 4) : upd (upd (upd (upd (fun _ => 0) 0 x) 1 y) 2 z) 3 u w = nt4 x y z u w := by
  rcases (show w = 0 ∨ w = 1 ∨ w = 2 ∨ w = 3 by omega) with rfl | rfl | rfl | rfl <;> rfl
theorem in4_cpy (f : Nat → Int32) (d n : Nat) (x y z u : Int32) : va_cpy (upd (upd (upd (upd (fun _ => 0) 0 x) 1 y) 2 z) 3 u) (sh4 f d n) 0 (4 * d) 4 = in4 f d n x y z u := by
  funext p
  rw [va_cpy, in4]
  by_cases e : 4 * d ≤ p ∧ p < 4 * d + 4
  · rw [if_pos e, if_pos e, Nat.zero_add]
    exact nt4_is x y z u _ (by omega)
  · rw [if_neg e, if_neg e]
theorem cntLe_gt {f : Nat → Int32} {x : Int32} : ∀ {n : Nat} (q : Nat), cntLe f x n ≤ q → q < n → x < f q
  | 0, q, _, h => absurd h (Nat.not_lt_zero _)
  | n + 1, q, h1, h2 => by
    rw [cntLe] at h1
    by_cases e : f n ≤ x
    · rw [if_pos e] at h1
      omega
    · rw [if_neg e] at h1
      by_cases e2 : q = n
      · rw [e2]
        exact Int32.not_le.mp e
      · exact cntLe_gt q h1 (by omega)
theorem cntLe_last {f : Nat → Int32} {x : Int32} : ∀ {n : Nat}, 0 < cntLe f x n → f (cntLe f x n - 1) ≤ x
  | 0, h => absurd h (Nat.lt_irrefl 0)
  | n + 1, h => by
    rw [cntLe] at h ⊢
    by_cases e : f n ≤ x
    · rw [if_pos e]
      exact e
    · rw [if_neg e] at h ⊢
      exact cntLe_last h
theorem in4_at {f : Nat → Int32} {d n q w : Nat} {x y z u : Int32} (hw : w < 4) (hq : q ≤ n) : in4 f d n x y z u (4 * q + w) = if q = d then nt4 x y z u w else if d < q then f (4 * (q - 1) + w) else f (4 * q + w) := by
  rw [in4]
  by_cases e : q = d
  · rw [if_pos (by omega), if_pos e]
    congr 1
    omega
  · rw [if_neg (by omega), if_neg e, sh4]
    by_cases e2 : d < q
    · rw [if_pos (by omega), if_pos e2]
      congr 1
      omega
    · rw [if_neg (by omega), if_neg e2]
/-- all the cues that are met stand in a row, the first hundred of them in the class's notes -/
def NR (S : NS) (M : Nat) (mq : Nat → Int32) : Prop := S.1 = min M 100 ∧ S.2.2 = nI M ∧ (∀ q, q < min M 100 → ∀ w, w < 4 → S.2.1 w q = mq (4 * q + w)) ∧ ∀ a b, a < b → b < M → mq (4 * a) ≤ mq (4 * b)
theorem NR_0 (f : Nat → Nat → Int32) (mq : Nat → Int32) : NR (0, f, 0) 0 mq := ⟨rfl, rfl, fun q h => absurd h (by omega), fun a b h1 h2 => absurd h2 (Nat.not_lt_zero _)⟩
theorem NR_step {S : NS} {M : Nat} {mq : Nat → Int32} {x y z u : Int32} (h : NR S M mq) : NR (noteS x y z u S) (M + 1) (in4 mq (cntLe (fun q => mq (4 * q)) x M) M x y z u) := by
  obtain ⟨h1, h2, h3, h4⟩ := h
  obtain ⟨d, hd⟩ : ∃ d, d = cntLe (fun q => mq (4 * q)) x M := ⟨_, rfl⟩
  have hdM : d ≤ M := by rw [hd]; exact cntLe_le _ _ _
  have hgt : ∀ q, d ≤ q → q < M → x < mq (4 * q) := fun q a b => cntLe_gt (f := fun q => mq (4 * q)) (n := M) q (by rw [← hd]; exact a) b
  have hle : ∀ q, q < d → mq (4 * q) ≤ x := fun q a => by
    have l := cntLe_last (f := fun q => mq (4 * q)) (x := x) (n := M) (by rw [← hd]; omega)
    rw [← hd] at l
    by_cases e : q = d - 1
    · rw [e]; exact l
    · exact Int32.le_trans (h4 q (d - 1) (by omega) (by omega)) l
  have hc : cntLe (S.2.1 0) x S.1 = min d (min M 100) := by
    rw [h1]
    refine cntLe_is (Nat.min_le_right _ _) (fun k hk => ?_) (fun k a b => ?_)
    · rw [h3 k (by omega) 0 (by omega)]
      exact Int32.not_lt.mpr (hle k (by omega))
    · rw [h3 k (by omega) 0 (by omega)]
      exact hgt k (by omega) (by omega)
  rw [← hd]
  have ord : ∀ a b, a < b → b < M + 1 → in4 mq d M x y z u (4 * a) ≤ in4 mq d M x y z u (4 * b) := fun a b hab hb => by
    rw [show 4 * a = 4 * a + 0 by omega, show 4 * b = 4 * b + 0 by omega, in4_at (by omega) (by omega), in4_at (by omega) (by omega)]
    show (if a = d then x else if d < a then mq (4 * (a - 1)) else mq (4 * a)) ≤ (if b = d then x else if d < b then mq (4 * (b - 1)) else mq (4 * b))
    by_cases a1 : a = d
    · rw [if_pos a1, if_neg (by omega), if_pos (by omega)]
      exact Int32.le_of_lt (hgt _ (by omega) (by omega))
    · rw [if_neg a1]
      by_cases a2 : d < a
      · rw [if_pos a2, if_neg (by omega), if_pos (by omega)]
        exact h4 _ _ (by omega) (by omega)
      · rw [if_neg a2]
        by_cases b1 : b = d
        · rw [if_pos b1]
          exact hle a (by omega)
        · rw [if_neg b1]
          by_cases b2 : d < b
          · rw [if_pos b2]
            exact Int32.le_trans (hle a (by omega)) (Int32.le_of_lt (hgt _ (by omega) (by omega)))
          · rw [if_neg b2]
            exact h4 _ _ hab (by omega)
  by_cases e : d < 100
  · have e2 : min d (min M 100) = d := by omega
    rw [noteS, hc, e2, if_pos e]
    refine ⟨?_, ?_, fun q hq w hw => ?_, ord⟩
    · show min 99 S.1 + 1 = _
      omega
    · show S.2.2 + 1 = _
      rw [h2]
      exact nI_1 M
    · show noteF S.2.1 x y z u S.1 w q = _
      rw [noteF, hc, e2, in4_at hw (by omega), insF_at]
      by_cases a1 : q = d
      · rw [if_pos a1, if_pos a1]
        rfl
      · rw [if_neg a1, if_neg a1]
        by_cases a2 : d < q
        · rw [if_pos (by omega), if_pos a2, h3 (q - 1) (by omega) w hw]
        · rw [if_neg (by omega), if_neg a2, h3 q (by omega) w hw]
  · have e2 : min d (min M 100) = 100 := by omega
    rw [noteS, hc, e2, if_neg (by omega)]
    refine ⟨?_, ?_, fun q hq w hw => ?_, ord⟩
    · show S.1 = _
      omega
    · show S.2.2 + 1 = _
      rw [h2]
      exact nI_1 M
    · show S.2.1 w q = _
      rw [in4_at hw (by omega), if_neg (by omega), if_neg (by omega)]
      exact h3 q (by omega) w hw
set_option maxHeartbeats 400000 in
set_option maxRecDepth 100000 in
theorem m_note (l : Launch) (D : va_G) {mo a1 a2 a3 a4 a5 a6 a7 a8 a9 a10 a11 nC nS nM : Nat} {th : Int32} {mm : Nat → Int32} {d : Nat} {x y z u : Int32} (hz0 : Nat) (hM : nM < 720) (hd : d ≤ nM) (hgt : ∀ q, d ≤ q → q < nM → x < mm (4 * q)) (hle : 0 < d → ¬ x < mm (4 * (d - 1))) : Met l yX6_note (ws_ yX6_note cX6_note 7 none) ({ frames := 1, cells := 1, slots := 4, locals := 54 } : Room) (va_Pc [.ref mo, .int x, .int y, .int z, .int u] (SW D [oO mo 6 [.int th, .ref a1, .int (nI nC), .ref a2, .ref a3, .ref a4, .ref a5, .ref a6, .ref a7, .ref a8, .ref a9, .int (nI nS), .ref a10, .int (nI nM), .ref a11], aI D a11 2880 mm] hz0)) (va_Qv (fun _ => True) (AT D (va_A [oO mo 6 [.int th, .ref a1, .int (nI nC), .ref a2, .ref a3, .ref a4, .ref a5, .ref a6, .ref a7, .ref a8, .ref a9, .int (nI nS), .ref a10, .int (nI nM), .ref a11], aI D a11 2880 mm] hz0) (fun _ : Unit => [oO mo 6 [.int th, .ref a1, .int (nI nC), .ref a2, .ref a3, .ref a4, .ref a5, .ref a6, .ref a7, .ref a8, .ref a9, .int (nI nS), .ref a10, .int (nI (nM + 1)), .ref a11], aI D a11 2880 (in4 mm d nM x y z u)])) (va_A [oO mo 6 [.int th, .ref a1, .int (nI nC), .ref a2, .ref a3, .ref a4, .ref a5, .ref a6, .ref a7, .ref a8, .ref a9, .int (nI nS), .ref a10, .int (nI nM), .ref a11], aI D a11 2880 mm] hz0)) 1 4 (va_A [oO mo 6 [.int th, .ref a1, .int (nI nC), .ref a2, .ref a3, .ref a4, .ref a5, .ref a6, .ref a7, .ref a8, .ref a9, .int (nI nS), .ref a10, .int (nI nM), .ref a11], aI D a11 2880 mm] hz0) := by
  refine Met.ofW (cc := cX6_note) (maxL := 7) (ret := none) (by decide) rfl ?_
  intro p e s m args below meth c s₁ B hml hv
  obtain ⟨rfl, hsz, hG, hP, hD0⟩ := hv
  have hx := B.exec
  have hb := B.bytes
  have hr := B.returns
  have hts : ∀ w ∈ wsL_law, w.before _ s = true := fun w h => atoms_spec (ws := (ws_ yX6_note cX6_note 7 none)) B.pre w (List.mem_cons_of_mem _ h)
  have hown : s.vm.findClass RX6 = some m.cls := findClass_of_methodNamed B.named
  have hlk := B.notSynchronized
  have hC : CallFix p m c cX6_note 7 s _ wsL_law RX6 := ⟨hx, hb, hml, hown, hts⟩
  subst hsz
  have hD := hD0.self (sz := s.heap.size)
  generalize hAe : va_A [oO mo 6 [.int th, .ref a1, .int (nI nC), .ref a2, .ref a3, .ref a4, .ref a5, .ref a6, .ref a7, .ref a8, .ref a9, .int (nI nS), .ref a10, .int (nI nM), .ref a11], aI D a11 2880 mm] s.heap.size = A at hD ⊢
  have hA : ∀ q : Nat, s.heap.size ≤ q → A q := fun q h => by rw [← hAe]; exact Or.inr h
  have hS : va_S A s.heap s.heap [] := va_S.rf
  obtain ⟨H, hHe⟩ : ∃ H, H = s.heap := ⟨_, rfl⟩
  rw [← hHe] at hP
  have hS : va_S A s.heap H [] := by rw [hHe]; exact hS
  have hl := lv_entry ([.ref mo, .int x, .int y, .int z, .int u]) (n := 7) (Nat.le_of_ble_eq_true rfl)
  rw [lg_entry_eq]
  generalize (lg_sl ([.ref mo, .int x, .int y, .int z, .int u]) ++ List.replicate (7 - (lg_sl ([.ref mo, .int x, .int y, .int z, .int u])).length) Slot.unset).toArray = ls at hl ⊢
  have hl : lv_has ls 7 [(0, .ref mo), (1, .int x), (2, .int y), (3, .int z), (4, .int u)] := hl
  rw [← hHe]
  refine lv_iconst (v := 4) hx hb dX6_note_0 (by decide) ?_
  refine narI (N := 4) hx hb hG hts hP hD hS hA (by decide) (by decide) (by omega) (Nat.le_of_ble_eq_true rfl) (by first | exact Nat.le_of_ble_eq_true rfl | exact Nat.le_of_eq (Nat.zero_add _)) dX6_note_1 (fun ow H hP hD hS => ?_)
  have hP : va_P D cls [oO mo 6 [.int th, .ref a1, .int (nI nC), .ref a2, .ref a3, .ref a4, .ref a5, .ref a6, .ref a7, .ref a8, .ref a9, .int (nI nS), .ref a10, .int (nI nM), .ref a11], aI D a11 2880 mm, aI D ow 4 (fun _ => 0)] H := hP
  have hD : va_D A [oO mo 6 [.int th, .ref a1, .int (nI nC), .ref a2, .ref a3, .ref a4, .ref a5, .ref a6, .ref a7, .ref a8, .ref a9, .int (nI nS), .ref a10, .int (nI nM), .ref a11], aI D a11 2880 mm, aI D ow 4 (fun _ => 0)] := hD
  refine lv_dup hx hb dX6_note_3 rfl ?_
  refine lv_iconst (v := 0) hx hb dX6_note_4 (by decide) ?_
  refine lv_iload_n hx hb dX6_note_5 rfl (lv_at hl 1 rfl) ?_
  refine ist (n := 4) (j := 0) hx hb hG hP hD hS 2 rfl (by omega) (by omega) dX6_note_6 (fun H locs hP hD hS => ?_)
  have hP : va_P D cls [oO mo 6 [.int th, .ref a1, .int (nI nC), .ref a2, .ref a3, .ref a4, .ref a5, .ref a6, .ref a7, .ref a8, .ref a9, .int (nI nS), .ref a10, .int (nI nM), .ref a11], aI D a11 2880 mm, aI D ow 4 (upd (fun _ => 0) 0 x)] H := hP
  have hD : va_D A [oO mo 6 [.int th, .ref a1, .int (nI nC), .ref a2, .ref a3, .ref a4, .ref a5, .ref a6, .ref a7, .ref a8, .ref a9, .int (nI nS), .ref a10, .int (nI nM), .ref a11], aI D a11 2880 mm, aI D ow 4 (upd (fun _ => 0) 0 x)] := hD
  refine lv_dup hx hb dX6_note_7 rfl ?_
  refine lv_iconst (v := 1) hx hb dX6_note_8 (by decide) ?_
  refine lv_iload_n hx hb dX6_note_9 rfl (lv_at hl 2 rfl) ?_
  refine ist (n := 4) (j := 1) hx hb hG hP hD hS 2 rfl (by omega) (by omega) dX6_note_10 (fun H locs hP hD hS => ?_)
  have hP : va_P D cls [oO mo 6 [.int th, .ref a1, .int (nI nC), .ref a2, .ref a3, .ref a4, .ref a5, .ref a6, .ref a7, .ref a8, .ref a9, .int (nI nS), .ref a10, .int (nI nM), .ref a11], aI D a11 2880 mm, aI D ow 4 (upd (upd (fun _ => 0) 0 x) 1 y)] H := hP
  have hD : va_D A [oO mo 6 [.int th, .ref a1, .int (nI nC), .ref a2, .ref a3, .ref a4, .ref a5, .ref a6, .ref a7, .ref a8, .ref a9, .int (nI nS), .ref a10, .int (nI nM), .ref a11], aI D a11 2880 mm, aI D ow 4 (upd (upd (fun _ => 0) 0 x) 1 y)] := hD
  refine lv_dup hx hb dX6_note_11 rfl ?_
  refine lv_iconst (v := 2) hx hb dX6_note_12 (by decide) ?_
  refine lv_iload_n hx hb dX6_note_13 rfl (lv_at hl 3 rfl) ?_
  refine ist (n := 4) (j := 2) hx hb hG hP hD hS 2 rfl (by omega) (by omega) dX6_note_14 (fun H locs hP hD hS => ?_)
  have hP : va_P D cls [oO mo 6 [.int th, .ref a1, .int (nI nC), .ref a2, .ref a3, .ref a4, .ref a5, .ref a6, .ref a7, .ref a8, .ref a9, .int (nI nS), .ref a10, .int (nI nM), .ref a11], aI D a11 2880 mm, aI D ow 4 (upd (upd (upd (fun _ => 0) 0 x) 1 y) 2 z)] H := hP
  have hD : va_D A [oO mo 6 [.int th, .ref a1, .int (nI nC), .ref a2, .ref a3, .ref a4, .ref a5, .ref a6, .ref a7, .ref a8, .ref a9, .int (nI nS), .ref a10, .int (nI nM), .ref a11], aI D a11 2880 mm, aI D ow 4 (upd (upd (upd (fun _ => 0) 0 x) 1 y) 2 z)] := hD
  refine lv_dup hx hb dX6_note_15 rfl ?_
  refine lv_iconst (v := 3) hx hb dX6_note_16 (by decide) ?_
  refine lv_iload hx hb dX6_note_17 (lv_at hl 4 rfl) ?_
  refine ist (n := 4) (j := 3) hx hb hG hP hD hS 2 rfl (by omega) (by omega) dX6_note_19 (fun H locs hP hD hS => ?_)
  have hP : va_P D cls [oO mo 6 [.int th, .ref a1, .int (nI nC), .ref a2, .ref a3, .ref a4, .ref a5, .ref a6, .ref a7, .ref a8, .ref a9, .int (nI nS), .ref a10, .int (nI nM), .ref a11], aI D a11 2880 mm, aI D ow 4 (upd (upd (upd (upd (fun _ => 0) 0 x) 1 y) 2 z) 3 u)] H := hP
  have hD : va_D A [oO mo 6 [.int th, .ref a1, .int (nI nC), .ref a2, .ref a3, .ref a4, .ref a5, .ref a6, .ref a7, .ref a8, .ref a9, .int (nI nS), .ref a10, .int (nI nM), .ref a11], aI D a11 2880 mm, aI D ow 4 (upd (upd (upd (upd (fun _ => 0) 0 x) 1 y) 2 z) 3 u)] := hD
  refine lv_astore (lv' := [(5, .ref ow), (0, .ref mo), (1, .int x), (2, .int y), (3, .int z), (4, .int u)]) hx hb dX6_note_20 hl (by decide) rfl (fun ls hl => ?_)
  refine lv_aload_n hx hb dX6_note_22 rfl (lv_at hl 1 rfl) ?_
  refine va_get (D := D) (ci := 6) (v := .int (nI nM)) (C := RX6) (T := TX6) (N := 15) hx hb hts inlX6 hown hG.K hP 0 rfl rfl 13 (by decide) (hts _ mF_X6_168) (fun _ h9 => h9) rfl dX6_note_23 ?_
  refine lv_istore (lv' := [(6, .int (nI nM)), (5, .ref ow), (0, .ref mo), (1, .int x), (2, .int y), (3, .int z), (4, .int u)]) hx hb dX6_note_26 hl (by decide) rfl (fun ls hl => ?_)
  have loop28 : ∀ (d9 : Nat) (k : Nat), k < d9 → (d ≤ k) → (k ≤ nM) → ∀ (H : Heap) (locs : List Loc) (ls : Array Slot), va_P D cls [oO mo 6 [.int th, .ref a1, .int (nI nC), .ref a2, .ref a3, .ref a4, .ref a5, .ref a6, .ref a7, .ref a8, .ref a9, .int (nI nS), .ref a10, .int (nI nM), .ref a11], aI D a11 2880 (sh4 mm k nM), aI D ow 4 (upd (upd (upd (upd (fun _ => 0) 0 x) 1 y) 2 z) 3 u)] H → va_D A [oO mo 6 [.int th, .ref a1, .int (nI nC), .ref a2, .ref a3, .ref a4, .ref a5, .ref a6, .ref a7, .ref a8, .ref a9, .int (nI nS), .ref a10, .int (nI nM), .ref a11], aI D a11 2880 (sh4 mm k nM), aI D ow 4 (upd (upd (upd (upd (fun _ => 0) 0 x) 1 y) 2 z) 3 u)] → va_S A s.heap H locs → lv_has ls 7 [(0, .ref mo), (1, .int x), (2, .int y), (3, .int z), (4, .int u), (5, .ref ow), (6, .int (nI k))] → W p l e ({ frames := 1, cells := 1, slots := 4, locals := 54 } : Room) s m ([.ref mo, .int x, .int y, .int z, .int u] : List Value).toArray below meth c H locs 1 4 (MQ below (va_Qv (fun _ => True) (AT D A (fun _ : Unit => [oO mo 6 [.int th, .ref a1, .int (nI nC), .ref a2, .ref a3, .ref a4, .ref a5, .ref a6, .ref a7, .ref a8, .ref a9, .int (nI nS), .ref a10, .int (nI (nM + 1)), .ref a11], aI D a11 2880 (in4 mm d nM x y z u)])) A) ([.ref mo, .int x, .int y, .int z, .int u] : List Value).toArray s 1 4 A) (F0 m 28 ls []) := by
    intro d9
    induction d9 with
    | zero => intro k hd; exact absurd hd (Nat.not_lt_zero _)
    | succ d9 ih28 =>
      intro k hd28 hk1 hk2 H locs ls hP hD hS hl
      refine lv_iload hx hb dX6_note_28 (lv_at hl 6 rfl) ?_
      refine lv_if_le (tgt := 76) hx hb dX6_note_30 (by decide) (fun c30 => ?_) (fun c30 => ?_)
      · skip
        have n30 := (nI_leI (a := k) (b := 0) (by omega) (by omega)).mp c30
        have hk9 : k = d := by omega
        subst k
        refine lv_aload hx hb dX6_note_76 (lv_at hl 5 rfl) ?_
        refine lv_iconst (v := 0) hx hb dX6_note_78 (by decide) ?_
        refine lv_aload_n hx hb dX6_note_79 rfl (lv_at hl 0 rfl) ?_
        refine va_get (D := D) (ci := 6) (v := .ref a11) (C := RX6) (T := TX6) (N := 15) hx hb hts inlX6 hown hG.K hP 0 rfl rfl 14 (by decide) (hts _ mF_X6_40) (fun _ h9 => h9) rfl dX6_note_80 ?_
        refine lv_iconst (v := 4) hx hb dX6_note_83 (by decide) ?_
        refine lv_iload hx hb dX6_note_84 (lv_at hl 6 rfl) ?_
        refine lv_imul hx hb dX6_note_86 ?_
        refine tpi (y := nI (4 * d)) (pk_mul 4 d) ?_
        refine lv_iconst (v := 4) hx hb dX6_note_87 (by decide) ?_
        refine cpi (n0 := 4) (n1 := 2880) (sp := 0) (dp := 4 * d) (n := 4) hx hb (by rw [hml]; exact hl.1.symm) hown (hts _ mM_X6_111) hts hG hP hD hS 2 1 rfl rfl (by omega) (by omega) (by omega) (by omega) (by omega) (Nat.le_of_ble_eq_true rfl) (Nat.le_of_ble_eq_true rfl) dX6_note_88 (fun H locs hP hD hS => ?_)
        have hfn : va_cpy (upd (upd (upd (upd (fun _ => 0) 0 x) 1 y) 2 z) 3 u) (sh4 mm d nM) 0 (4 * d) 4 = (in4 mm d nM x y z u) := in4_cpy _ _ _ _ _ _ _
        have hP : va_P D cls [oO mo 6 [.int th, .ref a1, .int (nI nC), .ref a2, .ref a3, .ref a4, .ref a5, .ref a6, .ref a7, .ref a8, .ref a9, .int (nI nS), .ref a10, .int (nI nM), .ref a11], aI D a11 2880 (in4 mm d nM x y z u), aI D ow 4 (upd (upd (upd (upd (fun _ => 0) 0 x) 1 y) 2 z) 3 u)] H := by rw [← hfn]; exact hP
        have hD : va_D A [oO mo 6 [.int th, .ref a1, .int (nI nC), .ref a2, .ref a3, .ref a4, .ref a5, .ref a6, .ref a7, .ref a8, .ref a9, .int (nI nS), .ref a10, .int (nI nM), .ref a11], aI D a11 2880 (in4 mm d nM x y z u), aI D ow 4 (upd (upd (upd (upd (fun _ => 0) 0 x) 1 y) 2 z) 3 u)] := by rw [← hfn]; exact hD
        refine lv_aload_n hx hb dX6_note_91 rfl (lv_at hl 0 rfl) ?_
        refine lv_dup hx hb dX6_note_92 rfl ?_
        refine va_get (D := D) (ci := 6) (v := .int (nI nM)) (C := RX6) (T := TX6) (N := 15) hx hb hts inlX6 hown hG.K hP 0 rfl rfl 13 (by decide) (hts _ mF_X6_168) (fun _ h9 => h9) rfl dX6_note_93 ?_
        refine lv_iconst (v := 1) hx hb dX6_note_96 (by decide) ?_
        refine lv_iadd hx hb dX6_note_97 ?_
        refine tpi (y := nI (nM + 1)) (nI_add nM 1) ?_
        refine va_put (D := D) (ci := 6) (v := .int (nI (nM + 1))) (ty := .int) (C := RX6) (T := TX6) (N := 15) hx hb hts inlX6 tyX6 tyX6_ok nmX6 hown hG.K hP hD hS 0 rfl rfl 13 (by decide) (hts _ mF_X6_168) (fun _ h9 => h9) rfl (by decide +kernel) rfl rfl (Nat.le_of_ble_eq_true rfl) dX6_note_98 (fun H locs hP hD hS => ?_)
        have hP : va_P D cls [oO mo 6 [.int th, .ref a1, .int (nI nC), .ref a2, .ref a3, .ref a4, .ref a5, .ref a6, .ref a7, .ref a8, .ref a9, .int (nI nS), .ref a10, .int (nI (nM + 1)), .ref a11], aI D a11 2880 (in4 mm d nM x y z u), aI D ow 4 (upd (upd (upd (upd (fun _ => 0) 0 x) 1 y) 2 z) 3 u)] H := hP
        have hD : va_D A [oO mo 6 [.int th, .ref a1, .int (nI nC), .ref a2, .ref a3, .ref a4, .ref a5, .ref a6, .ref a7, .ref a8, .ref a9, .int (nI nS), .ref a10, .int (nI (nM + 1)), .ref a11], aI D a11 2880 (in4 mm d nM x y z u), aI D ow 4 (upd (upd (upd (upd (fun _ => 0) 0 x) 1 y) 2 z) 3 u)] := hD
        refine Wv () hx hb hr hlk ?_ (hP.sub [0, 1] rfl) (hD.sub [0, 1] (by decide) rfl) hS (Nat.le_of_ble_eq_true rfl) (by first | exact Nat.le_of_ble_eq_true rfl | exact Nat.le_of_eq (Nat.zero_add _)) dX6_note_101
        exact trivial
      · skip
        have n30 := mt (nI_leI (a := k) (b := 0) (by omega) (by omega)).mpr c30
        refine lv_aload_n hx hb dX6_note_33 rfl (lv_at hl 0 rfl) ?_
        refine va_get (D := D) (ci := 6) (v := .ref a11) (C := RX6) (T := TX6) (N := 15) hx hb hts inlX6 hown hG.K hP 0 rfl rfl 14 (by decide) (hts _ mF_X6_40) (fun _ h9 => h9) rfl dX6_note_34 ?_
        refine lv_iconst (v := 4) hx hb dX6_note_37 (by decide) ?_
        refine lv_iload hx hb dX6_note_38 (lv_at hl 6 rfl) ?_
        refine lv_imul hx hb dX6_note_40 ?_
        refine tpi (y := nI (4 * k)) (pk_mul 4 k) ?_
        refine lv_iconst (v := 4) hx hb dX6_note_41 (by decide) ?_
        refine lv_isub hx hb dX6_note_42 ?_
        refine tpi (y := nI ((4 * k) - 4)) (pk_sub (a := (4 * k)) (b := 4) (by omega)) ?_
        refine ild (n := 2880) (j := (4 * k) - 4) hx hb hG hP 1 rfl (by omega) (by omega) dX6_note_43 ?_
        refine tpi (y := mm (4 * k - 4)) (if_neg (by omega)) ?_
        refine lv_iload_n hx hb dX6_note_44 rfl (lv_at hl 1 rfl) ?_
        refine lv_icmp_le (tgt := 76) hx hb dX6_note_45 (by decide) (fun c45 => ?_) (fun c45 => ?_)
        · skip
          have hk9 : k = d := Nat.le_antisymm (Nat.le_of_not_lt (fun h9 => by
            have q9 := hgt (k - 1) (by omega) (by omega)
            rw [show 4 * (k - 1) = 4 * k - 4 by omega] at q9
            exact absurd q9 (Int32.not_lt.mpr c45))) hk1
          subst k
          refine lv_aload hx hb dX6_note_76 (lv_at hl 5 rfl) ?_
          refine lv_iconst (v := 0) hx hb dX6_note_78 (by decide) ?_
          refine lv_aload_n hx hb dX6_note_79 rfl (lv_at hl 0 rfl) ?_
          refine va_get (D := D) (ci := 6) (v := .ref a11) (C := RX6) (T := TX6) (N := 15) hx hb hts inlX6 hown hG.K hP 0 rfl rfl 14 (by decide) (hts _ mF_X6_40) (fun _ h9 => h9) rfl dX6_note_80 ?_
          refine lv_iconst (v := 4) hx hb dX6_note_83 (by decide) ?_
          refine lv_iload hx hb dX6_note_84 (lv_at hl 6 rfl) ?_
          refine lv_imul hx hb dX6_note_86 ?_
          refine tpi (y := nI (4 * d)) (pk_mul 4 d) ?_
          refine lv_iconst (v := 4) hx hb dX6_note_87 (by decide) ?_
          refine cpi (n0 := 4) (n1 := 2880) (sp := 0) (dp := 4 * d) (n := 4) hx hb (by rw [hml]; exact hl.1.symm) hown (hts _ mM_X6_111) hts hG hP hD hS 2 1 rfl rfl (by omega) (by omega) (by omega) (by omega) (by omega) (Nat.le_of_ble_eq_true rfl) (Nat.le_of_ble_eq_true rfl) dX6_note_88 (fun H locs hP hD hS => ?_)
          have hfn : va_cpy (upd (upd (upd (upd (fun _ => 0) 0 x) 1 y) 2 z) 3 u) (sh4 mm d nM) 0 (4 * d) 4 = (in4 mm d nM x y z u) := in4_cpy _ _ _ _ _ _ _
          have hP : va_P D cls [oO mo 6 [.int th, .ref a1, .int (nI nC), .ref a2, .ref a3, .ref a4, .ref a5, .ref a6, .ref a7, .ref a8, .ref a9, .int (nI nS), .ref a10, .int (nI nM), .ref a11], aI D a11 2880 (in4 mm d nM x y z u), aI D ow 4 (upd (upd (upd (upd (fun _ => 0) 0 x) 1 y) 2 z) 3 u)] H := by rw [← hfn]; exact hP
          have hD : va_D A [oO mo 6 [.int th, .ref a1, .int (nI nC), .ref a2, .ref a3, .ref a4, .ref a5, .ref a6, .ref a7, .ref a8, .ref a9, .int (nI nS), .ref a10, .int (nI nM), .ref a11], aI D a11 2880 (in4 mm d nM x y z u), aI D ow 4 (upd (upd (upd (upd (fun _ => 0) 0 x) 1 y) 2 z) 3 u)] := by rw [← hfn]; exact hD
          refine lv_aload_n hx hb dX6_note_91 rfl (lv_at hl 0 rfl) ?_
          refine lv_dup hx hb dX6_note_92 rfl ?_
          refine va_get (D := D) (ci := 6) (v := .int (nI nM)) (C := RX6) (T := TX6) (N := 15) hx hb hts inlX6 hown hG.K hP 0 rfl rfl 13 (by decide) (hts _ mF_X6_168) (fun _ h9 => h9) rfl dX6_note_93 ?_
          refine lv_iconst (v := 1) hx hb dX6_note_96 (by decide) ?_
          refine lv_iadd hx hb dX6_note_97 ?_
          refine tpi (y := nI (nM + 1)) (nI_add nM 1) ?_
          refine va_put (D := D) (ci := 6) (v := .int (nI (nM + 1))) (ty := .int) (C := RX6) (T := TX6) (N := 15) hx hb hts inlX6 tyX6 tyX6_ok nmX6 hown hG.K hP hD hS 0 rfl rfl 13 (by decide) (hts _ mF_X6_168) (fun _ h9 => h9) rfl (by decide +kernel) rfl rfl (Nat.le_of_ble_eq_true rfl) dX6_note_98 (fun H locs hP hD hS => ?_)
          have hP : va_P D cls [oO mo 6 [.int th, .ref a1, .int (nI nC), .ref a2, .ref a3, .ref a4, .ref a5, .ref a6, .ref a7, .ref a8, .ref a9, .int (nI nS), .ref a10, .int (nI (nM + 1)), .ref a11], aI D a11 2880 (in4 mm d nM x y z u), aI D ow 4 (upd (upd (upd (upd (fun _ => 0) 0 x) 1 y) 2 z) 3 u)] H := hP
          have hD : va_D A [oO mo 6 [.int th, .ref a1, .int (nI nC), .ref a2, .ref a3, .ref a4, .ref a5, .ref a6, .ref a7, .ref a8, .ref a9, .int (nI nS), .ref a10, .int (nI (nM + 1)), .ref a11], aI D a11 2880 (in4 mm d nM x y z u), aI D ow 4 (upd (upd (upd (upd (fun _ => 0) 0 x) 1 y) 2 z) 3 u)] := hD
          refine Wv () hx hb hr hlk ?_ (hP.sub [0, 1] rfl) (hD.sub [0, 1] (by decide) rfl) hS (Nat.le_of_ble_eq_true rfl) (by first | exact Nat.le_of_ble_eq_true rfl | exact Nat.le_of_eq (Nat.zero_add _)) dX6_note_101
          exact trivial
        · skip
          refine lv_aload_n hx hb dX6_note_48 rfl (lv_at hl 0 rfl) ?_
          refine va_get (D := D) (ci := 6) (v := .ref a11) (C := RX6) (T := TX6) (N := 15) hx hb hts inlX6 hown hG.K hP 0 rfl rfl 14 (by decide) (hts _ mF_X6_40) (fun _ h9 => h9) rfl dX6_note_49 ?_
          refine lv_iconst (v := 4) hx hb dX6_note_52 (by decide) ?_
          refine lv_iload hx hb dX6_note_53 (lv_at hl 6 rfl) ?_
          refine lv_imul hx hb dX6_note_55 ?_
          refine tpi (y := nI (4 * k)) (pk_mul 4 k) ?_
          refine lv_iconst (v := 4) hx hb dX6_note_56 (by decide) ?_
          refine lv_isub hx hb dX6_note_57 ?_
          refine tpi (y := nI ((4 * k) - 4)) (pk_sub (a := (4 * k)) (b := 4) (by omega)) ?_
          refine lv_aload_n hx hb dX6_note_58 rfl (lv_at hl 0 rfl) ?_
          refine va_get (D := D) (ci := 6) (v := .ref a11) (C := RX6) (T := TX6) (N := 15) hx hb hts inlX6 hown hG.K hP 0 rfl rfl 14 (by decide) (hts _ mF_X6_40) (fun _ h9 => h9) rfl dX6_note_59 ?_
          refine lv_iconst (v := 4) hx hb dX6_note_62 (by decide) ?_
          refine lv_iload hx hb dX6_note_63 (lv_at hl 6 rfl) ?_
          refine lv_imul hx hb dX6_note_65 ?_
          refine tpi (y := nI (4 * k)) (pk_mul 4 k) ?_
          refine lv_iconst (v := 4) hx hb dX6_note_66 (by decide) ?_
          refine cpi (n0 := 2880) (n1 := 2880) (sp := (4 * k) - 4) (dp := 4 * k) (n := 4) hx hb (by rw [hml]; exact hl.1.symm) hown (hts _ mM_X6_111) hts hG hP hD hS 1 1 rfl rfl (by omega) (by omega) (by omega) (by omega) (by omega) (Nat.le_of_ble_eq_true rfl) (Nat.le_of_ble_eq_true rfl) dX6_note_67 (fun H locs hP hD hS => ?_)
          have hfn : va_cpy (sh4 mm k nM) (sh4 mm k nM) ((4 * k) - 4) (4 * k) 4 = (sh4 mm (k - 1) nM) := sh4_step (by omega) (by omega)
          have hP : va_P D cls [oO mo 6 [.int th, .ref a1, .int (nI nC), .ref a2, .ref a3, .ref a4, .ref a5, .ref a6, .ref a7, .ref a8, .ref a9, .int (nI nS), .ref a10, .int (nI nM), .ref a11], aI D a11 2880 (sh4 mm (k - 1) nM), aI D ow 4 (upd (upd (upd (upd (fun _ => 0) 0 x) 1 y) 2 z) 3 u)] H := by rw [← hfn]; exact hP
          have hD : va_D A [oO mo 6 [.int th, .ref a1, .int (nI nC), .ref a2, .ref a3, .ref a4, .ref a5, .ref a6, .ref a7, .ref a8, .ref a9, .int (nI nS), .ref a10, .int (nI nM), .ref a11], aI D a11 2880 (sh4 mm (k - 1) nM), aI D ow 4 (upd (upd (upd (upd (fun _ => 0) 0 x) 1 y) 2 z) 3 u)] := by rw [← hfn]; exact hD
          refine lv_iinc (v := nI (k - 1)) (lv' := [(6, .int (nI (k - 1))), (0, .ref mo), (1, .int x), (2, .int y), (3, .int z), (4, .int u), (5, .ref ow)]) hx hb dX6_note_70 hl (k := 6) rfl (sb_m1 (by omega)) (by decide) rfl (fun ls hl => ?_)
          refine lv_goto (tgt := 28) hx hb dX6_note_73 (by decide) ?_
          exact ih28 (k - 1) (by omega) (Nat.le_sub_one_of_lt (Nat.lt_of_le_of_ne hk1 (fun h9 => by
                      have q9 := hle (by omega)
                      rw [h9, show 4 * (k - 1) = 4 * k - 4 by omega] at q9
                      exact q9 (Int32.not_le.mp c45)))) (by omega) _ _ _ hP hD hS (lv_sub hl [1, 2, 3, 4, 5, 6, 0] rfl)
  have hcv1 : (sh4 mm nM nM) = mm := sh4_self _ _
  have hP := Eq.mpr (congrArg (fun z9 => va_P D cls [oO mo 6 [.int th, .ref a1, .int (nI nC), .ref a2, .ref a3, .ref a4, .ref a5, .ref a6, .ref a7, .ref a8, .ref a9, .int (nI nS), .ref a10, .int (nI nM), .ref a11], aI D a11 2880 z9, aI D ow 4 (upd (upd (upd (upd (fun _ => 0) 0 x) 1 y) 2 z) 3 u)] H) hcv1) hP
  have hD := Eq.mpr (congrArg (fun z9 => va_D A [oO mo 6 [.int th, .ref a1, .int (nI nC), .ref a2, .ref a3, .ref a4, .ref a5, .ref a6, .ref a7, .ref a8, .ref a9, .int (nI nS), .ref a10, .int (nI nM), .ref a11], aI D a11 2880 z9, aI D ow 4 (upd (upd (upd (upd (fun _ => 0) 0 x) 1 y) 2 z) 3 u)]) hcv1) hD
  have hP : va_P D cls [oO mo 6 [.int th, .ref a1, .int (nI nC), .ref a2, .ref a3, .ref a4, .ref a5, .ref a6, .ref a7, .ref a8, .ref a9, .int (nI nS), .ref a10, .int (nI nM), .ref a11], aI D a11 2880 (sh4 mm nM nM), aI D ow 4 (upd (upd (upd (upd (fun _ => 0) 0 x) 1 y) 2 z) 3 u)] H := hP
  have hD : va_D A [oO mo 6 [.int th, .ref a1, .int (nI nC), .ref a2, .ref a3, .ref a4, .ref a5, .ref a6, .ref a7, .ref a8, .ref a9, .int (nI nS), .ref a10, .int (nI nM), .ref a11], aI D a11 2880 (sh4 mm nM nM), aI D ow 4 (upd (upd (upd (upd (fun _ => 0) 0 x) 1 y) 2 z) 3 u)] := hD
  exact loop28 _ nM (Nat.lt_succ_self _) (by omega) (by omega) _ _ _ hP hD hS (lv_sub hl [2, 3, 4, 5, 6, 1, 0] rfl)
set_option maxHeartbeats 400000 in
set_option maxRecDepth 100000 in
theorem m_play_1 (l : Launch) (D : va_G) {mo a1 a2 a3 a4 a5 a6 a7 a8 a9 a10 a11 nC nS nM : Nat} {th : Int32} {x y : Int32} (hz0 : Nat) (h : ¬ (((0 : Int32) ≤ x ∧ x ≤ 100000) ∧ (x ≤ y ∧ y ≤ 100000))) : Met l yX6_play (ws_ yX6_play cX6_play 11 (some .int)) ({ frames := 2, cells := 0, slots := 0, locals := 80 } : Room) (va_Pc [.ref mo, .int x, .int y] (SW D [oO mo 6 [.int th, .ref a1, .int (nI nC), .ref a2, .ref a3, .ref a4, .ref a5, .ref a6, .ref a7, .ref a8, .ref a9, .int (nI nS), .ref a10, .int (nI nM), .ref a11]] hz0)) (va_Qi (fun v _ => v = 0) (AT D (va_A [oO mo 6 [.int th, .ref a1, .int (nI nC), .ref a2, .ref a3, .ref a4, .ref a5, .ref a6, .ref a7, .ref a8, .ref a9, .int (nI nS), .ref a10, .int (nI nM), .ref a11]] hz0) (fun _ : Unit => [oO mo 6 [.int 1, .ref a1, .int (nI nC), .ref a2, .ref a3, .ref a4, .ref a5, .ref a6, .ref a7, .ref a8, .ref a9, .int (nI nS), .ref a10, .int (nI nM), .ref a11]])) (va_A [oO mo 6 [.int th, .ref a1, .int (nI nC), .ref a2, .ref a3, .ref a4, .ref a5, .ref a6, .ref a7, .ref a8, .ref a9, .int (nI nS), .ref a10, .int (nI nM), .ref a11]] hz0)) 0 0 (va_A [oO mo 6 [.int th, .ref a1, .int (nI nC), .ref a2, .ref a3, .ref a4, .ref a5, .ref a6, .ref a7, .ref a8, .ref a9, .int (nI nS), .ref a10, .int (nI nM), .ref a11]] hz0) := by
  refine Met.ofW (cc := cX6_play) (maxL := 11) (ret := (some .int)) (by decide) rfl ?_
  intro p e s m args below meth c s₁ B hml hv
  obtain ⟨rfl, hsz, hG, hP, hD0⟩ := hv
  have hx := B.exec
  have hb := B.bytes
  have hr := B.returns
  have hts : ∀ w ∈ wsL_law, w.before _ s = true := fun w h => atoms_spec (ws := (ws_ yX6_play cX6_play 11 (some .int))) B.pre w (List.mem_cons_of_mem _ h)
  have hown : s.vm.findClass RX6 = some m.cls := findClass_of_methodNamed B.named
  have hlk := B.notSynchronized
  have hC : CallFix p m c cX6_play 11 s _ wsL_law RX6 := ⟨hx, hb, hml, hown, hts⟩
  subst hsz
  have hD := hD0.self (sz := s.heap.size)
  generalize hAe : va_A [oO mo 6 [.int th, .ref a1, .int (nI nC), .ref a2, .ref a3, .ref a4, .ref a5, .ref a6, .ref a7, .ref a8, .ref a9, .int (nI nS), .ref a10, .int (nI nM), .ref a11]] s.heap.size = A at hD ⊢
  have hA : ∀ q : Nat, s.heap.size ≤ q → A q := fun q h => by rw [← hAe]; exact Or.inr h
  have hS : va_S A s.heap s.heap [] := va_S.rf
  obtain ⟨H, hHe⟩ : ∃ H, H = s.heap := ⟨_, rfl⟩
  rw [← hHe] at hP
  have hS : va_S A s.heap H [] := by rw [hHe]; exact hS
  have hl := lv_entry ([.ref mo, .int x, .int y]) (n := 11) (Nat.le_of_ble_eq_true rfl)
  rw [lg_entry_eq]
  generalize (lg_sl ([.ref mo, .int x, .int y]) ++ List.replicate (11 - (lg_sl ([.ref mo, .int x, .int y])).length) Slot.unset).toArray = ls at hl ⊢
  have hl : lv_has ls 11 [(0, .ref mo), (1, .int x), (2, .int y)] := hl
  rw [← hHe]
  refine lv_aload_n hx hb dX6_play_0 rfl (lv_at hl 0 rfl) ?_
  refine lv_iconst (v := 0) hx hb dX6_play_1 (by decide) ?_
  refine va_put (D := D) (ci := 6) (v := .int 0) (ty := .int) (C := RX6) (T := TX6) (N := 15) hx hb hts inlX6 tyX6 tyX6_ok nmX6 hown hG.K hP hD hS 0 rfl rfl 0 (by decide) (hts _ mF_X6_43) (fun _ h9 => h9) rfl (by decide +kernel) rfl rfl (Nat.le_of_ble_eq_true rfl) dX6_play_2 (fun H locs hP hD hS => ?_)
  have hP : va_P D cls [oO mo 6 [.int 0, .ref a1, .int (nI nC), .ref a2, .ref a3, .ref a4, .ref a5, .ref a6, .ref a7, .ref a8, .ref a9, .int (nI nS), .ref a10, .int (nI nM), .ref a11]] H := hP
  have hD : va_D A [oO mo 6 [.int 0, .ref a1, .int (nI nC), .ref a2, .ref a3, .ref a4, .ref a5, .ref a6, .ref a7, .ref a8, .ref a9, .int (nI nS), .ref a10, .int (nI nM), .ref a11]] := hD
  refine lv_iload_n hx hb dX6_play_5 rfl (lv_at hl 1 rfl) ?_
  refine lv_iconst (v := 0) hx hb dX6_play_6 (by decide) ?_
  refine lv_ldc hx hb hown (hts _ mG_X6_146) dX6_play_7 ?_
  have hP9 : va_P D cls [] H := fun k q h => by simp at h
  refine vp_callSi (pS (rest := []) [.int x, .int 0, .int 100000] 3 hC (m_isIn l D (x := x) (a := 0) (b := 100000) ) (gS mM_X6_50 mT_X6_isIn mN_X6 mC_X6_isIn) (by decide +kernel) rfl rfl ⟨Nat.le_of_ble_eq_true rfl, Nat.le_of_ble_eq_true rfl⟩ hG hP9 rfl hl.1 rfl (Nat.le_of_ble_eq_true rfl) dX6_play_9 ⟨Nat.le_of_ble_eq_true rfl, Nat.le_of_ble_eq_true rfl⟩) (fun r9 h9 => ?_)
  rcases h9 with ⟨rfl, hb9⟩ | ⟨rfl, hb9⟩
  · skip
    refine lv_if_eq (tgt := 25) hx hb dX6_play_12 (by decide) (fun h9 => absurd h9 (by decide)) (fun _ => ?_)
    refine lv_iload_n hx hb dX6_play_15 rfl (lv_at hl 2 rfl) ?_
    refine lv_iload_n hx hb dX6_play_16 rfl (lv_at hl 1 rfl) ?_
    refine lv_ldc hx hb hown (hts _ mG_X6_146) dX6_play_17 ?_
    have hP9 : va_P D cls [] H := fun k q h => by simp at h
    refine vp_callSi (pS (rest := []) [.int y, .int x, .int 100000] 3 hC (m_isIn l D (x := y) (a := x) (b := 100000) ) (gS mM_X6_50 mT_X6_isIn mN_X6 mC_X6_isIn) (by decide +kernel) rfl rfl ⟨Nat.le_of_ble_eq_true rfl, Nat.le_of_ble_eq_true rfl⟩ hG hP9 rfl hl.1 rfl (Nat.le_of_ble_eq_true rfl) dX6_play_19 ⟨Nat.le_of_ble_eq_true rfl, Nat.le_of_ble_eq_true rfl⟩) (fun r19 h19 => ?_)
    rcases h19 with ⟨rfl, hb19⟩ | ⟨rfl, hb19⟩
    · exact absurd hb19 (fun h9 => h ⟨hb9, h9⟩)
    refine lv_if_ne (tgt := 31) hx hb dX6_play_22 (by decide) (fun h9 => (h9 (by decide)).elim) (fun _ => ?_)
    refine lv_aload_n hx hb dX6_play_25 rfl (lv_at hl 0 rfl) ?_
    refine lv_iconst (v := 1) hx hb dX6_play_26 (by decide) ?_
    have hP9 := hP.sub (ws' := [oO mo 6 [.int 0, .ref a1, .int (nI nC), .ref a2, .ref a3, .ref a4, .ref a5, .ref a6, .ref a7, .ref a8, .ref a9, .int (nI nS), .ref a10, .int (nI nM), .ref a11]]) [0] rfl
    have hD9 := (hD.sub (ws' := [oO mo 6 [.int 0, .ref a1, .int (nI nC), .ref a2, .ref a3, .ref a4, .ref a5, .ref a6, .ref a7, .ref a8, .ref a9, .int (nI nS), .ref a10, .int (nI nM), .ref a11]]) [0] (by decide) rfl).weaken (B := fun _ => True) (fun _ _ _ _ => trivial)
    refine ki (wr := []) (rV (rest := []) (qc := (RX6, TX6, 15)) [.int 1] 1 0 0 hC (m_no l D (mo := mo) (x := 1) (th := 0) (a1 := a1) (nC := nC) (a2 := a2) (a3 := a3) (a4 := a4) (a5 := a5) (a6 := a6) (a7 := a7) (a8 := a8) (a9 := a9) (nS := nS) (a10 := a10) (nM := nM) (a11 := a11) (hz0 := H.size) ) rfl (hP 0 _ rfl) (gV mM_X6_66 mI_X6_no mS_X6_no mN_X6 mC_X6_no) (by decide +kernel) rfl rfl ⟨Nat.le_of_ble_eq_true rfl, Nat.le_of_ble_eq_true rfl⟩ hG hP9 hD9 rfl hl.1 rfl (Nat.le_of_ble_eq_true rfl) dX6_play_27 ⟨Nat.le_of_ble_eq_true rfl, Nat.le_of_ble_eq_true rfl⟩) hP hD hS hA [0] [] rfl rfl (by decide) (by decide) (fun r27 u27 H locs h27 hP hD hS hz hfr => ?_)
    have hP : va_P D cls [oO mo 6 [.int 1, .ref a1, .int (nI nC), .ref a2, .ref a3, .ref a4, .ref a5, .ref a6, .ref a7, .ref a8, .ref a9, .int (nI nS), .ref a10, .int (nI nM), .ref a11]] H := hP
    have hD : va_D A [oO mo 6 [.int 1, .ref a1, .int (nI nC), .ref a2, .ref a3, .ref a4, .ref a5, .ref a6, .ref a7, .ref a8, .ref a9, .int (nI nS), .ref a10, .int (nI nM), .ref a11]] := hD
    obtain rfl : r27 = 0 := h27
    refine Wi () hx hb hr hlk ?_ hP hD hS (Nat.le_of_ble_eq_true rfl) (by first | exact Nat.le_of_ble_eq_true rfl | exact Nat.le_of_eq (Nat.zero_add _)) dX6_play_30
    exact rfl
  · skip
    refine lv_if_eq (tgt := 25) hx hb dX6_play_12 (by decide) (fun _ => ?_) (fun h9 => (h9 (by decide)).elim)
    refine lv_aload_n hx hb dX6_play_25 rfl (lv_at hl 0 rfl) ?_
    refine lv_iconst (v := 1) hx hb dX6_play_26 (by decide) ?_
    have hP9 := hP.sub (ws' := [oO mo 6 [.int 0, .ref a1, .int (nI nC), .ref a2, .ref a3, .ref a4, .ref a5, .ref a6, .ref a7, .ref a8, .ref a9, .int (nI nS), .ref a10, .int (nI nM), .ref a11]]) [0] rfl
    have hD9 := (hD.sub (ws' := [oO mo 6 [.int 0, .ref a1, .int (nI nC), .ref a2, .ref a3, .ref a4, .ref a5, .ref a6, .ref a7, .ref a8, .ref a9, .int (nI nS), .ref a10, .int (nI nM), .ref a11]]) [0] (by decide) rfl).weaken (B := fun _ => True) (fun _ _ _ _ => trivial)
    refine ki (wr := []) (rV (rest := []) (qc := (RX6, TX6, 15)) [.int 1] 1 0 0 hC (m_no l D (mo := mo) (x := 1) (th := 0) (a1 := a1) (nC := nC) (a2 := a2) (a3 := a3) (a4 := a4) (a5 := a5) (a6 := a6) (a7 := a7) (a8 := a8) (a9 := a9) (nS := nS) (a10 := a10) (nM := nM) (a11 := a11) (hz0 := H.size) ) rfl (hP 0 _ rfl) (gV mM_X6_66 mI_X6_no mS_X6_no mN_X6 mC_X6_no) (by decide +kernel) rfl rfl ⟨Nat.le_of_ble_eq_true rfl, Nat.le_of_ble_eq_true rfl⟩ hG hP9 hD9 rfl hl.1 rfl (Nat.le_of_ble_eq_true rfl) dX6_play_27 ⟨Nat.le_of_ble_eq_true rfl, Nat.le_of_ble_eq_true rfl⟩) hP hD hS hA [0] [] rfl rfl (by decide) (by decide) (fun r27 u27 H locs h27 hP hD hS hz hfr => ?_)
    have hP : va_P D cls [oO mo 6 [.int 1, .ref a1, .int (nI nC), .ref a2, .ref a3, .ref a4, .ref a5, .ref a6, .ref a7, .ref a8, .ref a9, .int (nI nS), .ref a10, .int (nI nM), .ref a11]] H := hP
    have hD : va_D A [oO mo 6 [.int 1, .ref a1, .int (nI nC), .ref a2, .ref a3, .ref a4, .ref a5, .ref a6, .ref a7, .ref a8, .ref a9, .int (nI nS), .ref a10, .int (nI nM), .ref a11]] := hD
    obtain rfl : r27 = 0 := h27
    refine Wi () hx hb hr hlk ?_ hP hD hS (Nat.le_of_ble_eq_true rfl) (by first | exact Nat.le_of_ble_eq_true rfl | exact Nat.le_of_eq (Nat.zero_add _)) dX6_play_30
    exact rfl
set_option maxHeartbeats 400000 in
set_option maxRecDepth 100000 in
theorem m_play (l : Launch) (D : va_G) {mo a1 a2 a3 a4 a5 a6 a7 a8 a9 a10 a11 nC nS nM : Nat} {th : Int32} {ln qs qt qn pa mm : Nat → Int32} {ck nc RR : Nat → Nat} {pt : Nat → Nat → Int32} {len : Nat → Int32} {ct cn : Nat → Nat → Int32} {x y : Int32} {f : Nat → Nat → Int32} (hz0 : Nat) (hn10 : nS ≤ 10) (h : ((0 : Int32) ≤ x ∧ x ≤ 100000) ∧ (x ≤ y ∧ y ≤ 100000)) (hpa : ∀ i, i < nS → ∀ w, w < 13 → ¬ w = 2 → pa (13 * i + w) = pt i w) (hc0 : ∀ i, i < nS → pa (13 * i) = nI (ck i)) (hc6 : ∀ i, i < nS → ck i < 6) (hlq : ∀ i, i < nS → ln (ck i) = len (ck i)) (hO : ∀ i, i < nS → sOK (len (ck i)) (pt i)) (hqs : ∀ i, i < nS → qs (ck i) = nI (nc (ck i))) (hnc : ∀ i, i < nS → nc (ck i) ≤ 8) (hqt : ∀ i, i < nS → ∀ k, k < nc (ck i) → qt (8 * ck i + k) = ct (ck i) k) (hqn : ∀ i, i < nS → ∀ k, k < nc (ck i) → qn (8 * ck i + k) = cn (ck i) k) (hR : ∀ i, i < nS → pt i 3 = nI (RR i)) (hR9 : ∀ i, i < nS → RR i ≤ 9) : Met l yX6_play (ws_ yX6_play cX6_play 11 (some .int)) ({ frames := 2, cells := 720, slots := 2880, locals := 80 } : Room) (va_Pc [.ref mo, .int x, .int y] (SW D [oO mo 6 [.int th, .ref a1, .int (nI nC), .ref a2, .ref a3, .ref a4, .ref a5, .ref a6, .ref a7, .ref a8, .ref a9, .int (nI nS), .ref a10, .int (nI nM), .ref a11], aI D a2 6 ln, aI D a7 6 qs, aI D a8 48 qt, aI D a9 48 qn, aI D a10 130 pa, aI D a11 2880 mm] hz0)) (va_Qi (fun v ((M, mq) : Nat × (Nat → Int32)) => v = nI M ∧ M ≤ 720 ∧ NR (ncP (fun z => len (ck z)) pt (fun z => ct (ck z)) (fun z => cn (ck z)) (fun z => nc (ck z)) RR x y (0, f, 0) nS) M mq) (AT D (va_A [oO mo 6 [.int th, .ref a1, .int (nI nC), .ref a2, .ref a3, .ref a4, .ref a5, .ref a6, .ref a7, .ref a8, .ref a9, .int (nI nS), .ref a10, .int (nI nM), .ref a11], aI D a2 6 ln, aI D a7 6 qs, aI D a8 48 qt, aI D a9 48 qn, aI D a10 130 pa, aI D a11 2880 mm] hz0) (fun ((M, mq) : Nat × (Nat → Int32)) => [oO mo 6 [.int 0, .ref a1, .int (nI nC), .ref a2, .ref a3, .ref a4, .ref a5, .ref a6, .ref a7, .ref a8, .ref a9, .int (nI nS), .ref a10, .int (nI M), .ref a11], aI D a2 6 ln, aI D a7 6 qs, aI D a8 48 qt, aI D a9 48 qn, aI D a10 130 pa, aI D a11 2880 mq])) (va_A [oO mo 6 [.int th, .ref a1, .int (nI nC), .ref a2, .ref a3, .ref a4, .ref a5, .ref a6, .ref a7, .ref a8, .ref a9, .int (nI nS), .ref a10, .int (nI nM), .ref a11], aI D a2 6 ln, aI D a7 6 qs, aI D a8 48 qt, aI D a9 48 qn, aI D a10 130 pa, aI D a11 2880 mm] hz0)) 720 2880 (va_A [oO mo 6 [.int th, .ref a1, .int (nI nC), .ref a2, .ref a3, .ref a4, .ref a5, .ref a6, .ref a7, .ref a8, .ref a9, .int (nI nS), .ref a10, .int (nI nM), .ref a11], aI D a2 6 ln, aI D a7 6 qs, aI D a8 48 qt, aI D a9 48 qn, aI D a10 130 pa, aI D a11 2880 mm] hz0) := by
  refine Met.ofW (cc := cX6_play) (maxL := 11) (ret := (some .int)) (by decide) rfl ?_
  intro p e s m args below meth c s₁ B hml hv
  obtain ⟨rfl, hsz, hG, hP, hD0⟩ := hv
  have hx := B.exec
  have hb := B.bytes
  have hr := B.returns
  have hts : ∀ w ∈ wsL_law, w.before _ s = true := fun w h => atoms_spec (ws := (ws_ yX6_play cX6_play 11 (some .int))) B.pre w (List.mem_cons_of_mem _ h)
  have hown : s.vm.findClass RX6 = some m.cls := findClass_of_methodNamed B.named
  have hlk := B.notSynchronized
  have hC : CallFix p m c cX6_play 11 s _ wsL_law RX6 := ⟨hx, hb, hml, hown, hts⟩
  subst hsz
  have hD := hD0.self (sz := s.heap.size)
  generalize hAe : va_A [oO mo 6 [.int th, .ref a1, .int (nI nC), .ref a2, .ref a3, .ref a4, .ref a5, .ref a6, .ref a7, .ref a8, .ref a9, .int (nI nS), .ref a10, .int (nI nM), .ref a11], aI D a2 6 ln, aI D a7 6 qs, aI D a8 48 qt, aI D a9 48 qn, aI D a10 130 pa, aI D a11 2880 mm] s.heap.size = A at hD ⊢
  have hA : ∀ q : Nat, s.heap.size ≤ q → A q := fun q h => by rw [← hAe]; exact Or.inr h
  have hS : va_S A s.heap s.heap [] := va_S.rf
  obtain ⟨H, hHe⟩ : ∃ H, H = s.heap := ⟨_, rfl⟩
  rw [← hHe] at hP
  have hS : va_S A s.heap H [] := by rw [hHe]; exact hS
  have hl := lv_entry ([.ref mo, .int x, .int y]) (n := 11) (Nat.le_of_ble_eq_true rfl)
  rw [lg_entry_eq]
  generalize (lg_sl ([.ref mo, .int x, .int y]) ++ List.replicate (11 - (lg_sl ([.ref mo, .int x, .int y])).length) Slot.unset).toArray = ls at hl ⊢
  have hl : lv_has ls 11 [(0, .ref mo), (1, .int x), (2, .int y)] := hl
  rw [← hHe]
  refine lv_aload_n hx hb dX6_play_0 rfl (lv_at hl 0 rfl) ?_
  refine lv_iconst (v := 0) hx hb dX6_play_1 (by decide) ?_
  refine va_put (D := D) (ci := 6) (v := .int 0) (ty := .int) (C := RX6) (T := TX6) (N := 15) hx hb hts inlX6 tyX6 tyX6_ok nmX6 hown hG.K hP hD hS 0 rfl rfl 0 (by decide) (hts _ mF_X6_43) (fun _ h9 => h9) rfl (by decide +kernel) rfl rfl (Nat.le_of_ble_eq_true rfl) dX6_play_2 (fun H locs hP hD hS => ?_)
  have hP : va_P D cls [oO mo 6 [.int 0, .ref a1, .int (nI nC), .ref a2, .ref a3, .ref a4, .ref a5, .ref a6, .ref a7, .ref a8, .ref a9, .int (nI nS), .ref a10, .int (nI nM), .ref a11], aI D a2 6 ln, aI D a7 6 qs, aI D a8 48 qt, aI D a9 48 qn, aI D a10 130 pa, aI D a11 2880 mm] H := hP
  have hD : va_D A [oO mo 6 [.int 0, .ref a1, .int (nI nC), .ref a2, .ref a3, .ref a4, .ref a5, .ref a6, .ref a7, .ref a8, .ref a9, .int (nI nS), .ref a10, .int (nI nM), .ref a11], aI D a2 6 ln, aI D a7 6 qs, aI D a8 48 qt, aI D a9 48 qn, aI D a10 130 pa, aI D a11 2880 mm] := hD
  refine lv_iload_n hx hb dX6_play_5 rfl (lv_at hl 1 rfl) ?_
  refine lv_iconst (v := 0) hx hb dX6_play_6 (by decide) ?_
  refine lv_ldc hx hb hown (hts _ mG_X6_146) dX6_play_7 ?_
  have hP9 : va_P D cls [] H := fun k q h => by simp at h
  refine vp_callSi (pS (rest := []) [.int x, .int 0, .int 100000] 3 hC (m_isIn l D (x := x) (a := 0) (b := 100000) ) (gS mM_X6_50 mT_X6_isIn mN_X6 mC_X6_isIn) (by decide +kernel) rfl rfl ⟨Nat.le_of_ble_eq_true rfl, Nat.le_of_ble_eq_true rfl⟩ hG hP9 rfl hl.1 rfl (Nat.le_of_ble_eq_true rfl) dX6_play_9 ⟨Nat.le_of_ble_eq_true rfl, Nat.le_of_ble_eq_true rfl⟩) (fun r9 h9 => ?_)
  rcases h9 with ⟨rfl, hb9⟩ | ⟨rfl, hb9⟩
  rotate_left
  · exact absurd (h.1) hb9
  refine lv_if_eq (tgt := 25) hx hb dX6_play_12 (by decide) (fun h9 => absurd h9 (by decide)) (fun _ => ?_)
  refine lv_iload_n hx hb dX6_play_15 rfl (lv_at hl 2 rfl) ?_
  refine lv_iload_n hx hb dX6_play_16 rfl (lv_at hl 1 rfl) ?_
  refine lv_ldc hx hb hown (hts _ mG_X6_146) dX6_play_17 ?_
  have hP9 : va_P D cls [] H := fun k q h => by simp at h
  refine vp_callSi (pS (rest := []) [.int y, .int x, .int 100000] 3 hC (m_isIn l D (x := y) (a := x) (b := 100000) ) (gS mM_X6_50 mT_X6_isIn mN_X6 mC_X6_isIn) (by decide +kernel) rfl rfl ⟨Nat.le_of_ble_eq_true rfl, Nat.le_of_ble_eq_true rfl⟩ hG hP9 rfl hl.1 rfl (Nat.le_of_ble_eq_true rfl) dX6_play_19 ⟨Nat.le_of_ble_eq_true rfl, Nat.le_of_ble_eq_true rfl⟩) (fun r19 h19 => ?_)
  rcases h19 with ⟨rfl, hb19⟩ | ⟨rfl, hb19⟩
  rotate_left
  · exact absurd (h.2) hb19
  refine lv_if_ne (tgt := 31) hx hb dX6_play_22 (by decide) (fun _ => ?_) (fun h9 => absurd h9 (by decide))
  refine lv_aload_n hx hb dX6_play_31 rfl (lv_at hl 0 rfl) ?_
  refine lv_iconst (v := 0) hx hb dX6_play_32 (by decide) ?_
  refine va_put (D := D) (ci := 6) (v := .int 0) (ty := .int) (C := RX6) (T := TX6) (N := 15) hx hb hts inlX6 tyX6 tyX6_ok nmX6 hown hG.K hP hD hS 0 rfl rfl 13 (by decide) (hts _ mF_X6_168) (fun _ h9 => h9) rfl (by decide +kernel) rfl rfl (Nat.le_of_ble_eq_true rfl) dX6_play_33 (fun H locs hP hD hS => ?_)
  have hP : va_P D cls [oO mo 6 [.int 0, .ref a1, .int (nI nC), .ref a2, .ref a3, .ref a4, .ref a5, .ref a6, .ref a7, .ref a8, .ref a9, .int (nI nS), .ref a10, .int 0, .ref a11], aI D a2 6 ln, aI D a7 6 qs, aI D a8 48 qt, aI D a9 48 qn, aI D a10 130 pa, aI D a11 2880 mm] H := hP
  have hD : va_D A [oO mo 6 [.int 0, .ref a1, .int (nI nC), .ref a2, .ref a3, .ref a4, .ref a5, .ref a6, .ref a7, .ref a8, .ref a9, .int (nI nS), .ref a10, .int 0, .ref a11], aI D a2 6 ln, aI D a7 6 qs, aI D a8 48 qt, aI D a9 48 qn, aI D a10 130 pa, aI D a11 2880 mm] := hD
  refine lv_iconst (v := 0) hx hb dX6_play_36 (by decide) ?_
  refine lv_istore_n (lv' := [(3, .int 0), (0, .ref mo), (1, .int x), (2, .int y)]) hx hb dX6_play_37 rfl hl (by decide) rfl (fun ls hl => ?_)
  have loop38 : ∀ (d9 : Nat) (i : Nat) (M : Nat) (mq : Nat → Int32) (S1 : NS), (nS - i) < d9 → (i ≤ nS) → (S1 = ncP (fun z => len (ck z)) pt (fun z => ct (ck z)) (fun z => cn (ck z)) (fun z => nc (ck z)) RR x y (0, f, 0) i) → (NR S1 M mq) → (M ≤ 72 * i) → ∀ (H : Heap) (locs : List Loc) (ls : Array Slot), va_P D cls [oO mo 6 [.int 0, .ref a1, .int (nI nC), .ref a2, .ref a3, .ref a4, .ref a5, .ref a6, .ref a7, .ref a8, .ref a9, .int (nI nS), .ref a10, .int (nI M), .ref a11], aI D a2 6 ln, aI D a7 6 qs, aI D a8 48 qt, aI D a9 48 qn, aI D a10 130 pa, aI D a11 2880 mq] H → va_D A [oO mo 6 [.int 0, .ref a1, .int (nI nC), .ref a2, .ref a3, .ref a4, .ref a5, .ref a6, .ref a7, .ref a8, .ref a9, .int (nI nS), .ref a10, .int (nI M), .ref a11], aI D a2 6 ln, aI D a7 6 qs, aI D a8 48 qt, aI D a9 48 qn, aI D a10 130 pa, aI D a11 2880 mq] → va_S A s.heap H locs → lv_has ls 11 [(0, .ref mo), (1, .int x), (2, .int y), (3, .int (nI i))] → W p l e ({ frames := 2, cells := 720, slots := 2880, locals := 80 } : Room) s m ([.ref mo, .int x, .int y] : List Value).toArray below meth c H locs M (4 * M) (MQ below (va_Qi (fun v ((M, mq) : Nat × (Nat → Int32)) => v = nI M ∧ M ≤ 720 ∧ NR (ncP (fun z => len (ck z)) pt (fun z => ct (ck z)) (fun z => cn (ck z)) (fun z => nc (ck z)) RR x y (0, f, 0) nS) M mq) (AT D A (fun ((M, mq) : Nat × (Nat → Int32)) => [oO mo 6 [.int 0, .ref a1, .int (nI nC), .ref a2, .ref a3, .ref a4, .ref a5, .ref a6, .ref a7, .ref a8, .ref a9, .int (nI nS), .ref a10, .int (nI M), .ref a11], aI D a2 6 ln, aI D a7 6 qs, aI D a8 48 qt, aI D a9 48 qn, aI D a10 130 pa, aI D a11 2880 mq])) A) ([.ref mo, .int x, .int y] : List Value).toArray s 720 2880 A) (F0 m 38 ls []) := by
    intro d9
    induction d9 with
    | zero => intro i M mq S1 hd; exact absurd hd (Nat.not_lt_zero _)
    | succ d9 ih38 =>
      intro i M mq S1 hd38 hi1 hS1 hN1 hM1 H locs ls hP hD hS hl
      refine lv_iload_n hx hb dX6_play_38 rfl (lv_at hl 3 rfl) ?_
      refine lv_aload_n hx hb dX6_play_39 rfl (lv_at hl 0 rfl) ?_
      refine va_get (D := D) (ci := 6) (v := .int (nI nS)) (C := RX6) (T := TX6) (N := 15) hx hb hts inlX6 hown hG.K hP 0 rfl rfl 11 (by decide) (hts _ mF_X6_108) (fun _ h9 => h9) rfl dX6_play_40 ?_
      refine lv_icmp_ge (tgt := 221) hx hb dX6_play_43 (by decide) (fun c43 => ?_) (fun c43 => ?_)
      · skip
        have n43 := (nI_leI (a := nS) (b := i) (by omega) (by omega)).mp c43
        have hk9 : i = nS := by omega
        subst i
        refine lv_aload_n hx hb dX6_play_221 rfl (lv_at hl 0 rfl) ?_
        refine va_get (D := D) (ci := 6) (v := .int (nI M)) (C := RX6) (T := TX6) (N := 15) hx hb hts inlX6 hown hG.K hP 0 rfl rfl 13 (by decide) (hts _ mF_X6_168) (fun _ h9 => h9) rfl dX6_play_222 ?_
        refine Wi (M, mq) hx hb hr hlk ?_ hP hD hS (by omega) (by omega) dX6_play_225
        exact ⟨rfl, by omega, by rw [← hS1]; exact hN1⟩
      · skip
        have n43 := mt (nI_leI (a := nS) (b := i) (by omega) (by omega)).mpr c43
        have hi9 : i < nS := by omega
        have hnc9 := hnc i hi9
        have hR8 := hR9 i hi9
        have hc69 := hc6 i hi9
        refine lv_bipush (v := 8) hx hb dX6_play_46 (by decide) ?_
        refine lv_aload_n hx hb dX6_play_48 rfl (lv_at hl 0 rfl) ?_
        refine lv_iload_n hx hb dX6_play_49 rfl (lv_at hl 3 rfl) ?_
        refine lv_iconst (v := 0) hx hb dX6_play_50 (by decide) ?_
        have hP9 := hP.sub (ws' := [oO mo 6 [.int 0, .ref a1, .int (nI nC), .ref a2, .ref a3, .ref a4, .ref a5, .ref a6, .ref a7, .ref a8, .ref a9, .int (nI nS), .ref a10, .int (nI M), .ref a11], aI D a10 130 pa]) [0, 5] rfl
        refine vp_callSi (pV (rest := [.int 8]) (qc := (RX6, TX6, 15)) [.int (nI i), .int 0] 2 hC (m_part l D (mo := mo) (i := i) (w := 0) (th := 0) (a1 := a1) (nC := nC) (a2 := a2) (a3 := a3) (a4 := a4) (a5 := a5) (a6 := a6) (a7 := a7) (a8 := a8) (a9 := a9) (nS := nS) (a10 := a10) (nM := M) (a11 := a11) (pa := pa) (by omega) (by omega)) rfl (hP 0 _ rfl) (gV mM_X6_120 mI_X6_part mS_X6_part mN_X6 mC_X6_part) (by decide +kernel) rfl rfl ⟨Nat.le_of_ble_eq_true rfl, Nat.le_of_ble_eq_true rfl⟩ hG hP9 rfl hl.1 rfl (Nat.le_of_ble_eq_true rfl) dX6_play_51 ⟨by show _ ≤ 720; omega, by show _ ≤ 2880; omega⟩) (fun r51 h51 => ?_)
        obtain rfl : r51 = (pa (13 * i + 0)) := h51
        refine tpi (y := nI (ck i)) (hc0 i hi9) ?_
        refine lv_imul hx hb dX6_play_54 ?_
        refine tpi (y := nI (8 * (ck i))) (pk_mul 8 (ck i)) ?_
        refine lv_istore (lv' := [(4, .int (nI (8 * (ck i)))), (0, .ref mo), (1, .int x), (2, .int y), (3, .int (nI i))]) hx hb dX6_play_55 hl (by decide) rfl (fun ls hl => ?_)
        refine lv_aload_n hx hb dX6_play_57 rfl (lv_at hl 1 rfl) ?_
        refine va_get (D := D) (ci := 6) (v := .ref a7) (C := RX6) (T := TX6) (N := 15) hx hb hts inlX6 hown hG.K hP 0 rfl rfl 8 (by decide) (hts _ mF_X6_28) (fun _ h9 => h9) rfl dX6_play_58 ?_
        refine lv_aload_n hx hb dX6_play_61 rfl (lv_at hl 1 rfl) ?_
        refine lv_iload_n hx hb dX6_play_62 rfl (lv_at hl 4 rfl) ?_
        refine lv_iconst (v := 0) hx hb dX6_play_63 (by decide) ?_
        have hP9 := hP.sub (ws' := [oO mo 6 [.int 0, .ref a1, .int (nI nC), .ref a2, .ref a3, .ref a4, .ref a5, .ref a6, .ref a7, .ref a8, .ref a9, .int (nI nS), .ref a10, .int (nI M), .ref a11], aI D a10 130 pa]) [0, 5] rfl
        refine vp_callSi (pV (rest := [.ref a7]) (qc := (RX6, TX6, 15)) [.int (nI i), .int 0] 2 hC (m_part l D (mo := mo) (i := i) (w := 0) (th := 0) (a1 := a1) (nC := nC) (a2 := a2) (a3 := a3) (a4 := a4) (a5 := a5) (a6 := a6) (a7 := a7) (a8 := a8) (a9 := a9) (nS := nS) (a10 := a10) (nM := M) (a11 := a11) (pa := pa) (by omega) (by omega)) rfl (hP 0 _ rfl) (gV mM_X6_120 mI_X6_part mS_X6_part mN_X6 mC_X6_part) (by decide +kernel) rfl rfl ⟨Nat.le_of_ble_eq_true rfl, Nat.le_of_ble_eq_true rfl⟩ hG hP9 rfl hl.1 rfl (Nat.le_of_ble_eq_true rfl) dX6_play_64 ⟨by show _ ≤ 720; omega, by show _ ≤ 2880; omega⟩) (fun r64 h64 => ?_)
        obtain rfl : r64 = (pa (13 * i + 0)) := h64
        refine tpi (y := nI (ck i)) (hc0 i hi9) ?_
        refine ild (n := 6) (j := ck i) hx hb hG hP 2 rfl (by omega) (by omega) dX6_play_67 ?_
        refine tpi (y := nI (nc (ck i))) (hqs i hi9) ?_
        refine lv_istore (lv' := [(5, .int (nI (nc (ck i)))), (4, .int (nI (8 * (ck i)))), (0, .ref mo), (1, .int x), (2, .int y), (3, .int (nI i))]) hx hb dX6_play_68 hl (by decide) rfl (fun ls hl => ?_)
        refine lv_iconst (v := 0) hx hb dX6_play_70 (by decide) ?_
        refine lv_istore (lv' := [(6, .int 0), (5, .int (nI (nc (ck i)))), (4, .int (nI (8 * (ck i)))), (0, .ref mo), (1, .int x), (2, .int y), (3, .int (nI i))]) hx hb dX6_play_71 hl (by decide) rfl (fun ls hl => ?_)
        have loop73 : ∀ (d9 : Nat) (r1 : Nat) (M : Nat) (mq : Nat → Int32) (S2 : NS), (RR i - r1) < d9 → (r1 ≤ RR i) → (S2 = ncA (len (ck i)) (pt i) (ct (ck i)) (cn (ck i)) x y i (nc (ck i)) S1 r1) → (NR S2 M mq) → (M ≤ 72 * i + 8 * r1) → ∀ (H : Heap) (locs : List Loc) (ls : Array Slot), va_P D cls [oO mo 6 [.int 0, .ref a1, .int (nI nC), .ref a2, .ref a3, .ref a4, .ref a5, .ref a6, .ref a7, .ref a8, .ref a9, .int (nI nS), .ref a10, .int (nI M), .ref a11], aI D a2 6 ln, aI D a7 6 qs, aI D a8 48 qt, aI D a9 48 qn, aI D a10 130 pa, aI D a11 2880 mq] H → va_D A [oO mo 6 [.int 0, .ref a1, .int (nI nC), .ref a2, .ref a3, .ref a4, .ref a5, .ref a6, .ref a7, .ref a8, .ref a9, .int (nI nS), .ref a10, .int (nI M), .ref a11], aI D a2 6 ln, aI D a7 6 qs, aI D a8 48 qt, aI D a9 48 qn, aI D a10 130 pa, aI D a11 2880 mq] → va_S A s.heap H locs → lv_has ls 11 [(0, .ref mo), (1, .int x), (2, .int y), (3, .int (nI i)), (4, .int (nI (8 * ck i))), (5, .int (nI (nc (ck i)))), (6, .int (nI r1))] → W p l e ({ frames := 2, cells := 720, slots := 2880, locals := 80 } : Room) s m ([.ref mo, .int x, .int y] : List Value).toArray below meth c H locs M (4 * M) (MQ below (va_Qi (fun v ((M, mq) : Nat × (Nat → Int32)) => v = nI M ∧ M ≤ 720 ∧ NR (ncP (fun z => len (ck z)) pt (fun z => ct (ck z)) (fun z => cn (ck z)) (fun z => nc (ck z)) RR x y (0, f, 0) nS) M mq) (AT D A (fun ((M, mq) : Nat × (Nat → Int32)) => [oO mo 6 [.int 0, .ref a1, .int (nI nC), .ref a2, .ref a3, .ref a4, .ref a5, .ref a6, .ref a7, .ref a8, .ref a9, .int (nI nS), .ref a10, .int (nI M), .ref a11], aI D a2 6 ln, aI D a7 6 qs, aI D a8 48 qt, aI D a9 48 qn, aI D a10 130 pa, aI D a11 2880 mq])) A) ([.ref mo, .int x, .int y] : List Value).toArray s 720 2880 A) (F0 m 73 ls []) := by
          intro d9
          induction d9 with
          | zero => intro r1 M mq S2 hd; exact absurd hd (Nat.not_lt_zero _)
          | succ d9 ih73 =>
            intro r1 M mq S2 hd73 hr1 hS2 hN2 hM2 H locs ls hP hD hS hl
            refine lv_iload hx hb dX6_play_73 (lv_at hl 6 rfl) ?_
            refine lv_aload_n hx hb dX6_play_75 rfl (lv_at hl 0 rfl) ?_
            refine lv_iload_n hx hb dX6_play_76 rfl (lv_at hl 3 rfl) ?_
            refine lv_iconst (v := 3) hx hb dX6_play_77 (by decide) ?_
            have hP9 := hP.sub (ws' := [oO mo 6 [.int 0, .ref a1, .int (nI nC), .ref a2, .ref a3, .ref a4, .ref a5, .ref a6, .ref a7, .ref a8, .ref a9, .int (nI nS), .ref a10, .int (nI M), .ref a11], aI D a10 130 pa]) [0, 5] rfl
            refine vp_callSi (pV (rest := [.int (nI r1)]) (qc := (RX6, TX6, 15)) [.int (nI i), .int 3] 2 hC (m_part l D (mo := mo) (i := i) (w := 3) (th := 0) (a1 := a1) (nC := nC) (a2 := a2) (a3 := a3) (a4 := a4) (a5 := a5) (a6 := a6) (a7 := a7) (a8 := a8) (a9 := a9) (nS := nS) (a10 := a10) (nM := M) (a11 := a11) (pa := pa) (by omega) (by omega)) rfl (hP 0 _ rfl) (gV mM_X6_120 mI_X6_part mS_X6_part mN_X6 mC_X6_part) (by decide +kernel) rfl rfl ⟨Nat.le_of_ble_eq_true rfl, Nat.le_of_ble_eq_true rfl⟩ hG hP9 rfl hl.1 rfl (Nat.le_of_ble_eq_true rfl) dX6_play_78 ⟨by show _ ≤ 720; omega, by show _ ≤ 2880; omega⟩) (fun r78 h78 => ?_)
            obtain rfl : r78 = (pa (13 * i + 3)) := h78
            refine tpi (y := nI (RR i)) ((hpa i hi9 3 (by decide) (by decide)).trans (hR i hi9)) ?_
            refine lv_icmp_ge (tgt := 215) hx hb dX6_play_81 (by decide) (fun c81 => ?_) (fun c81 => ?_)
            · skip
              have n81 := (nI_leI (a := RR i) (b := r1) (by omega) (by omega)).mp c81
              have hk9 : r1 = RR i := by omega
              subst r1
              refine lv_iinc (v := nI (i + 1)) (lv' := [(3, .int (nI (i + 1))), (0, .ref mo), (1, .int x), (2, .int y), (4, .int (nI (8 * ck i))), (5, .int (nI (nc (ck i)))), (6, .int (nI (RR i)))]) hx hb dX6_play_215 hl (k := 3) rfl (nI_1 _) (by decide) rfl (fun ls hl => ?_)
              refine lv_goto (tgt := 38) hx hb dX6_play_218 (by decide) ?_
              exact ih38 (i + 1) M mq S2 (by omega) (by omega) (by rw [ncP, ← hS1]; exact hS2) (hN2) (by omega) _ _ _ hP hD hS (lv_sub hl [1, 2, 3, 0] rfl)
            · skip
              have n81 := mt (nI_leI (a := RR i) (b := r1) (by omega) (by omega)).mpr c81
              refine lv_iconst (v := 0) hx hb dX6_play_84 (by decide) ?_
              refine lv_istore (lv' := [(7, .int 0), (0, .ref mo), (1, .int x), (2, .int y), (3, .int (nI i)), (4, .int (nI (8 * ck i))), (5, .int (nI (nc (ck i)))), (6, .int (nI r1))]) hx hb dX6_play_85 hl (by decide) rfl (fun ls hl => ?_)
              have loop87 : ∀ (d9 : Nat) (k1 : Nat) (M : Nat) (mq : Nat → Int32) (S3 : NS), (nc (ck i) - k1) < d9 → (k1 ≤ nc (ck i)) → (S3 = ncR (len (ck i)) (pt i) (ct (ck i)) (cn (ck i)) x y i r1 (nc (ck i)) S2 k1) → (NR S3 M mq) → (M ≤ 72 * i + 8 * r1 + k1) → ∀ (H : Heap) (locs : List Loc) (ls : Array Slot), va_P D cls [oO mo 6 [.int 0, .ref a1, .int (nI nC), .ref a2, .ref a3, .ref a4, .ref a5, .ref a6, .ref a7, .ref a8, .ref a9, .int (nI nS), .ref a10, .int (nI M), .ref a11], aI D a2 6 ln, aI D a7 6 qs, aI D a8 48 qt, aI D a9 48 qn, aI D a10 130 pa, aI D a11 2880 mq] H → va_D A [oO mo 6 [.int 0, .ref a1, .int (nI nC), .ref a2, .ref a3, .ref a4, .ref a5, .ref a6, .ref a7, .ref a8, .ref a9, .int (nI nS), .ref a10, .int (nI M), .ref a11], aI D a2 6 ln, aI D a7 6 qs, aI D a8 48 qt, aI D a9 48 qn, aI D a10 130 pa, aI D a11 2880 mq] → va_S A s.heap H locs → lv_has ls 11 [(0, .ref mo), (1, .int x), (2, .int y), (3, .int (nI i)), (4, .int (nI (8 * ck i))), (5, .int (nI (nc (ck i)))), (6, .int (nI r1)), (7, .int (nI k1))] → W p l e ({ frames := 2, cells := 720, slots := 2880, locals := 80 } : Room) s m ([.ref mo, .int x, .int y] : List Value).toArray below meth c H locs M (4 * M) (MQ below (va_Qi (fun v ((M, mq) : Nat × (Nat → Int32)) => v = nI M ∧ M ≤ 720 ∧ NR (ncP (fun z => len (ck z)) pt (fun z => ct (ck z)) (fun z => cn (ck z)) (fun z => nc (ck z)) RR x y (0, f, 0) nS) M mq) (AT D A (fun ((M, mq) : Nat × (Nat → Int32)) => [oO mo 6 [.int 0, .ref a1, .int (nI nC), .ref a2, .ref a3, .ref a4, .ref a5, .ref a6, .ref a7, .ref a8, .ref a9, .int (nI nS), .ref a10, .int (nI M), .ref a11], aI D a2 6 ln, aI D a7 6 qs, aI D a8 48 qt, aI D a9 48 qn, aI D a10 130 pa, aI D a11 2880 mq])) A) ([.ref mo, .int x, .int y] : List Value).toArray s 720 2880 A) (F0 m 87 ls []) := by
                intro d9
                induction d9 with
                | zero => intro k1 M mq S3 hd; exact absurd hd (Nat.not_lt_zero _)
                | succ d9 ih87 =>
                  intro k1 M mq S3 hd87 hk1 hS3 hN3 hM3 H locs ls hP hD hS hl
                  refine lv_iload hx hb dX6_play_87 (lv_at hl 7 rfl) ?_
                  refine lv_iload hx hb dX6_play_89 (lv_at hl 5 rfl) ?_
                  refine lv_icmp_ge (tgt := 209) hx hb dX6_play_91 (by decide) (fun c91 => ?_) (fun c91 => ?_)
                  · skip
                    have n91 := (nI_leI (a := nc (ck i)) (b := k1) (by omega) (by omega)).mp c91
                    have hk9 : k1 = nc (ck i) := by omega
                    subst k1
                    refine lv_iinc (v := nI (r1 + 1)) (lv' := [(6, .int (nI (r1 + 1))), (0, .ref mo), (1, .int x), (2, .int y), (3, .int (nI i)), (4, .int (nI (8 * ck i))), (5, .int (nI (nc (ck i)))), (7, .int (nI (nc (ck i))))]) hx hb dX6_play_209 hl (k := 6) rfl (nI_1 _) (by decide) rfl (fun ls hl => ?_)
                    refine lv_goto (tgt := 73) hx hb dX6_play_212 (by decide) ?_
                    exact ih73 (r1 + 1) M mq S3 (by omega) (by omega) (by rw [ncA, ← hS2]; exact hS3) (hN3) (by omega) _ _ _ hP hD hS (lv_sub hl [1, 2, 3, 4, 5, 6, 0] rfl)
                  · skip
                    have n91 := mt (nI_leI (a := nc (ck i)) (b := k1) (by omega) (by omega)).mpr c91
                    refine lv_aload_n hx hb dX6_play_94 rfl (lv_at hl 0 rfl) ?_
                    refine lv_iload_n hx hb dX6_play_95 rfl (lv_at hl 3 rfl) ?_
                    refine lv_iload hx hb dX6_play_96 (lv_at hl 6 rfl) ?_
                    have hP9 := hP.sub (ws' := [oO mo 6 [.int 0, .ref a1, .int (nI nC), .ref a2, .ref a3, .ref a4, .ref a5, .ref a6, .ref a7, .ref a8, .ref a9, .int (nI nS), .ref a10, .int (nI M), .ref a11], aI D a2 6 ln, aI D a10 130 pa]) [0, 1, 5] rfl
                    refine vp_callSi (pV (rest := []) (qc := (RX6, TX6, 15)) [.int (nI i), .int (nI r1)] 2 hC (m_isBack l D (pt := pt i) (c0 := ck i) (len := len (ck i)) (mo := mo) (i := i) (x := nI r1) (th := 0) (a1 := a1) (nC := nC) (a2 := a2) (a3 := a3) (a4 := a4) (a5 := a5) (a6 := a6) (a7 := a7) (a8 := a8) (a9 := a9) (nS := nS) (a10 := a10) (nM := M) (a11 := a11) (ln := ln) (pa := pa) (by omega) (hpa i hi9) (hc0 i hi9) (hc6 i hi9) (hlq i hi9)) rfl (hP 0 _ rfl) (gV mM_X6_141 mI_X6_isBack mS_X6_isBack mN_X6 mC_X6_isBack) (by decide +kernel) rfl rfl ⟨Nat.le_of_ble_eq_true rfl, Nat.le_of_ble_eq_true rfl⟩ hG hP9 rfl hl.1 rfl (Nat.le_of_ble_eq_true rfl) dX6_play_98 ⟨by show _ ≤ 720; omega, by show _ ≤ 2880; omega⟩) (fun r98 h98 => ?_)
                    rcases h98 with ⟨rfl, hb98⟩ | ⟨rfl, hb98⟩
                    · skip
                      have hcX : cueX (pt i) r1 (nc (ck i)) k1 = nc (ck i) - 1 - k1 := if_pos hb98
                      refine lv_if_eq (tgt := 117) hx hb dX6_play_101 (by decide) (fun h9 => absurd h9 (by decide)) (fun _ => ?_)
                      refine lv_iload hx hb dX6_play_104 (lv_at hl 4 rfl) ?_
                      refine lv_iload hx hb dX6_play_106 (lv_at hl 5 rfl) ?_
                      refine lv_iadd hx hb dX6_play_108 ?_
                      refine tpi (y := nI ((8 * ck i) + (nc (ck i)))) (nI_add (8 * ck i) (nc (ck i))) ?_
                      refine lv_iconst (v := 1) hx hb dX6_play_109 (by decide) ?_
                      refine lv_isub hx hb dX6_play_110 ?_
                      refine tpi (y := nI (((8 * ck i) + (nc (ck i))) - 1)) (pk_sub (a := ((8 * ck i) + (nc (ck i)))) (b := 1) (by omega)) ?_
                      refine lv_iload hx hb dX6_play_111 (lv_at hl 7 rfl) ?_
                      refine lv_isub hx hb dX6_play_113 ?_
                      refine tpi (y := nI ((((8 * ck i) + (nc (ck i))) - 1) - k1)) (pk_sub (a := (((8 * ck i) + (nc (ck i))) - 1)) (b := k1) (by omega)) ?_
                      refine lv_goto (tgt := 122) hx hb dX6_play_114 (by decide) ?_
                      refine lv_istore (lv' := [(8, .int (nI ((((8 * ck i) + (nc (ck i))) - 1) - k1))), (0, .ref mo), (1, .int x), (2, .int y), (3, .int (nI i)), (4, .int (nI (8 * ck i))), (5, .int (nI (nc (ck i)))), (6, .int (nI r1)), (7, .int (nI k1))]) hx hb dX6_play_122 hl (by decide) rfl (fun ls hl => ?_)
                      refine lv_aload_n hx hb dX6_play_124 rfl (lv_at hl 1 rfl) ?_
                      refine lv_iload_n hx hb dX6_play_125 rfl (lv_at hl 4 rfl) ?_
                      refine lv_iload hx hb dX6_play_126 (lv_at hl 7 rfl) ?_
                      have hP9 := hP.sub (ws' := [oO mo 6 [.int 0, .ref a1, .int (nI nC), .ref a2, .ref a3, .ref a4, .ref a5, .ref a6, .ref a7, .ref a8, .ref a9, .int (nI nS), .ref a10, .int (nI M), .ref a11], aI D a2 6 ln, aI D a10 130 pa]) [0, 1, 5] rfl
                      refine vp_callSi (pV (rest := []) (qc := (RX6, TX6, 15)) [.int (nI i), .int (nI r1)] 2 hC (m_isBack l D (pt := pt i) (c0 := ck i) (len := len (ck i)) (mo := mo) (i := i) (x := nI r1) (th := 0) (a1 := a1) (nC := nC) (a2 := a2) (a3 := a3) (a4 := a4) (a5 := a5) (a6 := a6) (a7 := a7) (a8 := a8) (a9 := a9) (nS := nS) (a10 := a10) (nM := M) (a11 := a11) (ln := ln) (pa := pa) (by omega) (hpa i hi9) (hc0 i hi9) (hc6 i hi9) (hlq i hi9)) rfl (hP 0 _ rfl) (gV mM_X6_141 mI_X6_isBack mS_X6_isBack mN_X6 mC_X6_isBack) (by decide +kernel) rfl rfl ⟨Nat.le_of_ble_eq_true rfl, Nat.le_of_ble_eq_true rfl⟩ hG hP9 rfl hl.1 rfl (Nat.le_of_ble_eq_true rfl) dX6_play_128 ⟨by show _ ≤ 720; omega, by show _ ≤ 2880; omega⟩) (fun r128 h128 => ?_)
                      rcases h128 with ⟨rfl, hb128⟩ | ⟨rfl, hb128⟩
                      rotate_left
                      · exact absurd (hb98) hb128
                      refine lv_if_eq (tgt := 150) hx hb dX6_play_131 (by decide) (fun h9 => absurd h9 (by decide)) (fun _ => ?_)
                      refine lv_aload_n hx hb dX6_play_134 rfl (lv_at hl 1 rfl) ?_
                      refine lv_iload_n hx hb dX6_play_135 rfl (lv_at hl 4 rfl) ?_
                      have hP9 := hP.sub (ws' := [oO mo 6 [.int 0, .ref a1, .int (nI nC), .ref a2, .ref a3, .ref a4, .ref a5, .ref a6, .ref a7, .ref a8, .ref a9, .int (nI nS), .ref a10, .int (nI M), .ref a11], aI D a2 6 ln, aI D a10 130 pa]) [0, 1, 5] rfl
                      refine vp_callSi (pV (rest := []) (qc := (RX6, TX6, 15)) [.int (nI i)] 1 hC (m_length l D (pt := pt i) (c0 := ck i) (len := len (ck i)) (mo := mo) (i := i) (th := 0) (a1 := a1) (nC := nC) (a2 := a2) (a3 := a3) (a4 := a4) (a5 := a5) (a6 := a6) (a7 := a7) (a8 := a8) (a9 := a9) (nS := nS) (a10 := a10) (nM := M) (a11 := a11) (ln := ln) (pa := pa) (by omega) (hpa i hi9) (hc0 i hi9) (hc6 i hi9) (hlq i hi9)) rfl (hP 0 _ rfl) (gV mM_X6_123 mI_X6_length mS_X6_length mN_X6 mC_X6_length) (by decide +kernel) rfl rfl ⟨Nat.le_of_ble_eq_true rfl, Nat.le_of_ble_eq_true rfl⟩ hG hP9 rfl hl.1 rfl (Nat.le_of_ble_eq_true rfl) dX6_play_136 ⟨by show _ ≤ 720; omega, by show _ ≤ 2880; omega⟩) (fun r136 h136 => ?_)
                      obtain rfl : r136 = (len (ck i)) := h136
                      refine lv_aload_n hx hb dX6_play_139 rfl (lv_at hl 1 rfl) ?_
                      refine va_get (D := D) (ci := 6) (v := .ref a8) (C := RX6) (T := TX6) (N := 15) hx hb hts inlX6 hown hG.K hP 0 rfl rfl 9 (by decide) (hts _ mF_X6_31) (fun _ h9 => h9) rfl dX6_play_140 ?_
                      refine lv_iload hx hb dX6_play_143 (lv_at hl 0 rfl) ?_
                      refine ild (n := 48) (j := (((8 * ck i) + (nc (ck i))) - 1) - k1) hx hb hG hP 3 rfl (by omega) (by omega) dX6_play_145 ?_
                      refine tpi (y := ct (ck i) (nc (ck i) - 1 - k1)) (by rw [show 8 * ck i + nc (ck i) - 1 - k1 = 8 * ck i + (nc (ck i) - 1 - k1) by omega]; exact hqt i hi9 _ (by omega)) ?_
                      refine lv_isub hx hb dX6_play_146 ?_
                      refine lv_goto (tgt := 157) hx hb dX6_play_147 (by decide) ?_
                      refine lv_istore (lv' := [(9, .int ((len (ck i)) - (ct (ck i) (nc (ck i) - 1 - k1)))), (8, .int (nI ((((8 * ck i) + (nc (ck i))) - 1) - k1))), (0, .ref mo), (1, .int x), (2, .int y), (3, .int (nI i)), (4, .int (nI (8 * ck i))), (5, .int (nI (nc (ck i)))), (6, .int (nI r1)), (7, .int (nI k1))]) hx hb dX6_play_157 hl (by decide) rfl (fun ls hl => ?_)
                      refine lv_aload_n hx hb dX6_play_159 rfl (lv_at hl 2 rfl) ?_
                      refine lv_iload_n hx hb dX6_play_160 rfl (lv_at hl 5 rfl) ?_
                      refine lv_iload hx hb dX6_play_161 (lv_at hl 8 rfl) ?_
                      refine lv_aload_n hx hb dX6_play_163 rfl (lv_at hl 2 rfl) ?_
                      refine lv_iload_n hx hb dX6_play_164 rfl (lv_at hl 5 rfl) ?_
                      have hP9 := hP.sub (ws' := [oO mo 6 [.int 0, .ref a1, .int (nI nC), .ref a2, .ref a3, .ref a4, .ref a5, .ref a6, .ref a7, .ref a8, .ref a9, .int (nI nS), .ref a10, .int (nI M), .ref a11], aI D a2 6 ln, aI D a10 130 pa]) [0, 1, 5] rfl
                      refine vp_callSi (pV (rest := [.int (nI r1), .int (nI i), .ref mo]) (qc := (RX6, TX6, 15)) [.int (nI i)] 1 hC (m_length l D (pt := pt i) (c0 := ck i) (len := len (ck i)) (mo := mo) (i := i) (th := 0) (a1 := a1) (nC := nC) (a2 := a2) (a3 := a3) (a4 := a4) (a5 := a5) (a6 := a6) (a7 := a7) (a8 := a8) (a9 := a9) (nS := nS) (a10 := a10) (nM := M) (a11 := a11) (ln := ln) (pa := pa) (by omega) (hpa i hi9) (hc0 i hi9) (hc6 i hi9) (hlq i hi9)) rfl (hP 0 _ rfl) (gV mM_X6_123 mI_X6_length mS_X6_length mN_X6 mC_X6_length) (by decide +kernel) rfl rfl ⟨Nat.le_of_ble_eq_true rfl, Nat.le_of_ble_eq_true rfl⟩ hG hP9 rfl hl.1 rfl (Nat.le_of_ble_eq_true rfl) dX6_play_165 ⟨by show _ ≤ 720; omega, by show _ ≤ 2880; omega⟩) (fun r165 h165 => ?_)
                      obtain rfl : r165 = (len (ck i)) := h165
                      refine lv_imul hx hb dX6_play_168 ?_
                      refine lv_iload hx hb dX6_play_169 (lv_at hl 0 rfl) ?_
                      refine lv_iadd hx hb dX6_play_171 ?_
                      have hP9 := hP.sub (ws' := [oO mo 6 [.int 0, .ref a1, .int (nI nC), .ref a2, .ref a3, .ref a4, .ref a5, .ref a6, .ref a7, .ref a8, .ref a9, .int (nI nS), .ref a10, .int (nI M), .ref a11], aI D a2 6 ln, aI D a10 130 pa]) [0, 1, 5] rfl
                      refine vp_callSi (pV (rest := []) (qc := (RX6, TX6, 15)) [.int (nI i), .int (((nI r1) * (len (ck i))) + ((len (ck i)) - (ct (ck i) (nc (ck i) - 1 - k1))))] 2 hC (m_timeOf l D (pt := pt i) (c0 := ck i) (len := len (ck i)) (mo := mo) (i := i) (x := ((nI r1) * (len (ck i))) + ((len (ck i)) - (ct (ck i) (nc (ck i) - 1 - k1)))) (th := 0) (a1 := a1) (nC := nC) (a2 := a2) (a3 := a3) (a4 := a4) (a5 := a5) (a6 := a6) (a7 := a7) (a8 := a8) (a9 := a9) (nS := nS) (a10 := a10) (nM := M) (a11 := a11) (ln := ln) (pa := pa) (by omega) (hpa i hi9) (hc0 i hi9) (hc6 i hi9) (hlq i hi9) (pos1 ((fa_le _ _).mpr (hO i hi9).b5.1))) rfl (hP 0 _ rfl) (gV mM_X6_129 mI_X6_timeOf mS_X6_timeOf mN_X6 mC_X6_timeOf) (by decide +kernel) rfl rfl ⟨Nat.le_of_ble_eq_true rfl, Nat.le_of_ble_eq_true rfl⟩ hG hP9 rfl hl.1 rfl (Nat.le_of_ble_eq_true rfl) dX6_play_172 ⟨by show _ ≤ 720; omega, by show _ ≤ 2880; omega⟩) (fun r172 h172 => ?_)
                      obtain rfl : r172 = (timeOfS (pt i) (((nI r1) * (len (ck i))) + ((len (ck i)) - (ct (ck i) (nc (ck i) - 1 - k1))))) := h172
                      refine tpi (y := meetS (len (ck i)) (pt i) (nI r1) (ct (ck i) (nc (ck i) - 1 - k1))) (by rw [meetS, if_pos hb98]) ?_
                      refine lv_istore (lv' := [(10, .int (meetS (len (ck i)) (pt i) (nI r1) (ct (ck i) (nc (ck i) - 1 - k1)))), (9, .int ((len (ck i)) - (ct (ck i) (nc (ck i) - 1 - k1)))), (8, .int (nI ((((8 * ck i) + (nc (ck i))) - 1) - k1))), (0, .ref mo), (1, .int x), (2, .int y), (3, .int (nI i)), (4, .int (nI (8 * ck i))), (5, .int (nI (nc (ck i)))), (6, .int (nI r1)), (7, .int (nI k1))]) hx hb dX6_play_175 hl (by decide) rfl (fun ls hl => ?_)
                      refine lv_iload hx hb dX6_play_177 (lv_at hl 0 rfl) ?_
                      refine lv_iload_n hx hb dX6_play_179 rfl (lv_at hl 4 rfl) ?_
                      refine lv_iload_n hx hb dX6_play_180 rfl (lv_at hl 5 rfl) ?_
                      have hP9 : va_P D cls [] H := fun k q h => by simp at h
                      refine vp_callSi (pS (rest := []) [.int (meetS (len (ck i)) (pt i) (nI r1) (ct (ck i) (nc (ck i) - 1 - k1))), .int x, .int y] 3 hC (m_isIn l D (x := meetS (len (ck i)) (pt i) (nI r1) (ct (ck i) (nc (ck i) - 1 - k1))) (a := x) (b := y) ) (gS mM_X6_50 mT_X6_isIn mN_X6 mC_X6_isIn) (by decide +kernel) rfl rfl ⟨Nat.le_of_ble_eq_true rfl, Nat.le_of_ble_eq_true rfl⟩ hG hP9 rfl hl.1 rfl (Nat.le_of_ble_eq_true rfl) dX6_play_181 ⟨by show _ ≤ 720; omega, by show _ ≤ 2880; omega⟩) (fun r181 h181 => ?_)
                      rcases h181 with ⟨rfl, hb181⟩ | ⟨rfl, hb181⟩
                      · skip
                        refine lv_if_eq (tgt := 203) hx hb dX6_play_184 (by decide) (fun h9 => absurd h9 (by decide)) (fun _ => ?_)
                        refine lv_aload_n hx hb dX6_play_187 rfl (lv_at hl 3 rfl) ?_
                        refine lv_iload hx hb dX6_play_188 (lv_at hl 0 rfl) ?_
                        refine lv_iload_n hx hb dX6_play_190 rfl (lv_at hl 6 rfl) ?_
                        refine lv_iload hx hb dX6_play_191 (lv_at hl 9 rfl) ?_
                        refine lv_aload_n hx hb dX6_play_193 rfl (lv_at hl 3 rfl) ?_
                        refine va_get (D := D) (ci := 6) (v := .ref a9) (C := RX6) (T := TX6) (N := 15) hx hb hts inlX6 hown hG.K hP 0 rfl rfl 10 (by decide) (hts _ mF_X6_34) (fun _ h9 => h9) rfl dX6_play_194 ?_
                        refine lv_iload hx hb dX6_play_197 (lv_at hl 2 rfl) ?_
                        refine ild (n := 48) (j := (((8 * ck i) + (nc (ck i))) - 1) - k1) hx hb hG hP 4 rfl (by omega) (by omega) dX6_play_199 ?_
                        refine tpi (y := cn (ck i) (nc (ck i) - 1 - k1)) (by rw [show 8 * ck i + nc (ck i) - 1 - k1 = 8 * ck i + (nc (ck i) - 1 - k1) by omega]; exact hqn i hi9 _ (by omega)) ?_
                        have hP9 := hP.sub (ws' := [oO mo 6 [.int 0, .ref a1, .int (nI nC), .ref a2, .ref a3, .ref a4, .ref a5, .ref a6, .ref a7, .ref a8, .ref a9, .int (nI nS), .ref a10, .int (nI M), .ref a11], aI D a11 2880 mq]) [0, 6] rfl
                        have hD9 := (hD.sub (ws' := [oO mo 6 [.int 0, .ref a1, .int (nI nC), .ref a2, .ref a3, .ref a4, .ref a5, .ref a6, .ref a7, .ref a8, .ref a9, .int (nI nS), .ref a10, .int (nI M), .ref a11], aI D a11 2880 mq]) [0, 6] (by decide) rfl).weaken (B := fun _ => True) (fun _ _ _ _ => trivial)
                        refine kv (wr := [aI D a2 6 ln, aI D a7 6 qs, aI D a8 48 qt, aI D a9 48 qn, aI D a10 130 pa]) (rV (rest := []) (qc := (RX6, TX6, 15)) [.int (meetS (len (ck i)) (pt i) (nI r1) (ct (ck i) (nc (ck i) - 1 - k1))), .int (nI i), .int (nI r1), .int (cn (ck i) (nc (ck i) - 1 - k1))] 4 1 4 hC (m_note l D (d := cntLe (fun q => mq (4 * q)) (meetS (len (ck i)) (pt i) (nI r1) (ct (ck i) (nc (ck i) - 1 - k1))) M) (mo := mo) (x := meetS (len (ck i)) (pt i) (nI r1) (ct (ck i) (nc (ck i) - 1 - k1))) (y := nI i) (z := nI r1) (u := cn (ck i) (nc (ck i) - 1 - k1)) (th := 0) (a1 := a1) (nC := nC) (a2 := a2) (a3 := a3) (a4 := a4) (a5 := a5) (a6 := a6) (a7 := a7) (a8 := a8) (a9 := a9) (nS := nS) (a10 := a10) (nM := M) (a11 := a11) (mm := mq) (hz0 := H.size) (by omega) (cntLe_le _ _ _) (fun q h1 h2 => cntLe_gt (f := fun q => mq (4 * q)) q h1 h2) (fun h9 => Int32.not_lt.mpr (cntLe_last (f := fun q => mq (4 * q)) h9))) rfl (hP 0 _ rfl) (gV mM_X6_171 mI_X6_note mS_X6_note mN_X6 mC_X6_note) (by decide +kernel) rfl rfl ⟨Nat.le_of_ble_eq_true rfl, Nat.le_of_ble_eq_true rfl⟩ hG hP9 hD9 rfl hl.1 rfl (Nat.le_of_ble_eq_true rfl) dX6_play_200 ⟨by show _ ≤ 720; omega, by show _ ≤ 2880; omega⟩) hP hD hS hA [0, 6] [1, 2, 3, 4, 5] rfl rfl (by decide) (by decide) (fun u200 H locs h200 hP hD hS hz hfr => ?_)
                        have hP : va_P D cls [aI D a2 6 ln, aI D a7 6 qs, aI D a8 48 qt, aI D a9 48 qn, aI D a10 130 pa, oO mo 6 [.int 0, .ref a1, .int (nI nC), .ref a2, .ref a3, .ref a4, .ref a5, .ref a6, .ref a7, .ref a8, .ref a9, .int (nI nS), .ref a10, .int (nI (M + 1)), .ref a11], aI D a11 2880 (in4 mq (cntLe (fun q => mq (4 * q)) (meetS (len (ck i)) (pt i) (nI r1) (ct (ck i) (nc (ck i) - 1 - k1))) M) M (meetS (len (ck i)) (pt i) (nI r1) (ct (ck i) (nc (ck i) - 1 - k1))) (nI i) (nI r1) (cn (ck i) (nc (ck i) - 1 - k1)))] H := hP
                        have hD : va_D A [aI D a2 6 ln, aI D a7 6 qs, aI D a8 48 qt, aI D a9 48 qn, aI D a10 130 pa, oO mo 6 [.int 0, .ref a1, .int (nI nC), .ref a2, .ref a3, .ref a4, .ref a5, .ref a6, .ref a7, .ref a8, .ref a9, .int (nI nS), .ref a10, .int (nI (M + 1)), .ref a11], aI D a11 2880 (in4 mq (cntLe (fun q => mq (4 * q)) (meetS (len (ck i)) (pt i) (nI r1) (ct (ck i) (nc (ck i) - 1 - k1))) M) M (meetS (len (ck i)) (pt i) (nI r1) (ct (ck i) (nc (ck i) - 1 - k1))) (nI i) (nI r1) (cn (ck i) (nc (ck i) - 1 - k1)))] := hD
                        refine W.widen (k := M + 1) (n := 4 * (M + 1)) (by omega) (by omega) ?_
                        refine lv_iinc (v := nI (k1 + 1)) (lv' := [(7, .int (nI (k1 + 1))), (10, .int (meetS (len (ck i)) (pt i) (nI r1) (ct (ck i) (nc (ck i) - 1 - k1)))), (9, .int ((len (ck i)) - (ct (ck i) (nc (ck i) - 1 - k1)))), (8, .int (nI ((((8 * ck i) + (nc (ck i))) - 1) - k1))), (0, .ref mo), (1, .int x), (2, .int y), (3, .int (nI i)), (4, .int (nI (8 * ck i))), (5, .int (nI (nc (ck i)))), (6, .int (nI r1))]) hx hb dX6_play_203 hl (k := 10) rfl (nI_1 _) (by decide) rfl (fun ls hl => ?_)
                        refine lv_goto (tgt := 87) hx hb dX6_play_206 (by decide) ?_
                        exact ih87 (k1 + 1) (M + 1) (in4 mq (cntLe (fun q => mq (4 * q)) (meetS (len (ck i)) (pt i) (nI r1) (ct (ck i) (nc (ck i) - 1 - k1))) M) M (meetS (len (ck i)) (pt i) (nI r1) (ct (ck i) (nc (ck i) - 1 - k1))) (nI i) (nI r1) (cn (ck i) (nc (ck i) - 1 - k1))) (noteS (meetS (len (ck i)) (pt i) (nI r1) (ct (ck i) (nc (ck i) - 1 - k1))) (nI i) (nI r1) (cn (ck i) (nc (ck i) - 1 - k1)) S3) (by omega) (by omega) (by rw [ncR, ← hS3, ncS, hcX, if_pos hb181]) (NR_step hN3) (by omega) _ _ _ (hP.sub [5, 0, 1, 2, 3, 4, 6] rfl) (hD.sub [5, 0, 1, 2, 3, 4, 6] (by decide) rfl) hS (lv_sub hl [4, 5, 6, 7, 8, 9, 10, 0] rfl)
                      · skip
                        refine lv_if_eq (tgt := 203) hx hb dX6_play_184 (by decide) (fun _ => ?_) (fun h9 => (h9 (by decide)).elim)
                        refine lv_iinc (v := nI (k1 + 1)) (lv' := [(7, .int (nI (k1 + 1))), (10, .int (meetS (len (ck i)) (pt i) (nI r1) (ct (ck i) (nc (ck i) - 1 - k1)))), (9, .int ((len (ck i)) - (ct (ck i) (nc (ck i) - 1 - k1)))), (8, .int (nI ((((8 * ck i) + (nc (ck i))) - 1) - k1))), (0, .ref mo), (1, .int x), (2, .int y), (3, .int (nI i)), (4, .int (nI (8 * ck i))), (5, .int (nI (nc (ck i)))), (6, .int (nI r1))]) hx hb dX6_play_203 hl (k := 10) rfl (nI_1 _) (by decide) rfl (fun ls hl => ?_)
                        refine lv_goto (tgt := 87) hx hb dX6_play_206 (by decide) ?_
                        exact ih87 (k1 + 1) M mq S3 (by omega) (by omega) (by rw [ncR, ← hS3, ncS, hcX, if_neg hb181]) (hN3) (by omega) _ _ _ hP hD hS (lv_sub hl [4, 5, 6, 7, 8, 9, 10, 0] rfl)
                    · skip
                      have hcX : cueX (pt i) r1 (nc (ck i)) k1 = k1 := if_neg hb98
                      refine lv_if_eq (tgt := 117) hx hb dX6_play_101 (by decide) (fun _ => ?_) (fun h9 => (h9 (by decide)).elim)
                      refine lv_iload hx hb dX6_play_117 (lv_at hl 4 rfl) ?_
                      refine lv_iload hx hb dX6_play_119 (lv_at hl 7 rfl) ?_
                      refine lv_iadd hx hb dX6_play_121 ?_
                      refine tpi (y := nI ((8 * ck i) + k1)) (nI_add (8 * ck i) k1) ?_
                      refine lv_istore (lv' := [(8, .int (nI ((8 * ck i) + k1))), (0, .ref mo), (1, .int x), (2, .int y), (3, .int (nI i)), (4, .int (nI (8 * ck i))), (5, .int (nI (nc (ck i)))), (6, .int (nI r1)), (7, .int (nI k1))]) hx hb dX6_play_122 hl (by decide) rfl (fun ls hl => ?_)
                      refine lv_aload_n hx hb dX6_play_124 rfl (lv_at hl 1 rfl) ?_
                      refine lv_iload_n hx hb dX6_play_125 rfl (lv_at hl 4 rfl) ?_
                      refine lv_iload hx hb dX6_play_126 (lv_at hl 7 rfl) ?_
                      have hP9 := hP.sub (ws' := [oO mo 6 [.int 0, .ref a1, .int (nI nC), .ref a2, .ref a3, .ref a4, .ref a5, .ref a6, .ref a7, .ref a8, .ref a9, .int (nI nS), .ref a10, .int (nI M), .ref a11], aI D a2 6 ln, aI D a10 130 pa]) [0, 1, 5] rfl
                      refine vp_callSi (pV (rest := []) (qc := (RX6, TX6, 15)) [.int (nI i), .int (nI r1)] 2 hC (m_isBack l D (pt := pt i) (c0 := ck i) (len := len (ck i)) (mo := mo) (i := i) (x := nI r1) (th := 0) (a1 := a1) (nC := nC) (a2 := a2) (a3 := a3) (a4 := a4) (a5 := a5) (a6 := a6) (a7 := a7) (a8 := a8) (a9 := a9) (nS := nS) (a10 := a10) (nM := M) (a11 := a11) (ln := ln) (pa := pa) (by omega) (hpa i hi9) (hc0 i hi9) (hc6 i hi9) (hlq i hi9)) rfl (hP 0 _ rfl) (gV mM_X6_141 mI_X6_isBack mS_X6_isBack mN_X6 mC_X6_isBack) (by decide +kernel) rfl rfl ⟨Nat.le_of_ble_eq_true rfl, Nat.le_of_ble_eq_true rfl⟩ hG hP9 rfl hl.1 rfl (Nat.le_of_ble_eq_true rfl) dX6_play_128 ⟨by show _ ≤ 720; omega, by show _ ≤ 2880; omega⟩) (fun r128 h128 => ?_)
                      rcases h128 with ⟨rfl, hb128⟩ | ⟨rfl, hb128⟩
                      · exact absurd hb128 (hb98)
                      refine lv_if_eq (tgt := 150) hx hb dX6_play_131 (by decide) (fun _ => ?_) (fun h9 => (h9 (by decide)).elim)
                      refine lv_aload_n hx hb dX6_play_150 rfl (lv_at hl 1 rfl) ?_
                      refine va_get (D := D) (ci := 6) (v := .ref a8) (C := RX6) (T := TX6) (N := 15) hx hb hts inlX6 hown hG.K hP 0 rfl rfl 9 (by decide) (hts _ mF_X6_31) (fun _ h9 => h9) rfl dX6_play_151 ?_
                      refine lv_iload hx hb dX6_play_154 (lv_at hl 0 rfl) ?_
                      refine ild (n := 48) (j := (8 * ck i) + k1) hx hb hG hP 3 rfl (by omega) (by omega) dX6_play_156 ?_
                      refine tpi (y := ct (ck i) k1) (hqt i hi9 _ (by omega)) ?_
                      refine lv_istore (lv' := [(9, .int (ct (ck i) k1)), (8, .int (nI ((8 * ck i) + k1))), (0, .ref mo), (1, .int x), (2, .int y), (3, .int (nI i)), (4, .int (nI (8 * ck i))), (5, .int (nI (nc (ck i)))), (6, .int (nI r1)), (7, .int (nI k1))]) hx hb dX6_play_157 hl (by decide) rfl (fun ls hl => ?_)
                      refine lv_aload_n hx hb dX6_play_159 rfl (lv_at hl 2 rfl) ?_
                      refine lv_iload_n hx hb dX6_play_160 rfl (lv_at hl 5 rfl) ?_
                      refine lv_iload hx hb dX6_play_161 (lv_at hl 8 rfl) ?_
                      refine lv_aload_n hx hb dX6_play_163 rfl (lv_at hl 2 rfl) ?_
                      refine lv_iload_n hx hb dX6_play_164 rfl (lv_at hl 5 rfl) ?_
                      have hP9 := hP.sub (ws' := [oO mo 6 [.int 0, .ref a1, .int (nI nC), .ref a2, .ref a3, .ref a4, .ref a5, .ref a6, .ref a7, .ref a8, .ref a9, .int (nI nS), .ref a10, .int (nI M), .ref a11], aI D a2 6 ln, aI D a10 130 pa]) [0, 1, 5] rfl
                      refine vp_callSi (pV (rest := [.int (nI r1), .int (nI i), .ref mo]) (qc := (RX6, TX6, 15)) [.int (nI i)] 1 hC (m_length l D (pt := pt i) (c0 := ck i) (len := len (ck i)) (mo := mo) (i := i) (th := 0) (a1 := a1) (nC := nC) (a2 := a2) (a3 := a3) (a4 := a4) (a5 := a5) (a6 := a6) (a7 := a7) (a8 := a8) (a9 := a9) (nS := nS) (a10 := a10) (nM := M) (a11 := a11) (ln := ln) (pa := pa) (by omega) (hpa i hi9) (hc0 i hi9) (hc6 i hi9) (hlq i hi9)) rfl (hP 0 _ rfl) (gV mM_X6_123 mI_X6_length mS_X6_length mN_X6 mC_X6_length) (by decide +kernel) rfl rfl ⟨Nat.le_of_ble_eq_true rfl, Nat.le_of_ble_eq_true rfl⟩ hG hP9 rfl hl.1 rfl (Nat.le_of_ble_eq_true rfl) dX6_play_165 ⟨by show _ ≤ 720; omega, by show _ ≤ 2880; omega⟩) (fun r165 h165 => ?_)
                      obtain rfl : r165 = (len (ck i)) := h165
                      refine lv_imul hx hb dX6_play_168 ?_
                      refine lv_iload hx hb dX6_play_169 (lv_at hl 0 rfl) ?_
                      refine lv_iadd hx hb dX6_play_171 ?_
                      have hP9 := hP.sub (ws' := [oO mo 6 [.int 0, .ref a1, .int (nI nC), .ref a2, .ref a3, .ref a4, .ref a5, .ref a6, .ref a7, .ref a8, .ref a9, .int (nI nS), .ref a10, .int (nI M), .ref a11], aI D a2 6 ln, aI D a10 130 pa]) [0, 1, 5] rfl
                      refine vp_callSi (pV (rest := []) (qc := (RX6, TX6, 15)) [.int (nI i), .int (((nI r1) * (len (ck i))) + (ct (ck i) k1))] 2 hC (m_timeOf l D (pt := pt i) (c0 := ck i) (len := len (ck i)) (mo := mo) (i := i) (x := ((nI r1) * (len (ck i))) + (ct (ck i) k1)) (th := 0) (a1 := a1) (nC := nC) (a2 := a2) (a3 := a3) (a4 := a4) (a5 := a5) (a6 := a6) (a7 := a7) (a8 := a8) (a9 := a9) (nS := nS) (a10 := a10) (nM := M) (a11 := a11) (ln := ln) (pa := pa) (by omega) (hpa i hi9) (hc0 i hi9) (hc6 i hi9) (hlq i hi9) (pos1 ((fa_le _ _).mpr (hO i hi9).b5.1))) rfl (hP 0 _ rfl) (gV mM_X6_129 mI_X6_timeOf mS_X6_timeOf mN_X6 mC_X6_timeOf) (by decide +kernel) rfl rfl ⟨Nat.le_of_ble_eq_true rfl, Nat.le_of_ble_eq_true rfl⟩ hG hP9 rfl hl.1 rfl (Nat.le_of_ble_eq_true rfl) dX6_play_172 ⟨by show _ ≤ 720; omega, by show _ ≤ 2880; omega⟩) (fun r172 h172 => ?_)
                      obtain rfl : r172 = (timeOfS (pt i) (((nI r1) * (len (ck i))) + (ct (ck i) k1))) := h172
                      refine tpi (y := meetS (len (ck i)) (pt i) (nI r1) (ct (ck i) k1)) (by rw [meetS, if_neg hb98]) ?_
                      refine lv_istore (lv' := [(10, .int (meetS (len (ck i)) (pt i) (nI r1) (ct (ck i) k1))), (9, .int (ct (ck i) k1)), (8, .int (nI ((8 * ck i) + k1))), (0, .ref mo), (1, .int x), (2, .int y), (3, .int (nI i)), (4, .int (nI (8 * ck i))), (5, .int (nI (nc (ck i)))), (6, .int (nI r1)), (7, .int (nI k1))]) hx hb dX6_play_175 hl (by decide) rfl (fun ls hl => ?_)
                      refine lv_iload hx hb dX6_play_177 (lv_at hl 0 rfl) ?_
                      refine lv_iload_n hx hb dX6_play_179 rfl (lv_at hl 4 rfl) ?_
                      refine lv_iload_n hx hb dX6_play_180 rfl (lv_at hl 5 rfl) ?_
                      have hP9 : va_P D cls [] H := fun k q h => by simp at h
                      refine vp_callSi (pS (rest := []) [.int (meetS (len (ck i)) (pt i) (nI r1) (ct (ck i) k1)), .int x, .int y] 3 hC (m_isIn l D (x := meetS (len (ck i)) (pt i) (nI r1) (ct (ck i) k1)) (a := x) (b := y) ) (gS mM_X6_50 mT_X6_isIn mN_X6 mC_X6_isIn) (by decide +kernel) rfl rfl ⟨Nat.le_of_ble_eq_true rfl, Nat.le_of_ble_eq_true rfl⟩ hG hP9 rfl hl.1 rfl (Nat.le_of_ble_eq_true rfl) dX6_play_181 ⟨by show _ ≤ 720; omega, by show _ ≤ 2880; omega⟩) (fun r181 h181 => ?_)
                      rcases h181 with ⟨rfl, hb181⟩ | ⟨rfl, hb181⟩
                      · skip
                        refine lv_if_eq (tgt := 203) hx hb dX6_play_184 (by decide) (fun h9 => absurd h9 (by decide)) (fun _ => ?_)
                        refine lv_aload_n hx hb dX6_play_187 rfl (lv_at hl 3 rfl) ?_
                        refine lv_iload hx hb dX6_play_188 (lv_at hl 0 rfl) ?_
                        refine lv_iload_n hx hb dX6_play_190 rfl (lv_at hl 6 rfl) ?_
                        refine lv_iload hx hb dX6_play_191 (lv_at hl 9 rfl) ?_
                        refine lv_aload_n hx hb dX6_play_193 rfl (lv_at hl 3 rfl) ?_
                        refine va_get (D := D) (ci := 6) (v := .ref a9) (C := RX6) (T := TX6) (N := 15) hx hb hts inlX6 hown hG.K hP 0 rfl rfl 10 (by decide) (hts _ mF_X6_34) (fun _ h9 => h9) rfl dX6_play_194 ?_
                        refine lv_iload hx hb dX6_play_197 (lv_at hl 2 rfl) ?_
                        refine ild (n := 48) (j := (8 * ck i) + k1) hx hb hG hP 4 rfl (by omega) (by omega) dX6_play_199 ?_
                        refine tpi (y := cn (ck i) k1) (hqn i hi9 _ (by omega)) ?_
                        have hP9 := hP.sub (ws' := [oO mo 6 [.int 0, .ref a1, .int (nI nC), .ref a2, .ref a3, .ref a4, .ref a5, .ref a6, .ref a7, .ref a8, .ref a9, .int (nI nS), .ref a10, .int (nI M), .ref a11], aI D a11 2880 mq]) [0, 6] rfl
                        have hD9 := (hD.sub (ws' := [oO mo 6 [.int 0, .ref a1, .int (nI nC), .ref a2, .ref a3, .ref a4, .ref a5, .ref a6, .ref a7, .ref a8, .ref a9, .int (nI nS), .ref a10, .int (nI M), .ref a11], aI D a11 2880 mq]) [0, 6] (by decide) rfl).weaken (B := fun _ => True) (fun _ _ _ _ => trivial)
                        refine kv (wr := [aI D a2 6 ln, aI D a7 6 qs, aI D a8 48 qt, aI D a9 48 qn, aI D a10 130 pa]) (rV (rest := []) (qc := (RX6, TX6, 15)) [.int (meetS (len (ck i)) (pt i) (nI r1) (ct (ck i) k1)), .int (nI i), .int (nI r1), .int (cn (ck i) k1)] 4 1 4 hC (m_note l D (d := cntLe (fun q => mq (4 * q)) (meetS (len (ck i)) (pt i) (nI r1) (ct (ck i) k1)) M) (mo := mo) (x := meetS (len (ck i)) (pt i) (nI r1) (ct (ck i) k1)) (y := nI i) (z := nI r1) (u := cn (ck i) k1) (th := 0) (a1 := a1) (nC := nC) (a2 := a2) (a3 := a3) (a4 := a4) (a5 := a5) (a6 := a6) (a7 := a7) (a8 := a8) (a9 := a9) (nS := nS) (a10 := a10) (nM := M) (a11 := a11) (mm := mq) (hz0 := H.size) (by omega) (cntLe_le _ _ _) (fun q h1 h2 => cntLe_gt (f := fun q => mq (4 * q)) q h1 h2) (fun h9 => Int32.not_lt.mpr (cntLe_last (f := fun q => mq (4 * q)) h9))) rfl (hP 0 _ rfl) (gV mM_X6_171 mI_X6_note mS_X6_note mN_X6 mC_X6_note) (by decide +kernel) rfl rfl ⟨Nat.le_of_ble_eq_true rfl, Nat.le_of_ble_eq_true rfl⟩ hG hP9 hD9 rfl hl.1 rfl (Nat.le_of_ble_eq_true rfl) dX6_play_200 ⟨by show _ ≤ 720; omega, by show _ ≤ 2880; omega⟩) hP hD hS hA [0, 6] [1, 2, 3, 4, 5] rfl rfl (by decide) (by decide) (fun u200 H locs h200 hP hD hS hz hfr => ?_)
                        have hP : va_P D cls [aI D a2 6 ln, aI D a7 6 qs, aI D a8 48 qt, aI D a9 48 qn, aI D a10 130 pa, oO mo 6 [.int 0, .ref a1, .int (nI nC), .ref a2, .ref a3, .ref a4, .ref a5, .ref a6, .ref a7, .ref a8, .ref a9, .int (nI nS), .ref a10, .int (nI (M + 1)), .ref a11], aI D a11 2880 (in4 mq (cntLe (fun q => mq (4 * q)) (meetS (len (ck i)) (pt i) (nI r1) (ct (ck i) k1)) M) M (meetS (len (ck i)) (pt i) (nI r1) (ct (ck i) k1)) (nI i) (nI r1) (cn (ck i) k1))] H := hP
                        have hD : va_D A [aI D a2 6 ln, aI D a7 6 qs, aI D a8 48 qt, aI D a9 48 qn, aI D a10 130 pa, oO mo 6 [.int 0, .ref a1, .int (nI nC), .ref a2, .ref a3, .ref a4, .ref a5, .ref a6, .ref a7, .ref a8, .ref a9, .int (nI nS), .ref a10, .int (nI (M + 1)), .ref a11], aI D a11 2880 (in4 mq (cntLe (fun q => mq (4 * q)) (meetS (len (ck i)) (pt i) (nI r1) (ct (ck i) k1)) M) M (meetS (len (ck i)) (pt i) (nI r1) (ct (ck i) k1)) (nI i) (nI r1) (cn (ck i) k1))] := hD
                        refine W.widen (k := M + 1) (n := 4 * (M + 1)) (by omega) (by omega) ?_
                        refine lv_iinc (v := nI (k1 + 1)) (lv' := [(7, .int (nI (k1 + 1))), (10, .int (meetS (len (ck i)) (pt i) (nI r1) (ct (ck i) k1))), (9, .int (ct (ck i) k1)), (8, .int (nI ((8 * ck i) + k1))), (0, .ref mo), (1, .int x), (2, .int y), (3, .int (nI i)), (4, .int (nI (8 * ck i))), (5, .int (nI (nc (ck i)))), (6, .int (nI r1))]) hx hb dX6_play_203 hl (k := 10) rfl (nI_1 _) (by decide) rfl (fun ls hl => ?_)
                        refine lv_goto (tgt := 87) hx hb dX6_play_206 (by decide) ?_
                        exact ih87 (k1 + 1) (M + 1) (in4 mq (cntLe (fun q => mq (4 * q)) (meetS (len (ck i)) (pt i) (nI r1) (ct (ck i) k1)) M) M (meetS (len (ck i)) (pt i) (nI r1) (ct (ck i) k1)) (nI i) (nI r1) (cn (ck i) k1)) (noteS (meetS (len (ck i)) (pt i) (nI r1) (ct (ck i) k1)) (nI i) (nI r1) (cn (ck i) k1) S3) (by omega) (by omega) (by rw [ncR, ← hS3, ncS, hcX, if_pos hb181]) (NR_step hN3) (by omega) _ _ _ (hP.sub [5, 0, 1, 2, 3, 4, 6] rfl) (hD.sub [5, 0, 1, 2, 3, 4, 6] (by decide) rfl) hS (lv_sub hl [4, 5, 6, 7, 8, 9, 10, 0] rfl)
                      · skip
                        refine lv_if_eq (tgt := 203) hx hb dX6_play_184 (by decide) (fun _ => ?_) (fun h9 => (h9 (by decide)).elim)
                        refine lv_iinc (v := nI (k1 + 1)) (lv' := [(7, .int (nI (k1 + 1))), (10, .int (meetS (len (ck i)) (pt i) (nI r1) (ct (ck i) k1))), (9, .int (ct (ck i) k1)), (8, .int (nI ((8 * ck i) + k1))), (0, .ref mo), (1, .int x), (2, .int y), (3, .int (nI i)), (4, .int (nI (8 * ck i))), (5, .int (nI (nc (ck i)))), (6, .int (nI r1))]) hx hb dX6_play_203 hl (k := 10) rfl (nI_1 _) (by decide) rfl (fun ls hl => ?_)
                        refine lv_goto (tgt := 87) hx hb dX6_play_206 (by decide) ?_
                        exact ih87 (k1 + 1) M mq S3 (by omega) (by omega) (by rw [ncR, ← hS3, ncS, hcX, if_neg hb181]) (hN3) (by omega) _ _ _ hP hD hS (lv_sub hl [4, 5, 6, 7, 8, 9, 10, 0] rfl)
              exact loop87 _ 0 M mq S2 (Nat.lt_succ_self _) (by omega) (rfl) (hN2) (by omega) _ _ _ hP hD hS (lv_sub hl [1, 2, 3, 4, 5, 6, 7, 0] rfl)
        exact loop73 _ 0 M mq S1 (Nat.lt_succ_self _) (by omega) (rfl) (hN1) (by omega) _ _ _ hP hD hS (lv_sub hl [3, 4, 5, 6, 2, 1, 0] rfl)
  exact loop38 _ 0 0 mm (0, f, 0) (Nat.lt_succ_self _) (by omega) (rfl) (NR_0 _ _) (by omega) _ _ _ hP hD hS (lv_sub hl [1, 2, 3, 0] rfl)
