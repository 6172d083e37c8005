theorem fb_divI {x y : Int32} (hx : 0 ≤ x.toInt) (hy : 0 < y.toInt) : (x / y).toInt = x.toInt / y.toInt := by
  have r := fb_rng x
  have a : x.toInt / y.toInt ≤ x.toInt := Int.ediv_le_self _ hx
  have b : 0 ≤ x.toInt / y.toInt := Int.ediv_nonneg hx (Int.le_of_lt hy)
  rw [Int32.toInt_div, Int.tdiv_eq_ediv_of_nonneg hx]
  exact fb_bmod (by omega) (by omega)
theorem fb_divL {x y : Int64} (hx : 0 ≤ x.toInt) (hy : 0 < y.toInt) : (x / y).toInt = x.toInt / y.toInt := by
  have r := fb_rngL x
  have a : x.toInt / y.toInt ≤ x.toInt := Int.ediv_le_self _ hx
  have b : 0 ≤ x.toInt / y.toInt := Int.ediv_nonneg hx (Int.le_of_lt hy)
  rw [Int64.toInt_div, Int.tdiv_eq_ediv_of_nonneg hx]
  exact fb_bmodL (by omega) (by omega)
theorem i64_sub {a b : Int32} (h1 : -2147483648 ≤ a.toInt - b.toInt) (h2 : a.toInt - b.toInt < 2147483648) : (a - b).toInt64 = a.toInt64 - b.toInt64 := by
  have ra := fb_rng a
  have rb := fb_rng b
  rw [fa_eq64, Int32.toInt_toInt64, fb_subI h1 h2, fb_subL (by rw [Int32.toInt_toInt64, Int32.toInt_toInt64]; omega) (by rw [Int32.toInt_toInt64, Int32.toInt_toInt64]; omega), Int32.toInt_toInt64, Int32.toInt_toInt64]
theorem i64_mul {a b : Int32} (h1 : -2147483648 ≤ a.toInt * b.toInt) (h2 : a.toInt * b.toInt < 2147483648) : (a * b).toInt64 = a.toInt64 * b.toInt64 := by
  rw [fa_eq64, Int32.toInt_toInt64, fb_mulI h1 h2, fb_mulL (by rw [Int32.toInt_toInt64, Int32.toInt_toInt64]; omega) (by rw [Int32.toInt_toInt64, Int32.toInt_toInt64]; omega), Int32.toInt_toInt64, Int32.toInt_toInt64]
theorem i64_div {a b : Int32} (h1 : 0 ≤ a.toInt) (h2 : 0 < b.toInt) : (a / b).toInt64 = a.toInt64 / b.toInt64 := by
  rw [fa_eq64, Int32.toInt_toInt64, fb_divI h1 h2, fb_divL (by rw [Int32.toInt_toInt64]; omega) (by rw [Int32.toInt_toInt64]; omega), Int32.toInt_toInt64, Int32.toInt_toInt64]
theorem i64_lt {a b : Int32} : a.toInt64 < b.toInt64 ↔ a < b := by
  rw [fa_lt64, fa_lt, Int32.toInt_toInt64, Int32.toInt_toInt64]
theorem i64_min (a b : Int32) : (if b.toInt64 < a.toInt64 then b.toInt64 else a.toInt64) = (minI a b).toInt64 := by
  rw [minI]
  by_cases h : b < a
  · rw [if_pos h, if_pos (i64_lt.mpr h)]
  · rw [if_neg h, if_neg (fun q => h (i64_lt.mp q))]
theorem i64_back (a : Int32) : a.toInt64.toInt32 = a := by
  exact Int32.toInt32_toInt64 a
theorem minI_comm (a b : Int32) : minI a b = minI b a := by
  rw [minI, minI, fa_eq]
  split <;> split <;> rename_i h1 h2 <;> rw [fa_lt] at h1 h2 <;> omega
theorem xor_nn {x y : Int64} (h1 : 0 ≤ x.toInt) (h2 : 0 ≤ y.toInt) : ¬ (x ^^^ y) < 0 := by
  intro h
  rw [fa_lt64, show (0 : Int64).toInt = 0 by decide] at h
  have e : (x ^^^ y).toInt = (x.toBitVec ^^^ y.toBitVec).toInt := rfl
  have m : (x.toBitVec ^^^ y.toBitVec).msb = decide ((x.toBitVec ^^^ y.toBitVec).toInt < 0) := BitVec.msb_eq_toInt
  have mx : x.toBitVec.msb = decide (x.toInt < 0) := BitVec.msb_eq_toInt
  have my : y.toBitVec.msb = decide (y.toInt < 0) := BitVec.msb_eq_toInt
  rw [BitVec.msb_xor, mx, my, decide_eq_false (by omega), decide_eq_false (by omega), decide_eq_true (by rw [← e]; exact h)] at m
  exact absurd m (by decide)
theorem rnd_0 {d : Int64} (h1 : 0 < d.toInt) (h2 : d.toInt ≤ 8000000000) : rnd 0 d = 0 := by
  have e2 : (2 : Int64).toInt = 2 := by decide
  have e0 : (0 : Int64).toInt = 0 := by decide
  have a1 : (2 * (0 : Int64) + d) = d := by
    rw [show (2 : Int64) * 0 = 0 by decide, fa_eq64, fb_addL (by rw [e0]; omega) (by rw [e0]; omega), e0]
    omega
  have a2 : (2 * d).toInt = 2 * d.toInt := by rw [fb_mulL (by rw [e2]; omega) (by rw [e2]; omega), e2]
  have a3 : d / (2 * d) = 0 := by
    rw [fa_eq64, fb_divL (by omega) (by omega), a2, e0]
    exact Int.ediv_eq_zero_of_lt (by omega) (by omega)
  rw [rnd, fdL, a1, if_neg (fun h => xor_nn (by omega) (by omega) h.1), a3]
  rfl
theorem ezed_0 {u : Int32} {w : Int64} {e d : Int32} (h : dOK d) : ezed u w e 0 d.toInt64 = u := by
  have m0 : ∀ z : Int64, z * 0 = 0 := fun z => Int64.mul_zero
  have z0 : ∀ z : Int64, 0 * z = 0 := fun z => Int64.zero_mul
  have r1 : rnd 0 d.toInt64 = 0 := rnd_0 (by rw [dOK.i]; exact h.1) (by rw [dOK.i]; have := h.2; omega)
  have r2 : rnd 0 (d.toInt64 * d.toInt64) = 0 := rnd_0 (by rw [h.sq.1]; exact h.sq.2.1) (by rw [h.sq.1]; have := h.sq.2.2; omega)
  have r3 : rnd 0 (d.toInt64 * d.toInt64 * d.toInt64) = 0 := rnd_0 (by rw [h.cb.1]; exact h.cb.2.1) (by rw [h.cb.1]; exact h.cb.2.2)
  have ua : u + 0 = u := Int32.add_zero u
  rw [ezed, m0, m0, z0, z0, r1, r2, r3, ua]
  split
  · rfl
  · split
    · rfl
    · split
      · rfl
      · split <;> rfl
/-- a strip's parts are in their bounds -/
def sOK (len : Int32) (pt : Nat → Int32) : Prop := (1 ≤ len.toInt ∧ len.toInt ≤ 2000) ∧ (0 ≤ (pt 1).toInt ∧ (pt 1).toInt ≤ 5000) ∧ (1 ≤ (pt 3).toInt ∧ (pt 3).toInt ≤ 9) ∧ (1 ≤ (pt 5).toInt ∧ (pt 5).toInt ≤ 9) ∧ (1 ≤ (pt 6).toInt ∧ (pt 6).toInt ≤ 9) ∧ (0 ≤ (pt 8).toInt ∧ (pt 8).toInt ≤ 100) ∧ (pt 9 = 0 ∨ pt 9 = 1) ∧ (pt 10 = 0 ∨ pt 10 = 1) ∧ (0 ≤ (pt 11).toInt ∧ (pt 11).toInt ≤ 2000) ∧ (0 ≤ (pt 12).toInt ∧ (pt 12).toInt ≤ 2000)
theorem sOK.l {len : Int32} {pt : Nat → Int32} (h : sOK len pt) : 1 ≤ len.toInt ∧ len.toInt ≤ 2000 := h.1
theorem sOK.b1 {len : Int32} {pt : Nat → Int32} (h : sOK len pt) : 0 ≤ (pt 1).toInt ∧ (pt 1).toInt ≤ 5000 := h.2.1
theorem sOK.b3 {len : Int32} {pt : Nat → Int32} (h : sOK len pt) : 1 ≤ (pt 3).toInt ∧ (pt 3).toInt ≤ 9 := h.2.2.1
theorem sOK.b5 {len : Int32} {pt : Nat → Int32} (h : sOK len pt) : 1 ≤ (pt 5).toInt ∧ (pt 5).toInt ≤ 9 := h.2.2.2.1
theorem sOK.b6 {len : Int32} {pt : Nat → Int32} (h : sOK len pt) : 1 ≤ (pt 6).toInt ∧ (pt 6).toInt ≤ 9 := h.2.2.2.2.1
theorem sOK.b8 {len : Int32} {pt : Nat → Int32} (h : sOK len pt) : 0 ≤ (pt 8).toInt ∧ (pt 8).toInt ≤ 100 := h.2.2.2.2.2.1
theorem sOK.b9 {len : Int32} {pt : Nat → Int32} (h : sOK len pt) : pt 9 = 0 ∨ pt 9 = 1 := h.2.2.2.2.2.2.1
theorem sOK.b10 {len : Int32} {pt : Nat → Int32} (h : sOK len pt) : pt 10 = 0 ∨ pt 10 = 1 := h.2.2.2.2.2.2.2.1
theorem sOK.b11 {len : Int32} {pt : Nat → Int32} (h : sOK len pt) : 0 ≤ (pt 11).toInt ∧ (pt 11).toInt ≤ 2000 := h.2.2.2.2.2.2.2.2.1
theorem sOK.b12 {len : Int32} {pt : Nat → Int32} (h : sOK len pt) : 0 ≤ (pt 12).toInt ∧ (pt 12).toInt ≤ 2000 := h.2.2.2.2.2.2.2.2.2
theorem mul_b {a b x y : Int} (h1 : 0 ≤ a) (h2 : a ≤ x) (h3 : 0 ≤ b) (h4 : b ≤ y) : 0 ≤ a * b ∧ a * b ≤ x * y := ⟨Int.mul_nonneg h1 h3, Int.mul_le_mul h2 h4 h3 (Int.le_trans h1 h2)⟩
theorem sOK.ticks {len : Int32} {pt : Nat → Int32} (h : sOK len pt) : (ticksS len pt).toInt = len.toInt * (pt 3).toInt ∧ 0 ≤ (ticksS len pt).toInt ∧ (ticksS len pt).toInt ≤ 18000 := by
  have m := mul_b (by have := h.l; omega) h.l.2 (by have := h.b3; omega) h.b3.2
  have e : (ticksS len pt).toInt = len.toInt * (pt 3).toInt := fb_mulI (by omega) (by omega)
  rw [e]
  exact ⟨rfl, m.1, by omega⟩
theorem sOK.time {len : Int32} {pt : Nat → Int32} (h : sOK len pt) {t : Int32} (h1 : 0 ≤ t.toInt) (h2 : t.toInt ≤ 18000) : (pt 1).toInt ≤ (timeOfS pt t).toInt ∧ (timeOfS pt t).toInt ≤ 167008 := by
  have m := mul_b h1 h2 (by have := h.b6; omega) h.b6.2
  have e1 : (t * pt 6).toInt = t.toInt * (pt 6).toInt := fb_mulI (by omega) (by omega)
  have b5 := h.b5
  have b1 := h.b1
  have e2 : (t * pt 6 + pt 5).toInt = t.toInt * (pt 6).toInt + (pt 5).toInt := by rw [fb_addI (by omega) (by omega), e1]
  have i1 : (1 : Int32).toInt = 1 := by decide
  have e3 : (t * pt 6 + pt 5 - 1).toInt = t.toInt * (pt 6).toInt + (pt 5).toInt - 1 := by rw [fb_subI (by omega) (by omega), e2, i1]
  have e4 := fb_divI (x := t * pt 6 + pt 5 - 1) (y := pt 5) (by omega) (by omega)
  have d1 : (t * pt 6 + pt 5 - 1).toInt / (pt 5).toInt ≤ (t * pt 6 + pt 5 - 1).toInt := Int.ediv_le_self _ (by omega)
  have d0 : 0 ≤ (t * pt 6 + pt 5 - 1).toInt / (pt 5).toInt := Int.ediv_nonneg (by omega) (by omega)
  have e5 : (timeOfS pt t).toInt = (pt 1).toInt + (t * pt 6 + pt 5 - 1).toInt / (pt 5).toInt := by
    rw [timeOfS, fb_addI (by omega) (by omega), e4]
  omega
theorem sOK.e {len : Int32} {pt : Nat → Int32} (h : sOK len pt) : (pt 1).toInt ≤ (endS len pt).toInt ∧ (endS len pt).toInt ≤ 167008 := h.time h.ticks.2.1 h.ticks.2.2
theorem sOK.gone {len : Int32} {pt : Nat → Int32} (h : sOK len pt) {x : Int32} (h1 : pt 1 ≤ x) (h2 : x.toInt ≤ 100300) : (x - pt 1).toInt = x.toInt - (pt 1).toInt ∧ 0 ≤ (x - pt 1).toInt ∧ (x - pt 1).toInt ≤ 100300 := by
  have b1 := h.b1
  rw [fa_le] at h1
  have e : (x - pt 1).toInt = x.toInt - (pt 1).toInt := fb_subI (by omega) (by omega)
  omega
theorem sOK.quo {len : Int32} {pt : Nat → Int32} (h : sOK len pt) {x : Int32} (h1 : pt 1 ≤ x) (h2 : x.toInt ≤ 100300) : ((x - pt 1) * pt 5 / pt 6).toInt64 = (x - pt 1).toInt64 * (pt 5).toInt64 / (pt 6).toInt64 ∧ 0 ≤ ((x - pt 1) * pt 5 / pt 6).toInt := by
  have g := h.gone h1 h2
  have b6 := h.b6
  have m := mul_b g.2.1 g.2.2 (by have := h.b5; omega) h.b5.2
  have e : ((x - pt 1) * pt 5).toInt = (x - pt 1).toInt * (pt 5).toInt := fb_mulI (by omega) (by omega)
  refine ⟨?_, ?_⟩
  · rw [i64_div (by omega) (by omega), i64_mul (by omega) (by omega)]
  · rw [fb_divI (by omega) (by omega)]
    exact Int.ediv_nonneg (by omega) (by omega)
theorem minI_le (a b : Int32) : (minI a b).toInt = min a.toInt b.toInt := by
  rw [minI]
  split <;> rename_i h <;> rw [fa_lt] at h <;> omega
theorem sOK.tick {len : Int32} {pt : Nat → Int32} (h : sOK len pt) {x : Int32} (h1 : pt 1 ≤ x) (h2 : x.toInt ≤ 100300) : (if (x - pt 1).toInt64 * (pt 5).toInt64 / (pt 6).toInt64 < (ticksS len pt).toInt64 then (x - pt 1).toInt64 * (pt 5).toInt64 / (pt 6).toInt64 else (ticksS len pt).toInt64) = (tickS len pt x).toInt64 := by
  rw [← (h.quo h1 h2).1, i64_min, minI_comm]
  rfl
theorem sOK.tick0 {len : Int32} {pt : Nat → Int32} (h : sOK len pt) {x : Int32} (h1 : pt 1 ≤ x) (h2 : x.toInt ≤ 100300) : 0 ≤ (tickS len pt x).toInt ∧ (tickS len pt x).toInt ≤ 18000 := by
  rw [tickS, minI_le]
  have := (h.quo h1 h2).2
  have := h.ticks
  omega
theorem sOK.round {len : Int32} {pt : Nat → Int32} (h : sOK len pt) {x : Int32} (h1 : pt 1 ≤ x) (h2 : x.toInt ≤ 100300) : (if (tickS len pt x).toInt64 / len.toInt64 < (pt 3 - 1).toInt64 then (tickS len pt x).toInt64 / len.toInt64 else (pt 3 - 1).toInt64) = (roundS len pt x).toInt64 := by
  rw [← i64_div (h.tick0 h1 h2).1 (by have := h.l; omega), i64_min, minI_comm]
  rfl
theorem sOK.left {len : Int32} {pt : Nat → Int32} (h : sOK len pt) {x : Int32} (h1 : isOnS len pt x) (h0 : 0 ≤ x.toInt) (h2 : pt 10 = 0) (h3 : endS len pt - x < pt 12) : (pt 8 * (endS len pt - x)).toInt64 = (pt 8).toInt64 * (endS len pt - x).toInt64 ∧ dOK (pt 12) := by
  have e := h.e
  have b12 := h.b12
  have hx := h1.2.resolve_left (fun z => z h2)
  rw [fa_lt] at hx h3
  have e1 : (endS len pt - x).toInt = (endS len pt).toInt - x.toInt := fb_subI (by omega) (by omega)
  have m := mul_b h.b8.1 h.b8.2 (show 0 ≤ (endS len pt - x).toInt by omega) (show (endS len pt - x).toInt ≤ 2000 by omega)
  exact ⟨i64_mul (by omega) (by omega), by unfold dOK; omega⟩
theorem sOK.since {len : Int32} {pt : Nat → Int32} (h : sOK len pt) {x : Int32} (h1 : isOnS len pt x) (h2 : x.toInt ≤ 100300) : (pt 8 * (x - pt 1)).toInt64 = (pt 8).toInt64 * (x - pt 1).toInt64 := by
  have g := h.gone h1.1 h2
  have m := mul_b h.b8.1 h.b8.2 g.2.1 g.2.2
  exact i64_mul (by omega) (by omega)
theorem sOK.fades {len : Int32} {pt : Nat → Int32} (h : sOK len pt) {x : Int32} (h0 : 0 ≤ x.toInt) (h2 : x.toInt ≤ 100300) (h1 : isOnS len pt x) : fadesOK len pt x := by
  refine ⟨fun q => ?_, fun q1 q2 => (h.left h1 h0 q1 q2).2⟩
  have g := h.gone h1.1 h2
  rw [fa_lt] at q
  have := h.b11
  unfold dOK
  omega
theorem cntLe_is {f : Nat → Int32} {x : Int32} : ∀ {n c : Nat}, c ≤ n → (∀ k, k + 1 = c → ¬ x < f k) → (∀ k, c ≤ k → k < n → x < f k) → cntLe f x n = c
  | 0, c, h, _, _ => by
    have e : c = 0 := by omega
    subst e
    rfl
  | n + 1, c, h, h1, h2 => by
    by_cases e : c = n + 1
    · subst e
      rw [cntLe, if_pos (Int32.not_lt.mp (h1 n rfl))]
    · rw [cntLe, if_neg (Int32.not_le.mpr (h2 n (by omega) (by omega)))]
      exact cntLe_is (by omega) h1 (fun k a b => h2 k a (by omega))
theorem ev_first {ft fv fe : Nat → Int32} {n : Nat} {x : Int32} (hT : tOK ft n) (h0 : 0 < n) (h : ¬ ft 0 < x) : evT n ft fv fe x = fv 0 := by
  rw [fa_lt] at h
  by_cases e : x = ft 0
  · have c : cntLe ft x n = 1 := cntLe_is (by omega) (fun k hk => by
      have : k = 0 := by omega
      subst this
      rw [fa_lt, e]
      omega) (fun k a b => by
      rw [fa_lt, e]
      exact hT.2 0 k (by omega) b)
    rw [evT, c, if_neg (by omega)]
    by_cases e1 : 1 = n
    · rw [if_pos e1, ← e1]
    · rw [if_neg e1]
      have z : (x - ft 0).toInt64 = 0 := by
        rw [e, show ft 0 - ft 0 = 0 from Int32.sub_self _]
        rfl
      show vb ft fv fe 0 1 x = fv 0
      rw [vb, z]
      exact ezed_0 (hT.d (by omega) (by omega))
  · have q : x.toInt < (ft 0).toInt := by
      rw [fa_eq] at e
      omega
    have c : cntLe ft x n = 0 := cntLe_is (by omega) (fun k hk => by omega) (fun k a b => by
      rw [fa_lt]
      by_cases e0 : k = 0
      · rw [e0]
        exact q
      · have := hT.2 0 k (by omega) b
        omega)
    rw [evT, if_pos c]
theorem ev_last {ft fv fe : Nat → Int32} {n : Nat} {x : Int32} (h0 : 0 < n) (h : ¬ x < ft (n - 1)) : evT n ft fv fe x = fv (n - 1) := by
  have c : cntLe ft x n = n := cntLe_is (Nat.le_refl _) (fun k hk => by
    have : k = n - 1 := by omega
    rw [this]
    exact h) (fun k a b => by omega)
  rw [evT, c, if_neg (by omega), if_pos rfl]
theorem ev_mid {ft fv fe : Nat → Int32} {n k : Nat} {x : Int32} (hT : tOK ft n) (h1 : k + 1 < n) (h2 : ft k ≤ x) (h3 : x < ft (k + 1)) : evT n ft fv fe x = vb ft fv fe k (k + 1) x := by
  rw [fa_le] at h2
  rw [fa_lt] at h3
  have c : cntLe ft x n = k + 1 := cntLe_is (by omega) (fun j hj => by
    have : j = k := by omega
    rw [this, fa_lt]
    omega) (fun j a b => by
    rw [fa_lt]
    by_cases e0 : j = k + 1
    · rw [e0]
      exact h3
    · have := hT.2 (k + 1) j (by omega) b
      omega)
  rw [evT, c, if_neg (by omega), if_neg (by omega)]
  rfl
theorem cntLe_gt {f : Nat → Int32} {x : Int32} : ∀ {n : Nat} (q : Nat), cntLe f x n ≤ q → q < n → x < f q
  | 0, q, _, h => absurd h (Nat.not_lt_zero _)
  | n + 1, q, h1, h2 => by
    rw [cntLe] at h1
    by_cases e : f n ≤ x
    · rw [if_pos e] at h1
      omega
    · rw [if_neg e] at h1
      by_cases e2 : q = n
      · rw [e2]
        exact Int32.not_le.mp e
      · exact cntLe_gt q h1 (by omega)
theorem cntLe_last {f : Nat → Int32} {x : Int32} : ∀ {n : Nat}, 0 < cntLe f x n → f (cntLe f x n - 1) ≤ x
  | 0, h => absurd h (Nat.lt_irrefl 0)
  | n + 1, h => by
    rw [cntLe] at h ⊢
    by_cases e : f n ≤ x
    · rw [if_pos e]
      exact e
    · rw [if_neg e] at h ⊢
      exact cntLe_last h
