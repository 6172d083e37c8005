/-! how great the numbers can get -/
theorem msb_neg (x : Int64) : x.toBitVec.msb = decide (x.toInt < 0) := BitVec.msb_eq_toInt
theorem xor_sgn {x y : Int64} (hy : 0 ≤ y.toInt) : (x ^^^ y) < 0 ↔ x.toInt < 0 := by
  rw [fa_lt64, show (0 : Int64).toInt = 0 by decide]
  have m : (x.toBitVec ^^^ y.toBitVec).msb = decide ((x ^^^ y).toInt < 0) := BitVec.msb_eq_toInt
  rw [BitVec.msb_xor, msb_neg, msb_neg, decide_eq_false (p := y.toInt < 0) (by omega)] at m
  by_cases h : x.toInt < 0
  · rw [decide_eq_true h] at m
    exact ⟨fun _ => h, fun _ => by simpa using m.symm⟩
  · rw [decide_eq_false h] at m
    refine ⟨fun z => ?_, fun z => absurd z h⟩
    rw [decide_eq_true z] at m
    simp at m
theorem tdiv_np {a b : Int} (ha : a ≤ 0) (hb : 0 < b) : a.tdiv b ≤ 0 := by
  have e : a.tdiv b = -((-a).tdiv b) := by rw [Int.neg_tdiv, Int.neg_neg]
  rw [e, Int.tdiv_eq_ediv_of_nonneg (by omega)]
  have := Int.ediv_nonneg (a := -a) (b := b) (by omega) (by omega)
  omega
/-- the JDK's floorDiv by a number above 0 -/
theorem fdL_is {x y : Int64} (hy : 0 < y.toInt) : (fdL x y).toInt = x.toInt / y.toInt := by
  have rx := fb_rngL x
  have ry := fb_rngL y
  have qe : (x / y).toInt = x.toInt.tdiv y.toInt := by
    rw [Int64.toInt_div]
    have a : (x.toInt.tdiv y.toInt).natAbs ≤ x.toInt.natAbs := Int.natAbs_tdiv_le_natAbs _ _
    by_cases e : x.toInt.tdiv y.toInt = 9223372036854775808
    · exfalso
      have b : x.toInt = -9223372036854775808 := by omega
      rw [b] at e
      have c : (-9223372036854775808 : Int).tdiv y.toInt ≤ 0 := tdiv_np (by decide) hy
      omega
    · exact fb_bmodL (by omega) (by omega)
  have key : x.toInt / y.toInt = if x.toInt < 0 ∧ ¬ x.toInt.tdiv y.toInt * y.toInt = x.toInt then x.toInt.tdiv y.toInt - 1 else x.toInt.tdiv y.toInt := by
    by_cases h0 : 0 ≤ x.toInt
    · rw [if_neg (by omega), Int.tdiv_eq_ediv_of_nonneg h0]
    · have hd := Int.tdiv_eq_ediv (a := x.toInt) (b := y.toInt)
      by_cases hdv : y.toInt ∣ x.toInt
      · have e1 : x.toInt.tdiv y.toInt = x.toInt / y.toInt := by rw [hd, if_pos (Or.inr hdv), Int.add_zero]
        rw [if_neg, e1]
        rw [e1, Int.ediv_mul_cancel hdv]
        exact fun z => z.2 rfl
      · have e1 : x.toInt.tdiv y.toInt = x.toInt / y.toInt + 1 := by
          rw [hd, if_neg (fun z => z.elim h0 hdv), Int.sign_eq_one_of_pos hy]
        rw [if_pos, e1]
        · omega
        · refine ⟨by omega, fun z => hdv ⟨x.toInt.tdiv y.toInt, ?_⟩⟩
          rw [Int.mul_comm]
          exact z.symm
  have me : x / y * y = x ↔ x.toInt.tdiv y.toInt * y.toInt = x.toInt := by
    have a : (x.toInt.tdiv y.toInt * y.toInt).natAbs ≤ x.toInt.natAbs := by
      have := Int.mul_tdiv_add_tmod x.toInt y.toInt
      rw [Int.natAbs_mul]
      have b : (x.toInt.tdiv y.toInt).natAbs = x.toInt.natAbs / y.toInt.natAbs := Int.natAbs_tdiv _ _
      rw [b]
      exact Nat.div_mul_le_self _ _
    by_cases e : x.toInt.tdiv y.toInt * y.toInt = 9223372036854775808
    · exfalso
      have b : (x.toInt.tdiv y.toInt) ≤ 0 ∨ 0 ≤ x.toInt := by
        by_cases z : 0 ≤ x.toInt
        · exact Or.inr z
        · exact Or.inl (tdiv_np (by omega) hy)
      rcases b with b | b
      · have := Int.mul_nonpos_of_nonpos_of_nonneg b (Int.le_of_lt hy)
        omega
      · omega
    · rw [fa_eq64, fb_mulL (by rw [qe]; omega) (by rw [qe]; omega), qe]
  rw [fdL, key]
  by_cases c : (x ^^^ y) < 0 ∧ ¬ x / y * y = x
  · have c' : x.toInt < 0 ∧ ¬ x.toInt.tdiv y.toInt * y.toInt = x.toInt := ⟨(xor_sgn (by omega)).mp c.1, fun z => c.2 (me.mpr z)⟩
    rw [if_pos c, if_pos c']
    have k2 := key
    rw [if_pos c'] at k2
    have e1 : (1 : Int64).toInt = 1 := by decide
    have lo : -9223372036854775808 ≤ x.toInt / y.toInt := by
      have := Int.ediv_le_self (a := x.toInt) (b := y.toInt)
      exact Int.le_trans rx.1 (by
        refine (Int.le_ediv_iff_mul_le hy).mpr ?_
        have : x.toInt * y.toInt ≤ x.toInt * 1 := Int.mul_le_mul_of_nonpos_left (by omega) (by omega)
        omega)
    rw [fb_subL (by rw [e1, qe]; omega) (by rw [e1, qe]; have := Int.natAbs_tdiv_le_natAbs x.toInt y.toInt; omega), qe, e1]
  · rw [if_neg c, if_neg (fun z => c ⟨(xor_sgn (by omega)).mpr z.1, fun w => z.2 (me.mp w)⟩), qe]
/-- what is rounded lies near the quotient -/
theorem rnd_bd {a d : Int64} {B : Int} (hd0 : 0 < d.toInt) (hd : d.toInt ≤ 8000000000) (hB : 0 ≤ B) (hB9 : B ≤ 100000000) (h1 : -(B * d.toInt) ≤ a.toInt) (h2 : a.toInt ≤ B * d.toInt) : -B ≤ (rnd a d).toInt ∧ (rnd a d).toInt ≤ B := by
  have e2 : (2 : Int64).toInt = 2 := by decide
  have bd : B * d.toInt ≤ 100000000 * 8000000000 := Int.mul_le_mul hB9 hd (by omega) (by decide)
  have ea : (2 * a).toInt = 2 * a.toInt := by rw [fb_mulL (by rw [e2]; omega) (by rw [e2]; omega), e2]
  have eb : (2 * a + d).toInt = 2 * a.toInt + d.toInt := by rw [fb_addL (by rw [ea]; omega) (by rw [ea]; omega), ea]
  have ed : (2 * d).toInt = 2 * d.toInt := by rw [fb_mulL (by rw [e2]; omega) (by rw [e2]; omega), e2]
  have ef : (fdL (2 * a + d) (2 * d)).toInt = (2 * a.toInt + d.toInt) / (2 * d.toInt) := by rw [fdL_is (by omega), eb, ed]
  have lo : -B ≤ (2 * a.toInt + d.toInt) / (2 * d.toInt) := by
    refine (Int.le_ediv_iff_mul_le (by omega)).mpr ?_
    have : -B * (2 * d.toInt) = -(2 * (B * d.toInt)) := by rw [Int.neg_mul, Int.mul_left_comm]
    omega
  have hi : (2 * a.toInt + d.toInt) / (2 * d.toInt) < B + 1 := by
    refine Int.ediv_lt_of_lt_mul (by omega) ?_
    have : (B + 1) * (2 * d.toInt) = 2 * (B * d.toInt) + 2 * d.toInt := by rw [Int.add_mul, Int.mul_left_comm, Int.one_mul]
    omega
  have er : (rnd a d).toInt = (2 * a.toInt + d.toInt) / (2 * d.toInt) := by
    show (fdL (2 * a + d) (2 * d)).toInt32.toInt = _
    rw [Int64.toInt_toInt32, ef, fb_bmod (by omega) (by omega)]
  rw [er]
  omega
/-- what comes between two values -/
theorem ez_bd {u : Int32} {w : Int64} {e : Int32} {x d : Int32} (hd : dOK d) (hu : -10000 ≤ u.toInt ∧ u.toInt ≤ 10000) (hw : -20000 ≤ w.toInt ∧ w.toInt ≤ 20000) (hx : 0 ≤ x.toInt ∧ x.toInt ≤ d.toInt) : -30000 ≤ (ezed u w e x.toInt64 d.toInt64).toInt ∧ (ezed u w e x.toInt64 d.toInt64).toInt ≤ 30000 := by
  have hd' := hd
  obtain ⟨d0, d9⟩ := hd'
  obtain ⟨x0, x9⟩ := hx
  obtain ⟨w0, w9⟩ := hw
  have ex : x.toInt64.toInt = x.toInt := Int32.toInt_toInt64 x
  have ed : d.toInt64.toInt = d.toInt := Int32.toInt_toInt64 d
  have e2 : (2 : Int64).toInt = 2 := by decide
  have e3 : (3 : Int64).toInt = 3 := by decide
  -- the sum of u and what is rounded
  have fin : ∀ r : Int32, -20000 ≤ r.toInt ∧ r.toInt ≤ 20000 → -30000 ≤ (u + r).toInt ∧ (u + r).toInt ≤ 30000 := fun r hr => by
    rw [fb_addI (by omega) (by omega)]
    omega
  -- a product with something that is at most the divisor
  have pr : ∀ (a D : Int64) (m : Int), 0 < D.toInt → D.toInt ≤ 8000000000 → 0 ≤ m → m ≤ D.toInt → a.toInt = w.toInt * m → -20000 ≤ (rnd a D).toInt ∧ (rnd a D).toInt ≤ 20000 := fun a D m h1 h2 h3 h4 h5 => by
    have u1 : w.toInt * m ≤ 20000 * m := Int.mul_le_mul_of_nonneg_right w9 h3
    have u2 : -20000 * m ≤ w.toInt * m := Int.mul_le_mul_of_nonneg_right w0 h3
    exact rnd_bd h1 h2 (by decide) (by decide) (by omega) (by omega)
  have s := hd.sq
  have cb := hd.cb
  have x2 : 0 ≤ x.toInt * x.toInt ∧ x.toInt * x.toInt ≤ d.toInt * d.toInt := mul_b x0 x9 x0 x9
  have wx : (w * x.toInt64).toInt = w.toInt * x.toInt := by
    have a1 : w.toInt * x.toInt ≤ 20000 * x.toInt := Int.mul_le_mul_of_nonneg_right w9 x0
    have a2 : -20000 * x.toInt ≤ w.toInt * x.toInt := Int.mul_le_mul_of_nonneg_right w0 x0
    rw [fb_mulL (by rw [ex]; omega) (by rw [ex]; omega), ex]
  have wxx : (w * x.toInt64 * x.toInt64).toInt = w.toInt * (x.toInt * x.toInt) := by
    have a1 : w.toInt * (x.toInt * x.toInt) ≤ 20000 * (x.toInt * x.toInt) := Int.mul_le_mul_of_nonneg_right w9 x2.1
    have a2 : -20000 * (x.toInt * x.toInt) ≤ w.toInt * (x.toInt * x.toInt) := Int.mul_le_mul_of_nonneg_right w0 x2.1
    have e : w.toInt * x.toInt * x.toInt = w.toInt * (x.toInt * x.toInt) := Int.mul_assoc _ _ _
    rw [fb_mulL (by rw [wx, ex, e]; omega) (by rw [wx, ex, e]; omega), wx, ex, e]
  rw [ezed]
  split
  · omega
  · split
    · exact fin _ (pr _ _ x.toInt (by rw [ed]; exact d0) (by rw [ed]; omega) x0 (by rw [ed]; exact x9) wx)
    · split
      · exact fin _ (pr _ _ (x.toInt * x.toInt) (by rw [s.1]; exact s.2.1) (by rw [s.1]; omega) x2.1 (by rw [s.1]; exact x2.2) wxx)
      · split
        · have f1 : (2 * d.toInt64).toInt = 2 * d.toInt := by rw [fb_mulL (by rw [e2, ed]; omega) (by rw [e2, ed]; omega), e2, ed]
          have f2 : (2 * d.toInt64 - x.toInt64).toInt = 2 * d.toInt - x.toInt := by rw [fb_subL (by rw [f1, ex]; omega) (by rw [f1, ex]; omega), f1, ex]
          have m1 : 0 ≤ x.toInt * (2 * d.toInt - x.toInt) := Int.mul_nonneg x0 (by omega)
          have m2 : x.toInt * (2 * d.toInt - x.toInt) ≤ d.toInt * d.toInt := by
            have q : 0 ≤ (d.toInt - x.toInt) * (d.toInt - x.toInt) := Int.mul_nonneg (by omega) (by omega)
            have q2 : (d.toInt - x.toInt) * (d.toInt - x.toInt) = d.toInt * d.toInt - x.toInt * (2 * d.toInt - x.toInt) := by
              rw [Int.sub_mul, Int.mul_sub, Int.mul_sub, Int.mul_sub, Int.mul_comm d.toInt x.toInt, show x.toInt * (2 * d.toInt) = 2 * (x.toInt * d.toInt) from Int.mul_left_comm _ _ _]
              omega
            omega
          have wz : (w * x.toInt64 * (2 * d.toInt64 - x.toInt64)).toInt = w.toInt * (x.toInt * (2 * d.toInt - x.toInt)) := by
            have a1 : w.toInt * (x.toInt * (2 * d.toInt - x.toInt)) ≤ 20000 * (x.toInt * (2 * d.toInt - x.toInt)) := Int.mul_le_mul_of_nonneg_right w9 m1
            have a2 : -20000 * (x.toInt * (2 * d.toInt - x.toInt)) ≤ w.toInt * (x.toInt * (2 * d.toInt - x.toInt)) := Int.mul_le_mul_of_nonneg_right w0 m1
            have e : w.toInt * x.toInt * (2 * d.toInt - x.toInt) = w.toInt * (x.toInt * (2 * d.toInt - x.toInt)) := Int.mul_assoc _ _ _
            rw [fb_mulL (by rw [wx, f2, e]; omega) (by rw [wx, f2, e]; omega), wx, f2, e]
          exact fin _ (pr _ _ _ (by rw [s.1]; exact s.2.1) (by rw [s.1]; omega) m1 (by rw [s.1]; exact m2) wz)
        · have f1 : (3 * d.toInt64).toInt = 3 * d.toInt := by rw [fb_mulL (by rw [e3, ed]; omega) (by rw [e3, ed]; omega), e3, ed]
          have f2 : (2 * x.toInt64).toInt = 2 * x.toInt := by rw [fb_mulL (by rw [e2, ex]; omega) (by rw [e2, ex]; omega), e2, ex]
          have f3 : (3 * d.toInt64 - 2 * x.toInt64).toInt = 3 * d.toInt - 2 * x.toInt := by rw [fb_subL (by rw [f1, f2]; omega) (by rw [f1, f2]; omega), f1, f2]
          have m1 : 0 ≤ x.toInt * x.toInt * (3 * d.toInt - 2 * x.toInt) := Int.mul_nonneg x2.1 (by omega)
          have m2 : x.toInt * x.toInt * (3 * d.toInt - 2 * x.toInt) ≤ d.toInt * d.toInt * d.toInt := by
            have q : 0 ≤ (d.toInt - x.toInt) * (d.toInt - x.toInt) * (d.toInt + 2 * x.toInt) := Int.mul_nonneg (Int.mul_nonneg (by omega) (by omega)) (by omega)
            have q2 : (d.toInt - x.toInt) * (d.toInt - x.toInt) * (d.toInt + 2 * x.toInt) = d.toInt * d.toInt * d.toInt - x.toInt * x.toInt * (3 * d.toInt - 2 * x.toInt) := by
              generalize d.toInt = D
              generalize x.toInt = X
              have t : ∀ a b c : Int, (a - b) * c = a * c - b * c := Int.sub_mul
              simp only [Int.sub_mul, Int.mul_sub, Int.mul_add, Int.add_mul]
              have c1 : D * X * D = D * D * X := by rw [Int.mul_right_comm]
              have c2 : X * D * D = D * D * X := by rw [Int.mul_comm X D, Int.mul_right_comm]
              have c3 : X * D * (2 * X) = 2 * (X * X * D) := by rw [Int.mul_comm X D, Int.mul_left_comm, Int.mul_assoc D X X, Int.mul_comm D (X * X)]
              have c4 : D * X * (2 * X) = 2 * (X * X * D) := by rw [Int.mul_left_comm, Int.mul_assoc D X X, Int.mul_comm D (X * X)]
              have c5 : X * X * (2 * X) = 2 * (X * X * X) := by rw [Int.mul_left_comm]
              have c6 : D * D * (2 * X) = 2 * (D * D * X) := by rw [Int.mul_left_comm]
              have c7 : X * X * (3 * D) = 3 * (X * X * D) := by rw [Int.mul_left_comm]
              omega
            omega
          have m3 : w.toInt * (x.toInt * x.toInt * (3 * d.toInt - 2 * x.toInt)) ≤ 20000 * (x.toInt * x.toInt * (3 * d.toInt - 2 * x.toInt)) := Int.mul_le_mul_of_nonneg_right w9 m1
          have m4 : -20000 * (x.toInt * x.toInt * (3 * d.toInt - 2 * x.toInt)) ≤ w.toInt * (x.toInt * x.toInt * (3 * d.toInt - 2 * x.toInt)) := Int.mul_le_mul_of_nonneg_right w0 m1
          have wz : (w * x.toInt64 * x.toInt64 * (3 * d.toInt64 - 2 * x.toInt64)).toInt = w.toInt * (x.toInt * x.toInt * (3 * d.toInt - 2 * x.toInt)) := by
            have e : w.toInt * (x.toInt * x.toInt) * (3 * d.toInt - 2 * x.toInt) = w.toInt * (x.toInt * x.toInt * (3 * d.toInt - 2 * x.toInt)) := Int.mul_assoc _ _ _
            have c3 := cb.2.2
            rw [fb_mulL (by rw [wxx, f3, e]; omega) (by rw [wxx, f3, e]; omega), wxx, f3, e]
          exact fin _ (pr _ _ _ (by rw [cb.1]; exact cb.2.1) (by rw [cb.1]; exact cb.2.2) m1 (by rw [cb.1]; exact m2) wz)
theorem rnd_nn {a d : Int64} (hd0 : 0 < d.toInt) (hd : d.toInt ≤ 8000000000) (h1 : 0 ≤ a.toInt) (h2 : a.toInt ≤ 100000000 * d.toInt) : 0 ≤ (rnd a d).toInt := by
  have e2 : (2 : Int64).toInt = 2 := by decide
  have ea : (2 * a).toInt = 2 * a.toInt := by rw [fb_mulL (by rw [e2]; omega) (by rw [e2]; omega), e2]
  have eb : (2 * a + d).toInt = 2 * a.toInt + d.toInt := by rw [fb_addL (by rw [ea]; omega) (by rw [ea]; omega), ea]
  have ed : (2 * d).toInt = 2 * d.toInt := by rw [fb_mulL (by rw [e2]; omega) (by rw [e2]; omega), e2]
  have ef : (fdL (2 * a + d) (2 * d)).toInt = (2 * a.toInt + d.toInt) / (2 * d.toInt) := by rw [fdL_is (by omega), eb, ed]
  have lo : 0 ≤ (2 * a.toInt + d.toInt) / (2 * d.toInt) := Int.ediv_nonneg (by omega) (by omega)
  have hi : (2 * a.toInt + d.toInt) / (2 * d.toInt) < 100000001 := Int.ediv_lt_of_lt_mul (by omega) (by omega)
  show 0 ≤ (fdL (2 * a + d) (2 * d)).toInt32.toInt
  rw [Int64.toInt_toInt32, ef, fb_bmod (by omega) (by omega)]
  exact lo
theorem ev_bd {ft fv fe : Nat → Int32} {n : Nat} {y : Int32} (hT : tOK ft n) (hV : ∀ k, -10000 ≤ (fv k).toInt ∧ (fv k).toInt ≤ 10000) : -30000 ≤ (evT n ft fv fe y).toInt ∧ (evT n ft fv fe y).toInt ≤ 30000 := by
  rw [evT]
  have l := cntLe_le ft y n
  split
  · have := hV 0; omega
  · split
    · have := hV (n - 1); omega
    · rename_i h0 h1
      have a := (fa_le _ _).mp (cntLe_last (f := ft) (x := y) (n := n) (by omega))
      have b := (fa_lt _ _).mp (cntLe_gt (f := ft) (x := y) (n := n) (cntLe ft y n) (Nat.le_refl _) (by omega))
      have t1 := hT.1 (cntLe ft y n - 1) (by omega)
      have t2 := hT.1 (cntLe ft y n) (by omega)
      have v1 := hV (cntLe ft y n - 1)
      have v2 := hV (cntLe ft y n)
      have ew : (fv (cntLe ft y n) - fv (cntLe ft y n - 1)).toInt = (fv (cntLe ft y n)).toInt - (fv (cntLe ft y n - 1)).toInt := fb_subI (by omega) (by omega)
      have ex : (y - ft (cntLe ft y n - 1)).toInt = y.toInt - (ft (cntLe ft y n - 1)).toInt := fb_subI (by omega) (by omega)
      have ed := hT.sub (i := cntLe ft y n - 1) (j := cntLe ft y n) (by omega) (by omega)
      rw [vb]
      exact ez_bd (hT.d (by omega) (by omega)) v1 (by rw [Int32.toInt_toInt64, ew]; omega) (by rw [ex, ed]; omega)
theorem mn_bd {a b : Int32} {h : Int} (ha : 0 ≤ a.toInt ∧ a.toInt ≤ h) (hb : 0 ≤ b.toInt) : 0 ≤ (minI a b).toInt ∧ (minI a b).toInt ≤ h := by
  rw [minI_le]
  omega
theorem str_bd {len : Int32} {pt : Nat → Int32} (h : sOK len pt) {x : Int32} (ho : isOnS len pt x) (h0 : 0 ≤ x.toInt) (h9 : x.toInt ≤ 100300) : 0 ≤ (strS len pt x).toInt ∧ (strS len pt x).toInt ≤ 100 := by
  have g := h.gone ho.1 h9
  have f := h.fades h0 h9 ho
  have b8 := h.b8
  have s1 : 0 ≤ (str1 pt x).toInt ∧ (str1 pt x).toInt ≤ 100 := by
    rw [str1]
    split
    · rename_i q
      have d := f.1 q
      have m := mul_b b8.1 b8.2 g.2.1 g.2.2
      have d1 := d.1
      have d2 := d.2
      have q' := (fa_lt _ _).mp q
      have e : (pt 8 * (x - pt 1)).toInt64.toInt = (pt 8).toInt * (x - pt 1).toInt := by rw [Int32.toInt_toInt64, fb_mulI (by omega) (by omega)]
      exact mn_bd b8 (rnd_nn (by rw [Int32.toInt_toInt64]; exact d1) (by rw [Int32.toInt_toInt64]; omega) (by rw [e]; omega) (by rw [e, Int32.toInt_toInt64]; omega))
    · exact b8
  rw [strS]
  split
  · rename_i q
    have d := f.2 q.1 q.2
    have e := h.e
    have hx := ho.2.resolve_left (fun z => z q.1)
    rw [fa_lt] at hx
    have e1 : (endS len pt - x).toInt = (endS len pt).toInt - x.toInt := fb_subI (by omega) (by omega)
    have q' := (fa_lt _ _).mp q.2
    have d1 := d.1
    have d2 := d.2
    have m := mul_b b8.1 b8.2 (show 0 ≤ (endS len pt - x).toInt by omega) (show (endS len pt - x).toInt ≤ 2000 by omega)
    have e2 : (pt 8 * (endS len pt - x)).toInt64.toInt = (pt 8).toInt * (endS len pt - x).toInt := by rw [Int32.toInt_toInt64, fb_mulI (by omega) (by omega)]
    exact mn_bd s1 (rnd_nn (by rw [Int32.toInt_toInt64]; exact d1) (by rw [Int32.toInt_toInt64]; omega) (by rw [e2]; omega) (by rw [e2, Int32.toInt_toInt64]; omega))
  · exact s1
theorem bl_bd {len : Int32} {pt : Nat → Int32} {n : Nat} {ft fv fe : Nat → Int32} (h : sOK len pt) (hT : tOK ft n) (hV : ∀ k, -10000 ≤ (fv k).toInt ∧ (fv k).toInt ≤ 10000) {x v : Int32} (h0 : 0 ≤ x.toInt) (h9 : x.toInt ≤ 100300) {B : Int} (hB : 0 ≤ B) (hB9 : B ≤ 50000000) (hv : -B ≤ v.toInt ∧ v.toInt ≤ B) : -(2 * B + 30000) ≤ (blendS len pt n ft fv fe v x).toInt ∧ (blendS len pt n ft fv fe v x).toInt ≤ 2 * B + 30000 := by
  rw [blendS]
  split
  · omega
  · split
    · rename_i ho
      have e := ev_bd (fe := fe) (y := localS len pt x) hT hV
      have s := str_bd h ho h0 h9
      have by_ : ∀ w : Int32, (-(B + 30000) ≤ w.toInt ∧ w.toInt ≤ B + 30000) → -(2 * B + 30000) ≤ (v + rnd (w.toInt64 * (strS len pt x).toInt64) 100).toInt ∧ (v + rnd (w.toInt64 * (strS len pt x).toInt64) 100).toInt ≤ 2 * B + 30000 := fun w hw => by
        have e100 : (100 : Int64).toInt = 100 := by decide
        have m1 : w.toInt * (strS len pt x).toInt ≤ (B + 30000) * (strS len pt x).toInt := Int.mul_le_mul_of_nonneg_right hw.2 s.1
        have m2 : -(B + 30000) * (strS len pt x).toInt ≤ w.toInt * (strS len pt x).toInt := Int.mul_le_mul_of_nonneg_right hw.1 s.1
        have m3 : (B + 30000) * (strS len pt x).toInt ≤ (B + 30000) * 100 := Int.mul_le_mul_of_nonneg_left s.2 (by omega)
        rw [Int.neg_mul] at m2
        have ep : (w.toInt64 * (strS len pt x).toInt64).toInt = w.toInt * (strS len pt x).toInt := by
          rw [fb_mulL (by rw [Int32.toInt_toInt64, Int32.toInt_toInt64]; omega) (by rw [Int32.toInt_toInt64, Int32.toInt_toInt64]; omega), Int32.toInt_toInt64, Int32.toInt_toInt64]
        have r := rnd_bd (a := w.toInt64 * (strS len pt x).toInt64) (d := 100) (B := B + 30000) (by rw [e100]; omega) (by rw [e100]; omega) (by omega) (by omega) (by rw [ep, e100]; omega) (by rw [ep, e100]; omega)
        rw [fb_addI (by omega) (by omega)]
        omega
      split
      · have ew : (evT n ft fv fe (localS len pt x) - v).toInt = (evT n ft fv fe (localS len pt x)).toInt - v.toInt := fb_subI (by omega) (by omega)
        exact by_ _ (by rw [ew]; omega)
      · exact by_ _ (by omega)
    · omega
theorem valL_bd {bl : Nat → Int32 → Int32} {l : List Nat} {v : Int32} (hv : -10000 ≤ v.toInt ∧ v.toInt ≤ 10000) (hl : l.length ≤ 10) (h : ∀ (k : Nat), k < l.length → ∀ (w : Int32) (B : Int), 0 ≤ B → B ≤ 50000000 → -B ≤ w.toInt ∧ w.toInt ≤ B → -(2 * B + 30000) ≤ (bl (l.getD k 0) w).toInt ∧ (bl (l.getD k 0) w).toInt ≤ 2 * B + 30000) : ∀ k, k ≤ l.length → -(40000 * 2 ^ k - 30000) ≤ (valL bl l v k).toInt ∧ (valL bl l v k).toInt ≤ 40000 * 2 ^ k - 30000
  | 0, _ => by
    show -(40000 * 2 ^ 0 - 30000) ≤ v.toInt ∧ v.toInt ≤ 40000 * 2 ^ 0 - 30000
    omega
  | k + 1, hk => by
    have ih := valL_bd hv hl h k (by omega)
    have p1 : (2 : Int) ^ k ≤ 2 ^ 9 := by
      have : (2 : Nat) ^ k ≤ 2 ^ 9 := Nat.pow_le_pow_right (by decide) (by omega)
      exact_mod_cast this
    have p0 : (1 : Int) ≤ 2 ^ k := by
      have : (1 : Nat) ≤ 2 ^ k := Nat.one_le_two_pow
      exact_mod_cast this
    have p9 : (2 : Int) ^ 9 = 512 := by decide
    have := h k (by omega) (valL bl l v k) (40000 * 2 ^ k - 30000) (by omega) (by omega) ih
    rw [valL]
    have e : (2 : Int) ^ (k + 1) = 2 ^ k * 2 := Int.pow_succ _ _
    omega
/-- the bounds that the model's sum of strips asks for -/
theorem played_bd {nC nS : Nat} {len : Nat → Int32} {sz : Nat → Nat → Nat} {ff : Nat → Nat → Nat → Int32} {nc ck : Nat → Nat} {bf : Nat → Int32} {pt : Nat → Nat → Int32} (h : Inv nC len sz ff nc bf nS ck pt) {j : Nat} (hj : j < 4) {v x : Int32} (hv : v = bf j) (h0 : 0 ≤ x.toInt) (h9 : x.toInt ≤ 100300) : ∀ ll : List Nat, ll.length ≤ 10 → (∀ z, z ∈ ll → z < nS) → -1073741824 ≤ (valL (fun z v => blendS (len (ck z)) (pt z) (sz (ck z) j) (ff (ck z) (3 * j)) (ff (ck z) (3 * j + 1)) (ff (ck z) (3 * j + 2)) v x) ll v ll.length).toInt ∧ (valL (fun z v => blendS (len (ck z)) (pt z) (sz (ck z) j) (ff (ck z) (3 * j)) (ff (ck z) (3 * j + 1)) (ff (ck z) (3 * j + 2)) v x) ll v ll.length).toInt ≤ 1073741824 := by
  intro ll hl hm
  obtain ⟨-, -, h3, -, h5, h6, -⟩ := h
  have b := valL_bd (bl := fun z v => blendS (len (ck z)) (pt z) (sz (ck z) j) (ff (ck z) (3 * j)) (ff (ck z) (3 * j + 1)) (ff (ck z) (3 * j + 2)) v x) (l := ll) (v := v) (by rw [hv]; exact h5 j hj) hl (fun k hk w B hB hB9 hw => by
    have hz : ll.getD k 0 < nS := getD_lt hm hk
    have q := h6 _ hz
    have ko := h3 _ q.1 j hj
    exact bl_bd q.2.2 ko.2.1 ko.2.2.2 h0 h9 hB hB9 hw) ll.length (Nat.le_refl _)
  have p1 : (2 : Int) ^ ll.length ≤ 2 ^ 10 := by
    have : (2 : Nat) ^ ll.length ≤ 2 ^ 10 := Nat.pow_le_pow_right (by decide) (by omega)
    exact_mod_cast this
  have p9 : (2 : Int) ^ 10 = 1024 := by decide
  omega
theorem ev_bd2 {nC nS : Nat} {len : Nat → Int32} {sz : Nat → Nat → Nat} {ff : Nat → Nat → Nat → Int32} {nc ck : Nat → Nat} {bf : Nat → Int32} {pt : Nat → Nat → Int32} (h : Inv nC len sz ff nc bf nS ck pt) {j : Nat} (hj : j < 4) : ∀ i, i < nS → ∀ y : Int32, -1073741824 ≤ (evT (sz (ck i) j) (ff (ck i) (3 * j)) (ff (ck i) (3 * j + 1)) (ff (ck i) (3 * j + 2)) y).toInt ∧ (evT (sz (ck i) j) (ff (ck i) (3 * j)) (ff (ck i) (3 * j + 1)) (ff (ck i) (3 * j + 2)) y).toInt ≤ 1073741823 := by
  intro i hi y
  obtain ⟨-, -, h3, -, h5, h6, -⟩ := h
  have ko := h3 _ (h6 i hi).1 j hj
  have := ev_bd (fe := ff (ck i) (3 * j + 2)) (y := y) ko.2.1 ko.2.2.2
  omega
/-- a mean is a number -/
theorem mean_n (a : Int64) {n : Int32} (h : ¬ n = 0) : vf_n64 (FP.ddiv (FP.l2d a) (FP.i2d n)) := by
  have e := FP.Core.ddiv_out (FP.Core.l2d_fin a).notNaN (FP.Core.i2d_fin n) (fun z => FP.Core.i2d_ne_zero h ((FP.Core.zero_bits2 _).mp z))
  have e2 := (FP.Core.ne_nan _).mp ((FP.Core.notNaN_iff _).mp e)
  unfold vf_n64
  rw [UInt64.le_iff_toNat_le, UInt64.toNat_and]
  show (FP.Core.ddiv (FP.Core.l2d a) (FP.Core.i2d n)).toNat &&& (2 ^ 63 - 1) ≤ _
  rw [Nat.and_two_pow_sub_one_eq_mod]
  exact e2
