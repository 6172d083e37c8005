/-! what the law asks of numbers -/
theorem fl_in {W D t a : Int} (hD : 0 < D) (ha : a = W * t) (h0 : 0 ≤ t) (h1 : t ≤ D) : (0 ≤ W → 0 ≤ (2 * a + D) / (2 * D) ∧ (2 * a + D) / (2 * D) ≤ W) ∧ (W ≤ 0 → W ≤ (2 * a + D) / (2 * D) ∧ (2 * a + D) / (2 * D) ≤ 0) := by
  refine ⟨fun hW => ?_, fun hW => ?_⟩
  · have b0 : 0 ≤ W * t := Int.mul_nonneg hW h0
    have b1 : W * t ≤ W * D := Int.mul_le_mul_of_nonneg_left h1 hW
    refine ⟨Int.ediv_nonneg (by omega) (by omega), ?_⟩
    have : (2 * a + D) / (2 * D) < W + 1 := by
      refine Int.ediv_lt_of_lt_mul (by omega) ?_
      have e : (W + 1) * (2 * D) = 2 * (W * D) + 2 * D := by rw [Int.add_mul, Int.mul_left_comm, Int.one_mul]
      omega
    omega
  · have b0 : W * t ≤ 0 := Int.mul_nonpos_of_nonpos_of_nonneg hW h0
    have b1 : W * D ≤ W * t := Int.mul_le_mul_of_nonpos_left hW h1
    refine ⟨?_, ?_⟩
    · refine (Int.le_ediv_iff_mul_le (by omega)).mpr ?_
      have e : W * (2 * D) = 2 * (W * D) := Int.mul_left_comm _ _ _
      omega
    · have : (2 * a + D) / (2 * D) < 1 := Int.ediv_lt_of_lt_mul (by omega) (by omega)
      omega
theorem rnd_in {a d : Int64} {W t : Int} (hd0 : 0 < d.toInt) (hd : d.toInt ≤ 8000000000) (hW : -20000 ≤ W ∧ W ≤ 20000) (ha : a.toInt = W * t) (h0 : 0 ≤ t) (h1 : t ≤ d.toInt) : (0 ≤ W → 0 ≤ (rnd a d).toInt ∧ (rnd a d).toInt ≤ W) ∧ (W ≤ 0 → W ≤ (rnd a d).toInt ∧ (rnd a d).toInt ≤ 0) := by
  have e2 : (2 : Int64).toInt = 2 := by decide
  have b1 : W * t ≤ 20000 * t := Int.mul_le_mul_of_nonneg_right hW.2 h0
  have b2 : -20000 * t ≤ W * t := Int.mul_le_mul_of_nonneg_right hW.1 h0
  have ea : (2 * a).toInt = 2 * a.toInt := by rw [fb_mulL (by rw [e2]; omega) (by rw [e2]; omega), e2]
  have eb : (2 * a + d).toInt = 2 * a.toInt + d.toInt := by rw [fb_addL (by rw [ea]; omega) (by rw [ea]; omega), ea]
  have ed : (2 * d).toInt = 2 * d.toInt := by rw [fb_mulL (by rw [e2]; omega) (by rw [e2]; omega), e2]
  have ef : (fdL (2 * a + d) (2 * d)).toInt = (2 * a.toInt + d.toInt) / (2 * d.toInt) := by rw [fdL_is (by omega), eb, ed]
  have key := fl_in (a := a.toInt) hd0 ha h0 h1
  have er : (rnd a d).toInt = (2 * a.toInt + d.toInt) / (2 * d.toInt) := by
    show (fdL (2 * a + d) (2 * d)).toInt32.toInt = _
    rw [Int64.toInt_toInt32, ef, fb_bmod]
    · rcases Int.le_total 0 W with q | q
      · have := key.1 q; omega
      · have := key.2 q; omega
    · rcases Int.le_total 0 W with q | q
      · have := key.1 q; omega
      · have := key.2 q; omega
  rw [er]
  exact key
/-- what comes between two values lies between them -/
theorem ez_in {u : Int32} {w : Int64} {e : Int32} {x d : Int32} {lo hi : Int} (hd : dOK d) (hb : -10000 ≤ lo ∧ hi ≤ 10000) (hu : lo ≤ u.toInt ∧ u.toInt ≤ hi) (hv : lo ≤ u.toInt + w.toInt ∧ u.toInt + w.toInt ≤ hi) (hx : 0 ≤ x.toInt ∧ x.toInt ≤ d.toInt) : lo ≤ (ezed u w e x.toInt64 d.toInt64).toInt ∧ (ezed u w e x.toInt64 d.toInt64).toInt ≤ hi := by
  have hd' := hd
  obtain ⟨d0, d9⟩ := hd'
  obtain ⟨x0, x9⟩ := hx
  have w0 : -20000 ≤ w.toInt := by omega
  have w9 : w.toInt ≤ 20000 := by omega
  have ex : x.toInt64.toInt = x.toInt := Int32.toInt_toInt64 x
  have ed : d.toInt64.toInt = d.toInt := Int32.toInt_toInt64 d
  have e2 : (2 : Int64).toInt = 2 := by decide
  have e3 : (3 : Int64).toInt = 3 := by decide
  have fin : ∀ r : Int32, ((0 ≤ w.toInt → 0 ≤ r.toInt ∧ r.toInt ≤ w.toInt) ∧ (w.toInt ≤ 0 → w.toInt ≤ r.toInt ∧ r.toInt ≤ 0)) → lo ≤ (u + r).toInt ∧ (u + r).toInt ≤ hi := fun r hr => by
    rcases Int.le_total 0 w.toInt with q | q
    · have := hr.1 q
      rw [fb_addI (by omega) (by omega)]
      omega
    · have := hr.2 q
      rw [fb_addI (by omega) (by omega)]
      omega
  have pr : ∀ (a D : Int64) (m : Int), 0 < D.toInt → D.toInt ≤ 8000000000 → 0 ≤ m → m ≤ D.toInt → a.toInt = w.toInt * m → ((0 ≤ w.toInt → 0 ≤ (rnd a D).toInt ∧ (rnd a D).toInt ≤ w.toInt) ∧ (w.toInt ≤ 0 → w.toInt ≤ (rnd a D).toInt ∧ (rnd a D).toInt ≤ 0)) := fun a D m h1 h2 h3 h4 h5 => rnd_in h1 h2 ⟨w0, w9⟩ h5 h3 h4
  have s := hd.sq
  have cb := hd.cb
  have x2 : 0 ≤ x.toInt * x.toInt ∧ x.toInt * x.toInt ≤ d.toInt * d.toInt := mul_b x0 x9 x0 x9
  have wx : (w * x.toInt64).toInt = w.toInt * x.toInt := by
    have a1 : w.toInt * x.toInt ≤ 20000 * x.toInt := Int.mul_le_mul_of_nonneg_right w9 x0
    have a2 : -20000 * x.toInt ≤ w.toInt * x.toInt := Int.mul_le_mul_of_nonneg_right w0 x0
    rw [fb_mulL (by rw [ex]; omega) (by rw [ex]; omega), ex]
  have wxx : (w * x.toInt64 * x.toInt64).toInt = w.toInt * (x.toInt * x.toInt) := by
    have a1 : w.toInt * (x.toInt * x.toInt) ≤ 20000 * (x.toInt * x.toInt) := Int.mul_le_mul_of_nonneg_right w9 x2.1
    have a2 : -20000 * (x.toInt * x.toInt) ≤ w.toInt * (x.toInt * x.toInt) := Int.mul_le_mul_of_nonneg_right w0 x2.1
    have e : w.toInt * x.toInt * x.toInt = w.toInt * (x.toInt * x.toInt) := Int.mul_assoc _ _ _
    rw [fb_mulL (by rw [wx, ex, e]; omega) (by rw [wx, ex, e]; omega), wx, ex, e]
  rw [ezed]
  split
  · omega
  · split
    · exact fin _ (pr _ _ x.toInt (by rw [ed]; exact d0) (by rw [ed]; omega) x0 (by rw [ed]; exact x9) wx)
    · split
      · exact fin _ (pr _ _ (x.toInt * x.toInt) (by rw [s.1]; exact s.2.1) (by rw [s.1]; omega) x2.1 (by rw [s.1]; exact x2.2) wxx)
      · split
        · have f1 : (2 * d.toInt64).toInt = 2 * d.toInt := by rw [fb_mulL (by rw [e2, ed]; omega) (by rw [e2, ed]; omega), e2, ed]
          have f2 : (2 * d.toInt64 - x.toInt64).toInt = 2 * d.toInt - x.toInt := by rw [fb_subL (by rw [f1, ex]; omega) (by rw [f1, ex]; omega), f1, ex]
          have m1 : 0 ≤ x.toInt * (2 * d.toInt - x.toInt) := Int.mul_nonneg x0 (by omega)
          have m2 : x.toInt * (2 * d.toInt - x.toInt) ≤ d.toInt * d.toInt := by
            have q : 0 ≤ (d.toInt - x.toInt) * (d.toInt - x.toInt) := Int.mul_nonneg (by omega) (by omega)
            have q2 : (d.toInt - x.toInt) * (d.toInt - x.toInt) = d.toInt * d.toInt - x.toInt * (2 * d.toInt - x.toInt) := by
              rw [Int.sub_mul, Int.mul_sub, Int.mul_sub, Int.mul_sub, Int.mul_comm d.toInt x.toInt, show x.toInt * (2 * d.toInt) = 2 * (x.toInt * d.toInt) from Int.mul_left_comm _ _ _]
              omega
            omega
          have wz : (w * x.toInt64 * (2 * d.toInt64 - x.toInt64)).toInt = w.toInt * (x.toInt * (2 * d.toInt - x.toInt)) := by
            have a1 : w.toInt * (x.toInt * (2 * d.toInt - x.toInt)) ≤ 20000 * (x.toInt * (2 * d.toInt - x.toInt)) := Int.mul_le_mul_of_nonneg_right w9 m1
            have a2 : -20000 * (x.toInt * (2 * d.toInt - x.toInt)) ≤ w.toInt * (x.toInt * (2 * d.toInt - x.toInt)) := Int.mul_le_mul_of_nonneg_right w0 m1
            have e : w.toInt * x.toInt * (2 * d.toInt - x.toInt) = w.toInt * (x.toInt * (2 * d.toInt - x.toInt)) := Int.mul_assoc _ _ _
            rw [fb_mulL (by rw [wx, f2, e]; omega) (by rw [wx, f2, e]; omega), wx, f2, e]
          exact fin _ (pr _ _ _ (by rw [s.1]; exact s.2.1) (by rw [s.1]; omega) m1 (by rw [s.1]; exact m2) wz)
        · have f1 : (3 * d.toInt64).toInt = 3 * d.toInt := by rw [fb_mulL (by rw [e3, ed]; omega) (by rw [e3, ed]; omega), e3, ed]
          have f2 : (2 * x.toInt64).toInt = 2 * x.toInt := by rw [fb_mulL (by rw [e2, ex]; omega) (by rw [e2, ex]; omega), e2, ex]
          have f3 : (3 * d.toInt64 - 2 * x.toInt64).toInt = 3 * d.toInt - 2 * x.toInt := by rw [fb_subL (by rw [f1, f2]; omega) (by rw [f1, f2]; omega), f1, f2]
          have m1 : 0 ≤ x.toInt * x.toInt * (3 * d.toInt - 2 * x.toInt) := Int.mul_nonneg x2.1 (by omega)
          have m2 : x.toInt * x.toInt * (3 * d.toInt - 2 * x.toInt) ≤ d.toInt * d.toInt * d.toInt := by
            have q : 0 ≤ (d.toInt - x.toInt) * (d.toInt - x.toInt) * (d.toInt + 2 * x.toInt) := Int.mul_nonneg (Int.mul_nonneg (by omega) (by omega)) (by omega)
            have q2 : (d.toInt - x.toInt) * (d.toInt - x.toInt) * (d.toInt + 2 * x.toInt) = d.toInt * d.toInt * d.toInt - x.toInt * x.toInt * (3 * d.toInt - 2 * x.toInt) := by
              generalize d.toInt = D
              generalize x.toInt = X
              have t : ∀ a b c : Int, (a - b) * c = a * c - b * c := Int.sub_mul
              simp only [Int.sub_mul, Int.mul_sub, Int.mul_add, Int.add_mul]
              have c1 : D * X * D = D * D * X := by rw [Int.mul_right_comm]
              have c2 : X * D * D = D * D * X := by rw [Int.mul_comm X D, Int.mul_right_comm]
              have c3 : X * D * (2 * X) = 2 * (X * X * D) := by rw [Int.mul_comm X D, Int.mul_left_comm, Int.mul_assoc D X X, Int.mul_comm D (X * X)]
              have c4 : D * X * (2 * X) = 2 * (X * X * D) := by rw [Int.mul_left_comm, Int.mul_assoc D X X, Int.mul_comm D (X * X)]
              have c5 : X * X * (2 * X) = 2 * (X * X * X) := by rw [Int.mul_left_comm]
              have c6 : D * D * (2 * X) = 2 * (D * D * X) := by rw [Int.mul_left_comm]
              have c7 : X * X * (3 * D) = 3 * (X * X * D) := by rw [Int.mul_left_comm]
              omega
            omega
          have m3 : w.toInt * (x.toInt * x.toInt * (3 * d.toInt - 2 * x.toInt)) ≤ 20000 * (x.toInt * x.toInt * (3 * d.toInt - 2 * x.toInt)) := Int.mul_le_mul_of_nonneg_right w9 m1
          have m4 : -20000 * (x.toInt * x.toInt * (3 * d.toInt - 2 * x.toInt)) ≤ w.toInt * (x.toInt * x.toInt * (3 * d.toInt - 2 * x.toInt)) := Int.mul_le_mul_of_nonneg_right w0 m1
          have wz : (w * x.toInt64 * x.toInt64 * (3 * d.toInt64 - 2 * x.toInt64)).toInt = w.toInt * (x.toInt * x.toInt * (3 * d.toInt - 2 * x.toInt)) := by
            have e : w.toInt * (x.toInt * x.toInt) * (3 * d.toInt - 2 * x.toInt) = w.toInt * (x.toInt * x.toInt * (3 * d.toInt - 2 * x.toInt)) := Int.mul_assoc _ _ _
            have c3 := cb.2.2
            rw [fb_mulL (by rw [wxx, f3, e]; omega) (by rw [wxx, f3, e]; omega), wxx, f3, e]
          exact fin _ (pr _ _ _ (by rw [cb.1]; exact cb.2.1) (by rw [cb.1]; exact cb.2.2) m1 (by rw [cb.1]; exact m2) wz)
/-- a track's values lie between those of its keys -/
theorem ev_in {ft fv fe : Nat → Int32} {n : Nat} {y : Int32} {lo hi : Int} (hn : 0 < n) (hT : tOK ft n) (hb : -10000 ≤ lo ∧ hi ≤ 10000) (hV : ∀ k, k < n → lo ≤ (fv k).toInt ∧ (fv k).toInt ≤ hi) : lo ≤ (evT n ft fv fe y).toInt ∧ (evT n ft fv fe y).toInt ≤ hi := by
  rw [evT]
  have l := cntLe_le ft y n
  split
  · exact hV 0 hn
  · split
    · exact hV (n - 1) (by omega)
    · rename_i h0 h1
      have a := (fa_le _ _).mp (cntLe_last (f := ft) (x := y) (n := n) (by omega))
      have b := (fa_lt _ _).mp (cntLe_gt (f := ft) (x := y) (n := n) (cntLe ft y n) (Nat.le_refl _) (by omega))
      have t1 := hT.1 (cntLe ft y n - 1) (by omega)
      have t2 := hT.1 (cntLe ft y n) (by omega)
      have v1 := hV (cntLe ft y n - 1) (by omega)
      have v2 := hV (cntLe ft y n) (by omega)
      have ew : (fv (cntLe ft y n) - fv (cntLe ft y n - 1)).toInt = (fv (cntLe ft y n)).toInt - (fv (cntLe ft y n - 1)).toInt := fb_subI (by omega) (by omega)
      have ex : (y - ft (cntLe ft y n - 1)).toInt = y.toInt - (ft (cntLe ft y n - 1)).toInt := fb_subI (by omega) (by omega)
      have ed := hT.sub (i := cntLe ft y n - 1) (j := cntLe ft y n) (by omega) (by omega)
      rw [vb]
      exact ez_in (hT.d (by omega) (by omega)) hb v1 (by rw [Int32.toInt_toInt64, ew]; omega) (by rw [ex, ed]; omega)
/-! mirrored, and mirrored again -/
theorem mirE2 (e : Int32) : mirE (mirE e) = e := by
  unfold mirE
  by_cases h2 : e = 2
  · rw [if_pos h2, if_neg (by decide), if_pos rfl, h2]
  · rw [if_neg h2]
    by_cases h3 : e = 3
    · rw [if_pos h3, if_pos rfl, h3]
    · rw [if_neg h3, if_neg h2, if_neg h3]
theorem mir_first {ln : Int32} {sz : Nat → Nat} {F : Nat → Nat → Int32} {j : Nat} (h : KO ln (sz j) (F (3 * j)) (F (3 * j + 1))) (hl : lOK ln) (hn : 0 < sz j) : evT (sz j) (mirC ln sz F (3 * j)) (mirC ln sz F (3 * j + 1)) (mirC ln sz F (3 * j + 2)) 0 = F (3 * j + 1) (sz j - 1) := by
  have hm := h.mir hl
  rw [mirC_0, mirC_1]
  rw [ev_first hm.2.1 hn (by rw [fa_lt, show (0 : Int32).toInt = 0 by decide]; have := hm.2.1.1 0 hn; omega), rv_at hn]
  congr 1
theorem mir_last {ln : Int32} {sz : Nat → Nat} {F : Nat → Nat → Int32} {j : Nat} (h : KO ln (sz j) (F (3 * j)) (F (3 * j + 1))) (hl : lOK ln) (hn : 0 < sz j) : evT (sz j) (mirC ln sz F (3 * j)) (mirC ln sz F (3 * j + 1)) (mirC ln sz F (3 * j + 2)) ln = F (3 * j + 1) 0 := by
  have hm := h.mir hl
  rw [mirC_0, mirC_1]
  rw [ev_last hn (by rw [fa_lt]; have := hm.2.2.1 (sz j - 1) (by omega); omega), rv_at (by omega)]
  congr 1
  omega
theorem mir_mir {ln : Int32} {sz : Nat → Nat} {F : Nat → Nat → Int32} {j w k : Nat} (h : KO ln (sz j) (F (3 * j)) (F (3 * j + 1))) (hl : lOK ln) (hw : w < 3) (hk : k < sz j) (hne : ¬ (w = 2 ∧ k + 1 = sz j)) : mirC ln sz (mirC ln sz F) (3 * j + w) k = F (3 * j + w) k := by
  rcases (show w = 0 ∨ w = 1 ∨ w = 2 by omega) with rfl | rfl | rfl
  · rw [Nat.add_zero, mirC_0, mirC_0, rv_at hk, mp_at (by omega), rv_at (by omega), mp_at (by omega), show sz j - 1 - (sz j - 1 - k) = k by omega]
    have a := h.2.1.1 k hk
    have b := hl
    unfold lOK at b
    rw [fa_eq, fb_subI, fb_subI (by omega) (by omega)]
    · omega
    · rw [fb_subI (by omega) (by omega)]; omega
    · rw [fb_subI (by omega) (by omega)]; omega
  · rw [mirC_1, mirC_1, rv_at hk, rv_at (by omega), show sz j - 1 - (sz j - 1 - k) = k by omega]
  · have e : ¬ k + 1 = sz j := fun z => hne ⟨rfl, z⟩
    rw [mirC_2, mirC_2, te_at hk, if_neg e, te_at (by omega), if_neg (by omega), show sz j - 1 - (sz j - 1 - k - 1) - 1 = k by omega, mirE2]
theorem mir_mirL {ln : Int32} {sz : Nat → Nat} {F : Nat → Nat → Int32} {j : Nat} (hn : 0 < sz j) : mirC ln sz (mirC ln sz F) (3 * j + 2) (sz j - 1) = 1 := by
  rw [mirC_2, te_at (by omega), if_pos (by omega)]
  decide
/-! what is played where nothing plays -/
theorem valL_id {bl : Nat → Int32 → Int32} {l : List Nat} {v : Int32} : ∀ {k : Nat}, (∀ i, i < k → bl (l.getD i 0) v = v) → valL bl l v k = v
  | 0, _ => rfl
  | k + 1, h => by
    rw [valL, valL_id (k := k) (fun i hi => h i (by omega))]
    exact h k (Nat.lt_succ_self k)
theorem at_base {nS j : Nat} {len : Nat → Int32} {sz : Nat → Nat → Nat} {ff : Nat → Nat → Nat → Int32} {ck : Nat → Nat} {pt : Nat → Nat → Int32} {v x : Int32} (h : ∀ z, z < nS → blendS (len (ck z)) (pt z) (sz (ck z) j) (ff (ck z) (3 * j)) (ff (ck z) (3 * j + 1)) (ff (ck z) (3 * j + 2)) v x = v) : valL (fun z v => blendS (len (ck z)) (pt z) (sz (ck z) j) (ff (ck z) (3 * j)) (ff (ck z) (3 * j + 1)) (ff (ck z) (3 * j + 2)) v x) (lyT (fun z => pt z 7) nS 10) v (lyT (fun z => pt z 7) nS 10).length = v :=
  valL_id (fun i hi => h _ (getD_lt (fun x hx => lyT_lt hx) hi))
theorem bl_ahead {len : Int32} {pt : Nat → Int32} {n : Nat} {ft fv fe : Nat → Int32} {v x : Int32} (h : x < pt 1) : blendS len pt n ft fv fe v x = v := by
  rw [blendS]
  split
  · rfl
  · rw [if_neg (fun z => absurd h (Int32.not_lt.mpr z.1))]
theorem rnd_z {d : Int32} (h : dOK d) : rnd 0 d.toInt64 = 0 := rnd_0 (by rw [dOK.i]; exact h.1) (by rw [dOK.i]; have := h.2; omega)
theorem str_0 {len : Int32} {pt : Nat → Int32} {x : Int32} (hf : fadesOK len pt x) (h8 : pt 8 = 0) : strS len pt x = 0 := by
  have z : ∀ y : Int32, (pt 8 * y).toInt64 = 0 := fun y => by rw [h8, Int32.zero_mul]; decide
  have s1 : str1 pt x = 0 := by
    rw [str1]
    split
    · rename_i q
      rw [z, rnd_z (hf.1 q), h8]
      decide
    · exact h8
  rw [strS]
  split
  · rename_i q
    rw [z, rnd_z (hf.2 q.1 q.2), s1]
    decide
  · exact s1
theorem bl_0 {len : Int32} {pt : Nat → Int32} {n : Nat} {ft fv fe : Nat → Int32} {v x : Int32} (hO : sOK len pt) (h8 : pt 8 = 0) (h0 : 0 ≤ x.toInt) (h9 : x.toInt ≤ 100300) : blendS len pt n ft fv fe v x = v := by
  rw [blendS]
  split
  · rfl
  · split
    · rename_i ho
      rw [str_0 (hO.fades h0 h9 ho) h8]
      have e : ∀ w : Int64, w * (0 : Int32).toInt64 = 0 := fun w => by
        rw [show (0 : Int32).toInt64 = 0 by decide, Int64.mul_zero]
      rw [e, rnd_0 (by decide) (by decide)]
      exact Int32.add_zero v
    · rfl
theorem lyT_none (lay : Nat → Int32) : ∀ L, lyT lay 0 L = []
  | 0 => rfl
  | L + 1 => by rw [lyT, lyT_none lay L]; rfl
/-! the notes -/
def NK (a b : Int32) (M : Nat) (S : NS) : Prop := S.1 = min M 100 ∧ S.2.2 = nI M ∧ (∀ i k, i ≤ k → k < S.1 → S.2.1 0 i ≤ S.2.1 0 k) ∧ ∀ k, k < S.1 → a ≤ S.2.1 0 k ∧ S.2.1 0 k ≤ b
theorem NK.zero {a b : Int32} {f : Nat → Nat → Int32} : NK a b 0 (0, f, 0) := ⟨rfl, rfl, fun i k _ h => absurd h (Nat.not_lt_zero _), fun k h => absurd h (Nat.not_lt_zero _)⟩
theorem NK.note {a b x y z u : Int32} {M : Nat} {S : NS} (h : NK a b M S) (hx : a ≤ x ∧ x ≤ b) : NK a b (M + 1) (noteS x y z u S) := by
  obtain ⟨k, f, cnt⟩ := S
  obtain ⟨h1, h2, h3, h4⟩ := h
  have h1 : k = min M 100 := h1
  have h2 : cnt = nI M := h2
  have h3 : ∀ i q, i ≤ q → q < k → f 0 i ≤ f 0 q := h3
  have h4 : ∀ q, q < k → a ≤ f 0 q ∧ f 0 q ≤ b := h4
  have e2 : cnt + 1 = nI (M + 1) := by rw [h2]; exact nI_1 M
  have hc := cntLe_le (f 0) x k
  show NK a b (M + 1) (if cntLe (f 0) x k < 100 then (min 99 k + 1, noteF f x y z u k, cnt + 1) else (k, f, cnt + 1))
  by_cases hq : cntLe (f 0) x k < 100
  · rw [if_pos hq]
    have hcm : cntLe (f 0) x k ≤ min 99 k := by omega
    have lo : ∀ q, q < cntLe (f 0) x k → f 0 q ≤ x := fun q hq9 => Int32.le_trans (h3 q (cntLe (f 0) x k - 1) (by omega) (by omega)) (cntLe_last (by omega))
    have up : ∀ q, cntLe (f 0) x k ≤ q → q < k → x ≤ f 0 q := fun q ha hb => Int32.le_of_lt (cntLe_gt q ha hb)
    have e0 : noteF f x y z u k 0 = insF (f 0) (cntLe (f 0) x k) (min 99 k) x := rfl
    refine ⟨by show min 99 k + 1 = _; omega, e2, fun i q hiq hqk => ?_, fun q hqk => ?_⟩
    · have hqk : q < min 99 k + 1 := hqk
      show noteF f x y z u k 0 i ≤ noteF f x y z u k 0 q
      rw [e0]
      rcases ins_cases (f := f 0) (c := cntLe (f 0) x k) (x := x) (n := min 99 k) (k := i) (by omega) with ⟨p, e⟩ | ⟨p, e⟩ | ⟨p, e⟩ <;> rcases ins_cases (f := f 0) (c := cntLe (f 0) x k) (x := x) (n := min 99 k) (k := q) (by omega) with ⟨p', e'⟩ | ⟨p', e'⟩ | ⟨p', e'⟩ <;> rw [e, e']
      · exact Int32.le_refl _
      · exact up (q - 1) (by omega) (by omega)
      · omega
      · omega
      · exact h3 _ _ (by omega) (by omega)
      · omega
      · exact lo i p
      · exact Int32.le_trans (lo i p) (up (q - 1) (by omega) (by omega))
      · exact h3 _ _ hiq (by omega)
    · have hqk : q < min 99 k + 1 := hqk
      show a ≤ noteF f x y z u k 0 q ∧ noteF f x y z u k 0 q ≤ b
      rw [e0]
      rcases ins_cases (f := f 0) (c := cntLe (f 0) x k) (x := x) (n := min 99 k) (k := q) (by omega) with ⟨p, e⟩ | ⟨p, e⟩ | ⟨p, e⟩ <;> rw [e]
      · exact hx
      · exact h4 _ (by omega)
      · exact h4 _ (by omega)
  · rw [if_neg hq]
    exact ⟨by show k = _; omega, e2, h3, h4⟩
section NOTES
variable {len : Int32} {pt ct cn : Nat → Int32} {a b : Int32} {num r nc : Nat}
theorem ncS_ok {i M : Nat} {S : NS} (h : NK a b M S) : ∃ M', M' ≤ M + 1 ∧ NK a b M' (ncS len pt ct cn a b num r nc i S) := by
  rw [ncS]
  split
  · rename_i q
    exact ⟨M + 1, Nat.le_refl _, h.note q⟩
  · exact ⟨M, Nat.le_succ _, h⟩
theorem ncR_ok {M : Nat} {S : NS} (h : NK a b M S) : ∀ i, ∃ M', M' ≤ M + i ∧ NK a b M' (ncR len pt ct cn a b num r nc S i)
  | 0 => ⟨M, Nat.le_refl _, h⟩
  | i + 1 => by
    obtain ⟨M1, h1, h2⟩ := ncR_ok h i
    obtain ⟨M2, h3, h4⟩ := ncS_ok (len := len) (pt := pt) (ct := ct) (cn := cn) (num := num) (r := r) (nc := nc) (i := i) h2
    exact ⟨M2, by omega, h4⟩
theorem ncA_ok {M : Nat} {S : NS} (h : NK a b M S) (h8 : nc ≤ 8) : ∀ r, ∃ M', M' ≤ M + 8 * r ∧ NK a b M' (ncA len pt ct cn a b num nc S r)
  | 0 => ⟨M, Nat.le_refl _, h⟩
  | r + 1 => by
    obtain ⟨M1, h1, h2⟩ := ncA_ok h h8 r
    obtain ⟨M2, h3, h4⟩ := ncR_ok (len := len) (pt := pt) (ct := ct) (cn := cn) (num := num) (r := r) (nc := nc) h2 nc
    exact ⟨M2, by omega, h4⟩
end NOTES
theorem ncP_ok {len : Nat → Int32} {pt : Nat → Nat → Int32} {ct cn : Nat → Nat → Int32} {nc R : Nat → Nat} {a b : Int32} {f : Nat → Nat → Int32} : ∀ n, (∀ i, i < n → nc i ≤ 8 ∧ R i ≤ 9) → ∃ M, M ≤ 72 * n ∧ NK a b M (ncP len pt ct cn nc R a b (0, f, 0) n)
  | 0, _ => ⟨0, Nat.le_refl _, NK.zero⟩
  | n + 1, h => by
    obtain ⟨M1, h1, h2⟩ := ncP_ok (len := len) (pt := pt) (ct := ct) (cn := cn) (a := a) (b := b) (f := f) n (fun i hi => h i (by omega))
    obtain ⟨M2, h3, h4⟩ := ncA_ok (len := len n) (pt := pt n) (ct := ct n) (cn := cn n) (num := n) h2 (h n (by omega)).1 (R n)
    have := (h n (by omega)).2
    exact ⟨M2, by omega, h4⟩
/-- the cues of two spans, one behind the other, are those of the whole span -/
theorem cut_xor {a c b t : Int32} (hac : a ≤ c) (hcb : c < b) : ((a ≤ t ∧ t ≤ b) ↔ (a ≤ t ∧ t ≤ c) ∨ (c + 1 ≤ t ∧ t ≤ b)) ∧ ¬ ((a ≤ t ∧ t ≤ c) ∧ (c + 1 ≤ t ∧ t ≤ b)) := by
  have e := lt_succ32 hcb
  simp only [fa_le, fa_lt] at *
  omega
theorem noteS_cnt {x y z u : Int32} {S : NS} : (noteS x y z u S).2.2 = S.2.2 + 1 := by
  rw [noteS]
  split <;> rfl
section CUT
variable {len : Int32} {pt ct cn : Nat → Int32} {a c b : Int32} {num r nc : Nat}
def Cut (S1 S2 S : NS) : Prop := S1.2.2 + S2.2.2 = S.2.2
theorem ncS_cut (hac : a ≤ c) (hcb : c < b) {i : Nat} {S1 S2 S : NS} (h : Cut S1 S2 S) : Cut (ncS len pt ct cn a c num r nc i S1) (ncS len pt ct cn (c + 1) b num r nc i S2) (ncS len pt ct cn a b num r nc i S) := by
  have k := cut_xor (t := meetS len pt (nI r) (ct (cueX pt r nc i))) hac hcb
  unfold Cut at h ⊢
  rw [ncS, ncS, ncS]
  by_cases q1 : a ≤ meetS len pt (nI r) (ct (cueX pt r nc i)) ∧ meetS len pt (nI r) (ct (cueX pt r nc i)) ≤ c
  · rw [if_pos q1, if_neg (fun z => k.2 ⟨q1, z⟩), if_pos (k.1.mpr (Or.inl q1)), noteS_cnt, noteS_cnt, ← h, Int32.add_assoc, Int32.add_comm 1 _, ← Int32.add_assoc]
  · by_cases q2 : c + 1 ≤ meetS len pt (nI r) (ct (cueX pt r nc i)) ∧ meetS len pt (nI r) (ct (cueX pt r nc i)) ≤ b
    · rw [if_neg q1, if_pos q2, if_pos (k.1.mpr (Or.inr q2)), noteS_cnt, noteS_cnt, ← h, Int32.add_assoc]
    · rw [if_neg q1, if_neg q2, if_neg (fun z => (k.1.mp z).elim q1 q2)]
      exact h
theorem ncR_cut (hac : a ≤ c) (hcb : c < b) {S1 S2 S : NS} (h : Cut S1 S2 S) : ∀ i, Cut (ncR len pt ct cn a c num r nc S1 i) (ncR len pt ct cn (c + 1) b num r nc S2 i) (ncR len pt ct cn a b num r nc S i)
  | 0 => h
  | i + 1 => ncS_cut hac hcb (ncR_cut hac hcb h i)
theorem ncA_cut (hac : a ≤ c) (hcb : c < b) {S1 S2 S : NS} (h : Cut S1 S2 S) : ∀ r, Cut (ncA len pt ct cn a c num nc S1 r) (ncA len pt ct cn (c + 1) b num nc S2 r) (ncA len pt ct cn a b num nc S r)
  | 0 => h
  | r + 1 => ncR_cut hac hcb (ncA_cut hac hcb h r) nc
end CUT
theorem ncP_cut {len : Nat → Int32} {pt : Nat → Nat → Int32} {ct cn : Nat → Nat → Int32} {nc R : Nat → Nat} {a c b : Int32} {f1 f2 f : Nat → Nat → Int32} (hac : a ≤ c) (hcb : c < b) : ∀ n, Cut (ncP len pt ct cn nc R a c (0, f1, 0) n) (ncP len pt ct cn nc R (c + 1) b (0, f2, 0) n) (ncP len pt ct cn nc R a b (0, f, 0) n)
  | 0 => (show (0 : Int32) + 0 = 0 by decide)
  | n + 1 => ncA_cut hac hcb (ncP_cut hac hcb n) (R n)
/-! the law's own row of keys beside the class's -/
theorem put_set {f g ft : Nat → Int32} {n p : Nat} {tm r : Int32} (hT : tOK ft n) (hf : ∀ i, i < n → f (3 * i) = ft i) (h : PutP f n tm r p g) (hk : 0 < cntLe ft tm n ∧ ft (cntLe ft tm n - 1) = tm) : r = nI n ∧ ∀ i, i < n → g (3 * i) = ft i := by
  obtain ⟨h1, h2, h3, h4⟩ := h
  have hc := cntLe_le ft tm n
  have hp : p = cntLe ft tm n - 1 := by
    rcases Nat.lt_trichotomy p (cntLe ft tm n - 1) with q | q | q
    · exfalso
      have a := h3 (by omega)
      rw [hf p (by omega)] at a
      exact a (key_lt' hT hk p q)
    · exact q
    · exfalso
      have a := h2 _ q
      rw [hf _ (by omega), hk.2] at a
      exact Int32.lt_irrefl a
  have he : f (3 * p) = tm := by rw [hf p (by omega), hp]; exact hk.2
  rcases h4 with ⟨a1, a2, a3, a4⟩ | ⟨a1, -⟩
  · exact ⟨a3, fun i hi => by rw [a4 i hi, hf i hi]⟩
  · exact absurd ⟨by omega, he⟩ a1
theorem put_ins {f g ft : Nat → Int32} {n p : Nat} {tm r : Int32} (hT : tOK ft n) (hf : ∀ i, i < n → f (3 * i) = ft i) (h : PutP f n tm r p g) (hk : ¬ (0 < cntLe ft tm n ∧ ft (cntLe ft tm n - 1) = tm)) : r = nI (n + 1) ∧ ∀ i, i < n + 1 → g (3 * i) = insF ft (cntLe ft tm n) n tm i := by
  obtain ⟨h1, h2, h3, h4⟩ := h
  have hc := cntLe_le ft tm n
  have hp : p = cntLe ft tm n := by
    rcases Nat.lt_trichotomy p (cntLe ft tm n) with q | q | q
    · exfalso
      have a := h3 (by omega)
      rw [hf p (by omega)] at a
      exact a (key_lt hT hk p q)
    · exact q
    · exfalso
      have a := h2 _ q
      rw [hf _ (by omega)] at a
      exact absurd a (Int32.not_lt.mpr (Int32.le_of_lt (key_gt _ (Nat.le_refl _) (by omega))))
  rcases h4 with ⟨a1, a2, -⟩ | ⟨a1, a2, a3⟩
  · exfalso
    have a := key_gt (ft := ft) (n := n) (x := tm) p (by omega) a1
    rw [← hf p a1, a2] at a
    exact Int32.lt_irrefl a
  · refine ⟨a2, fun i hi => ?_⟩
    rw [a3 i hi, insF_at]
    by_cases e : i = cntLe ft tm n
    · rw [if_neg (by omega), if_pos (by omega), if_pos e]
    · rw [if_neg e]
      by_cases e2 : i < cntLe ft tm n
      · rw [if_pos (by omega), if_neg (by omega), hf i (by omega)]
      · rw [if_neg (by omega), if_neg (by omega), if_pos (by omega), hf _ (by omega)]
