def upC {α : Type} (f : Nat → α) (c0 : Nat) (v : α) : Nat → α := fun c => if c = c0 then v else f c
theorem upC_at {α : Type} {f : Nat → α} {c0 : Nat} {v : α} : upC f c0 v c0 = v := if_pos rfl
theorem upC_ne {α : Type} {f : Nat → α} {c0 c : Nat} {v : α} (h : ¬ c = c0) : upC f c0 v c = f c := if_neg h
/-- a track's three rows are written anew -/
def up3 {α : Type} (F : Nat → α) (j : Nat) (v0 v1 v2 : α) : Nat → α := fun y => if y = 3 * j then v0 else if y = 3 * j + 1 then v1 else if y = 3 * j + 2 then v2 else F y
theorem up3_0 {α : Type} {F : Nat → α} {j : Nat} {v0 v1 v2 : α} : up3 F j v0 v1 v2 (3 * j) = v0 := if_pos rfl
theorem up3_1 {α : Type} {F : Nat → α} {j : Nat} {v0 v1 v2 : α} : up3 F j v0 v1 v2 (3 * j + 1) = v1 := (if_neg (by omega)).trans (if_pos rfl)
theorem up3_2 {α : Type} {F : Nat → α} {j : Nat} {v0 v1 v2 : α} : up3 F j v0 v1 v2 (3 * j + 2) = v2 := (if_neg (by omega)).trans ((if_neg (by omega)).trans (if_pos rfl))
theorem up3_n0 {α : Type} {F : Nat → α} {j i : Nat} {v0 v1 v2 : α} (h : ¬ i = j) : up3 F j v0 v1 v2 (3 * i) = F (3 * i) := (if_neg (by omega)).trans ((if_neg (by omega)).trans (if_neg (by omega)))
theorem up3_n1 {α : Type} {F : Nat → α} {j i : Nat} {v0 v1 v2 : α} (h : ¬ i = j) : up3 F j v0 v1 v2 (3 * i + 1) = F (3 * i + 1) := (if_neg (by omega)).trans ((if_neg (by omega)).trans (if_neg (by omega)))
theorem up3_n2 {α : Type} {F : Nat → α} {j i : Nat} {v0 v1 v2 : α} (h : ¬ i = j) : up3 F j v0 v1 v2 (3 * i + 2) = F (3 * i + 2) := (if_neg (by omega)).trans ((if_neg (by omega)).trans (if_neg (by omega)))
def wG (F0 E1 E2 M O : va_W) (hd : Nat → va_W) (tk : Nat → Nat → va_W) (st : Nat → va_W) : gI → va_W
  | .inl 0 => F0
  | .inl 1 => E1
  | .inl 2 => E2
  | .inl 3 => M
  | .inl 4 => O
  | .inl _ => []
  | .inr (.inl c) => hd c
  | .inr (.inr (.inl (c, j))) => tk c j
  | .inr (.inr (.inr i)) => st i
theorem wG_same {F0 E1 E2 M O F0' E1' E2' M' O' : va_W} {hd hd' : Nat → va_W} {tk tk' : Nat → Nat → va_W} {st st' : Nat → va_W} {gs : List gI} (h0 : F0' = F0 ∨ kF 0 ∈ gs) (h1 : E1' = E1 ∨ kF 1 ∈ gs) (h2 : E2' = E2 ∨ kF 2 ∈ gs) (h3 : M' = M ∨ kF 3 ∈ gs) (h4 : O' = O ∨ kF 4 ∈ gs) (hh : ∀ c, kH c ∉ gs → hd' c = hd c) (ht : ∀ c j, kT c j ∉ gs → tk' c j = tk c j) (hs : ∀ i, kS i ∉ gs → st' i = st i) : ∀ g, g ∉ gs → wG F0' E1' E2' M' O' hd' tk' st' g = wG F0 E1 E2 M O hd tk st g := by
  intro g hg
  match g, hg with
  | .inl 0, hg => exact h0.resolve_right hg
  | .inl 1, hg => exact h1.resolve_right hg
  | .inl 2, hg => exact h2.resolve_right hg
  | .inl 3, hg => exact h3.resolve_right hg
  | .inl 4, hg => exact h4.resolve_right hg
  | .inl (n + 5), hg => rfl
  | .inr (.inl c), hg => exact hh c hg
  | .inr (.inr (.inl (c, j))), hg => exact ht c j hg
  | .inr (.inr (.inr i)), hg => exact hs i hg
def hdC (D : va_G) (nC : Nat) (cl ta : Nat → Nat) (q b t : Nat → Nat → Nat) (len : Nat → Int32) (nc : Nat → Nat) (ct cn : Nat → Nat → Int32) (c : Nat) : va_W := if c < nC then [oO (cl c) 0 [.int (len c), .ref (ta c), .ref (q c 0), .ref (q c 1)], aT D (ta c) 4 (tkF (t c)), oO (q c 0) 2 [.ref (b c 0), .int (nI (nc c))], oO (q c 1) 2 [.ref (b c 1), .int (nI (nc c))], aI D (b c 0) 8 (ct c), aI D (b c 1) 8 (cn c)] else []
theorem hdC_at {D : va_G} {nC : Nat} {cl ta : Nat → Nat} {q b t : Nat → Nat → Nat} {len : Nat → Int32} {nc : Nat → Nat} {ct cn : Nat → Nat → Int32} {c : Nat} (h : c < nC) : hdC D nC cl ta q b t len nc ct cn c = [oO (cl c) 0 [.int (len c), .ref (ta c), .ref (q c 0), .ref (q c 1)], aT D (ta c) 4 (tkF (t c)), oO (q c 0) 2 [.ref (b c 0), .int (nI (nc c))], oO (q c 1) 2 [.ref (b c 1), .int (nI (nc c))], aI D (b c 0) 8 (ct c), aI D (b c 1) 8 (cn c)] := if_pos h
def tkC (D : va_G) (nC : Nat) (t r a sz : Nat → Nat → Nat) (f : Nat → Nat → Nat → Int32) (c j : Nat) : va_W := if c < nC ∧ j < 4 then [oO (t c j) 4 [.ref (r c (3 * j)), .ref (r c (3 * j + 1)), .ref (r c (3 * j + 2))], oO (r c (3 * j)) 2 [.ref (a c (3 * j)), .int (nI (sz c j))], oO (r c (3 * j + 1)) 2 [.ref (a c (3 * j + 1)), .int (nI (sz c j))], oO (r c (3 * j + 2)) 2 [.ref (a c (3 * j + 2)), .int (nI (sz c j))], aI D (a c (3 * j)) 16 (f c (3 * j)), aI D (a c (3 * j + 1)) 16 (f c (3 * j + 1)), aI D (a c (3 * j + 2)) 16 (f c (3 * j + 2))] else []
theorem tkC_at {D : va_G} {nC : Nat} {t r a sz : Nat → Nat → Nat} {f : Nat → Nat → Nat → Int32} {c j : Nat} (h : c < nC) (hj : j < 4) : tkC D nC t r a sz f c j = [oO (t c j) 4 [.ref (r c (3 * j)), .ref (r c (3 * j + 1)), .ref (r c (3 * j + 2))], oO (r c (3 * j)) 2 [.ref (a c (3 * j)), .int (nI (sz c j))], oO (r c (3 * j + 1)) 2 [.ref (a c (3 * j + 1)), .int (nI (sz c j))], oO (r c (3 * j + 2)) 2 [.ref (a c (3 * j + 2)), .int (nI (sz c j))], aI D (a c (3 * j)) 16 (f c (3 * j)), aI D (a c (3 * j + 1)) 16 (f c (3 * j + 1)), aI D (a c (3 * j + 2)) 16 (f c (3 * j + 2))] := if_pos ⟨h, hj⟩
def stC (nS : Nat) (sl cl ck : Nat → Nat) (pt : Nat → Nat → Int32) (i : Nat) : va_W := if i < nS then [oO (sl i) 3 [.ref (cl (ck i)), .int (pt i 0), .int (pt i 1), .int (pt i 3), .int (pt i 4), .int (pt i 5), .int (pt i 6), .int (pt i 7), .int (pt i 8), .int (pt i 9), .int (pt i 10), .int (pt i 11), .int (pt i 12)]] else []
theorem stC_at {nS : Nat} {sl cl ck : Nat → Nat} {pt : Nat → Nat → Int32} {i : Nat} (h : i < nS) : stC nS sl cl ck pt i = [oO (sl i) 3 [.ref (cl (ck i)), .int (pt i 0), .int (pt i 1), .int (pt i 3), .int (pt i 4), .int (pt i 5), .int (pt i 6), .int (pt i 7), .int (pt i 8), .int (pt i 9), .int (pt i 10), .int (pt i 11), .int (pt i 12)]] := if_pos h
def elC (D : va_G) (ec n : Nat) (e : Nat) (cl : Nat → Nat) : va_W := if e = 0 then [] else [aO D ec 10 (lsF cl n)]
theorem elC_at {D : va_G} {ec n e : Nat} {cl : Nat → Nat} (h : ¬ e = 0) : elC D ec n e cl = [aO D ec 10 (lsF cl n)] := if_neg h
theorem elC_0 {D : va_G} {ec n : Nat} {cl : Nat → Nat} : elC D ec n 0 cl = [] := if_pos rfl
/-- a track is in order -/
def KO (ln : Int32) (n : Nat) (ft fv : Nat → Int32) : Prop := n ≤ 16 ∧ tOK ft n ∧ (∀ k, k < n → (ft k).toInt ≤ ln.toInt) ∧ ∀ k, -10000 ≤ (fv k).toInt ∧ (fv k).toInt ≤ 10000
def lOK (ln : Int32) : Prop := 1 ≤ ln.toInt ∧ ln.toInt ≤ 2000
/-- the state is in order -/
def Inv (nC : Nat) (len : Nat → Int32) (sz : Nat → Nat → Nat) (f : Nat → Nat → Nat → Int32) (nc : Nat → Nat) (bf : Nat → Int32) (nS : Nat) (ck : Nat → Nat) (pt : Nat → Nat → Int32) : Prop :=
  (nC ≤ 6 ∧ nS ≤ 10) ∧ (∀ c, c < nC → lOK (len c)) ∧ (∀ c, c < nC → ∀ j, j < 4 → KO (len c) (sz c j) (f c (3 * j)) (f c (3 * j + 1))) ∧ (∀ c, c < nC → nc c ≤ 8) ∧ (∀ j, j < 4 → -10000 ≤ (bf j).toInt ∧ (bf j).toInt ≤ 10000) ∧ (∀ i, i < nS → ck i < nC ∧ pt i 0 = nI (ck i) ∧ sOK (len (ck i)) (pt i)) ∧ ∀ c, nC ≤ c → nc c = 0 ∧ ∀ j, sz c j = 0

theorem mem_cell {G : gI → va_W} {g : gI} {w : va_W} {q : Nat × va_E} (h : G g = w) (i : Nat) (hi : w[i]? = some q) : q ∈ G g := by
  rw [h]
  exact List.mem_of_getElem? hi
/-- a KeyStage at xo, and the law's own arrays O -/
def KX (D : va_G) (A0 : Nat → Prop) (z xo : Nat) (O : va_W) (H : Heap) (lc : Nat) (lt : Nat) (bo : Nat) (yo : Nat) (no : Nat) (ec : Nat) (et : Nat) (ba : Nat) (ya : Nat) (n0 : Nat) (eS : Nat) (m1 : Int32) (m2 : Int32) (yf : Nat → Int32) (cl : Nat → Nat) (ta : Nat → Nat) (sl : Nat → Nat) (ggf : Nat → Nat) (hhf : Nat → Nat) (qq : Nat → Nat → Nat) (bb : Nat → Nat → Nat) (tt : Nat → Nat → Nat) (rr : Nat → Nat → Nat) (aa : Nat → Nat → Nat) (nC : Nat) (len : Nat → Int32) (sz : Nat → Nat → Nat) (ff : Nat → Nat → Nat → Int32) (nc : Nat → Nat) (ct : Nat → Nat → Int32) (cn : Nat → Nat → Int32) (bf : Nat → Int32) (nS : Nat) (ck : Nat → Nat) (pt : Nat → Nat → Int32) (kN : Nat) (nf : Nat → Nat → Int32) (cnt : Int32) : Prop := GP D (wG [oO xo 5 [.ref lc, .ref lt, .ref bo, .ref yo, .ref no], oO lc 7 [.int m1, .ref ec, .int (nI nC)], oO lt 7 [.int m2, .ref et, .int (nI nS)], oO bo 2 [.ref ba, .int (nI 4)], aI D ba 4 bf, oO yo 2 [.ref ya, .int (nI n0)], aI D ya 10 yf, oO no 1 [.ref (ggf 0), .ref (ggf 1), .ref (ggf 2), .ref (ggf 3), .int cnt], oO (ggf 0) 2 [.ref (hhf 0), .int (nI kN)], oO (ggf 1) 2 [.ref (hhf 1), .int (nI kN)], oO (ggf 2) 2 [.ref (hhf 2), .int (nI kN)], oO (ggf 3) 2 [.ref (hhf 3), .int (nI kN)], aI D (hhf 0) 100 (nf 0), aI D (hhf 1) 100 (nf 1), aI D (hhf 2) 100 (nf 2), aI D (hhf 3) 100 (nf 3)] (elC D ec nC nC cl) (elC D et nS eS sl) [] O (hdC D nC cl ta qq bb tt len nc ct cn) (tkC D nC tt rr aa sz ff) (stC nS sl cl ck pt)) H ∧ GD A0 (wG [oO xo 5 [.ref lc, .ref lt, .ref bo, .ref yo, .ref no], oO lc 7 [.int m1, .ref ec, .int (nI nC)], oO lt 7 [.int m2, .ref et, .int (nI nS)], oO bo 2 [.ref ba, .int (nI 4)], aI D ba 4 bf, oO yo 2 [.ref ya, .int (nI n0)], aI D ya 10 yf, oO no 1 [.ref (ggf 0), .ref (ggf 1), .ref (ggf 2), .ref (ggf 3), .int cnt], oO (ggf 0) 2 [.ref (hhf 0), .int (nI kN)], oO (ggf 1) 2 [.ref (hhf 1), .int (nI kN)], oO (ggf 2) 2 [.ref (hhf 2), .int (nI kN)], oO (ggf 3) 2 [.ref (hhf 3), .int (nI kN)], aI D (hhf 0) 100 (nf 0), aI D (hhf 1) 100 (nf 1), aI D (hhf 2) 100 (nf 2), aI D (hhf 3) 100 (nf 3)] (elC D ec nC nC cl) (elC D et nS eS sl) [] O (hdC D nC cl ta qq bb tt len nc ct cn) (tkC D nC tt rr aa sz ff) (stC nS sl cl ck pt)) ∧ (Inv nC len sz ff nc bf nS ck pt) ∧ kN ≤ 100 ∧ n0 ≤ 10 ∧ (nC = 0 → ec = z) ∧ (eS = 0 → nS = 0 ∧ et = z)
def KB (D : va_G) (A0 : Nat → Prop) (z xo : Nat) (O : va_W) (H : Heap) (nC : Nat) (len : Nat → Int32) (sz : Nat → Nat → Nat) (ff : Nat → Nat → Nat → Int32) (nc : Nat → Nat) (ct : Nat → Nat → Int32) (cn : Nat → Nat → Int32) (bf : Nat → Int32) (nS : Nat) (ck : Nat → Nat) (pt : Nat → Nat → Int32) (kN : Nat) (nf : Nat → Nat → Int32) (cnt : Int32) : Prop := ∃ (lc : Nat) (lt : Nat) (bo : Nat) (yo : Nat) (no : Nat) (ec : Nat) (et : Nat) (ba : Nat) (ya : Nat) (n0 : Nat) (eS : Nat) (m1 : Int32) (m2 : Int32) (yf : Nat → Int32) (cl : Nat → Nat) (ta : Nat → Nat) (sl : Nat → Nat) (ggf : Nat → Nat) (hhf : Nat → Nat) (qq : Nat → Nat → Nat) (bb : Nat → Nat → Nat) (tt : Nat → Nat → Nat) (rr : Nat → Nat → Nat) (aa : Nat → Nat → Nat), KX D A0 z xo O H lc lt bo yo no ec et ba ya n0 eS m1 m2 yf cl ta sl ggf hhf qq bb tt rr aa nC len sz ff nc ct cn bf nS ck pt kN nf cnt
theorem KB.inv {D : va_G} {A0 : Nat → Prop} {z xo : Nat} {O : va_W} {H : Heap} {nC : Nat} {len : Nat → Int32} {sz : Nat → Nat → Nat} {ff : Nat → Nat → Nat → Int32} {nc : Nat → Nat} {ct : Nat → Nat → Int32} {cn : Nat → Nat → Int32} {bf : Nat → Int32} {nS : Nat} {ck : Nat → Nat} {pt : Nat → Nat → Int32} {kN : Nat} {nf : Nat → Nat → Int32} {cnt : Int32} (hK : KB D A0 z xo O H nC len sz ff nc ct cn bf nS ck pt kN nf cnt) : (Inv nC len sz ff nc bf nS ck pt) ∧ kN ≤ 100 := by
  obtain ⟨lc, lt, bo, yo, no, ec, et, ba, ya, n0, eS, m1, m2, yf, cl, ta, sl, ggf, hhf, qq, bb, tt, rr, aa, hX⟩ := hK
  obtain ⟨hGP, hGD, hInv, hk100, hn0, hE1, hE2⟩ := hX
  exact ⟨hInv, hk100⟩
/-- the law's own arrays -/
theorem KB.own {D : va_G} {A0 : Nat → Prop} {z xo : Nat} {O : va_W} {H : Heap} {nC : Nat} {len : Nat → Int32} {sz : Nat → Nat → Nat} {ff : Nat → Nat → Nat → Int32} {nc : Nat → Nat} {ct : Nat → Nat → Int32} {cn : Nat → Nat → Int32} {bf : Nat → Int32} {nS : Nat} {ck : Nat → Nat} {pt : Nat → Nat → Int32} {kN : Nat} {nf : Nat → Nat → Int32} {cnt : Int32} (hK : KB D A0 z xo O H nC len sz ff nc ct cn bf nS ck pt kN nf cnt) : va_P D cls O H ∧ va_D A0 O := by
  obtain ⟨lc, lt, bo, yo, no, ec, et, ba, ya, n0, eS, m1, m2, yf, cl, ta, sl, ggf, hhf, qq, bb, tt, rr, aa, hX⟩ := hK
  obtain ⟨hGP, hGD, hInv, hk100, hn0, hE1, hE2⟩ := hX
  refine ⟨hGP (kF 4), fun i j p q h1 h2 h3 => (hGD.1 (kF 4) (kF 4) i j p q h1 h2 h3).2, fun k q h => hGD.2 (kF 4) k q h⟩
/-- some of the own arrays are forgotten -/
theorem KB.less {D : va_G} {A0 : Nat → Prop} {z xo : Nat} {O : va_W} {H : Heap} {nC : Nat} {len : Nat → Int32} {sz : Nat → Nat → Nat} {ff : Nat → Nat → Nat → Int32} {nc : Nat → Nat} {ct : Nat → Nat → Int32} {cn : Nat → Nat → Int32} {bf : Nat → Int32} {nS : Nat} {ck : Nat → Nat} {pt : Nat → Nat → Int32} {kN : Nat} {nf : Nat → Nat → Int32} {cnt : Int32} (hK : KB D A0 z xo O H nC len sz ff nc ct cn bf nS ck pt kN nf cnt) {n : Nat} : KB D A0 z xo (O.take n) H nC len sz ff nc ct cn bf nS ck pt kN nf cnt := by
  obtain ⟨lc, lt, bo, yo, no, ec, et, ba, ya, n0, eS, m1, m2, yf, cl, ta, sl, ggf, hhf, qq, bb, tt, rr, aa, hX⟩ := hK
  obtain ⟨hGP, hGD, hInv, hk100, hn0, hE1, hE2⟩ := hX
  have key : ∀ (g : gI) (k : Nat) (q : Nat × va_E), ((wG [oO xo 5 [.ref lc, .ref lt, .ref bo, .ref yo, .ref no], oO lc 7 [.int m1, .ref ec, .int (nI nC)], oO lt 7 [.int m2, .ref et, .int (nI nS)], oO bo 2 [.ref ba, .int (nI 4)], aI D ba 4 bf, oO yo 2 [.ref ya, .int (nI n0)], aI D ya 10 yf, oO no 1 [.ref (ggf 0), .ref (ggf 1), .ref (ggf 2), .ref (ggf 3), .int cnt], oO (ggf 0) 2 [.ref (hhf 0), .int (nI kN)], oO (ggf 1) 2 [.ref (hhf 1), .int (nI kN)], oO (ggf 2) 2 [.ref (hhf 2), .int (nI kN)], oO (ggf 3) 2 [.ref (hhf 3), .int (nI kN)], aI D (hhf 0) 100 (nf 0), aI D (hhf 1) 100 (nf 1), aI D (hhf 2) 100 (nf 2), aI D (hhf 3) 100 (nf 3)] (elC D ec nC nC cl) (elC D et nS eS sl) [] (O.take n) (hdC D nC cl ta qq bb tt len nc ct cn) (tkC D nC tt rr aa sz ff) (stC nS sl cl ck pt)) g)[k]? = some q → ((wG [oO xo 5 [.ref lc, .ref lt, .ref bo, .ref yo, .ref no], oO lc 7 [.int m1, .ref ec, .int (nI nC)], oO lt 7 [.int m2, .ref et, .int (nI nS)], oO bo 2 [.ref ba, .int (nI 4)], aI D ba 4 bf, oO yo 2 [.ref ya, .int (nI n0)], aI D ya 10 yf, oO no 1 [.ref (ggf 0), .ref (ggf 1), .ref (ggf 2), .ref (ggf 3), .int cnt], oO (ggf 0) 2 [.ref (hhf 0), .int (nI kN)], oO (ggf 1) 2 [.ref (hhf 1), .int (nI kN)], oO (ggf 2) 2 [.ref (hhf 2), .int (nI kN)], oO (ggf 3) 2 [.ref (hhf 3), .int (nI kN)], aI D (hhf 0) 100 (nf 0), aI D (hhf 1) 100 (nf 1), aI D (hhf 2) 100 (nf 2), aI D (hhf 3) 100 (nf 3)] (elC D ec nC nC cl) (elC D et nS eS sl) [] O (hdC D nC cl ta qq bb tt len nc ct cn) (tkC D nC tt rr aa sz ff) (stC nS sl cl ck pt)) g)[k]? = some q := fun g k q h => by
    match g, h with
    | .inl 0, h => exact h
    | .inl 1, h => exact h
    | .inl 2, h => exact h
    | .inl 3, h => exact h
    | .inl 4, h =>
      have h : (O.take n)[k]? = some q := h
      rw [List.getElem?_take] at h
      split at h
      · exact h
      · cases h
    | .inl (n + 5), h => exact h
    | .inr (.inl c), h => exact h
    | .inr (.inr (.inl (c, j))), h => exact h
    | .inr (.inr (.inr i)), h => exact h
  exact ⟨lc, lt, bo, yo, no, ec, et, ba, ya, n0, eS, m1, m2, yf, cl, ta, sl, ggf, hhf, qq, bb, tt, rr, aa, hGP.re id key, hGD.re id key (fun g g' p q _ _ h => h), hInv, hk100, hn0, hE1, hE2⟩
