/-! what a track is at a time; the sequence of its keys -/
def dOK (z : Int32) : Prop := 0 < z.toInt ∧ z.toInt ≤ 2000
theorem dpk {z : Int64} (h1 : 0 < z.toInt) (h2 : z.toInt ≤ 8000000000) : 0 < z ∧ ¬ 2 * z = 0 := by
  refine ⟨(fa_lt64 _ _).mpr h1, fun h => ?_⟩
  have e2 : (2 : Int64).toInt = 2 := by decide
  have e := congrArg Int64.toInt h
  rw [fb_mulL (by rw [e2]; omega) (by rw [e2]; omega), e2] at e
  have e0 : (0 : Int64).toInt = 0 := by decide
  omega
theorem dOK.i {z : Int32} : z.toInt64.toInt = z.toInt := Int32.toInt_toInt64 z
theorem dOK.sq {z : Int32} (h : dOK z) : (z.toInt64 * z.toInt64).toInt = z.toInt * z.toInt ∧ 0 < z.toInt * z.toInt ∧ z.toInt * z.toInt ≤ 4000000 := by
  have a1 : 0 < z.toInt * z.toInt := Int.mul_pos h.1 h.1
  have a2 : z.toInt * z.toInt ≤ 2000 * 2000 := Int.mul_le_mul h.2 h.2 (Int.le_of_lt h.1) (by decide)
  refine ⟨?_, a1, by omega⟩
  rw [fb_mulL (by rw [dOK.i]; omega) (by rw [dOK.i]; omega), dOK.i]
theorem dp1 {z : Int32} (h : dOK z) : 0 < z.toInt64 ∧ ¬ 2 * z.toInt64 = 0 := dpk (by rw [dOK.i]; exact h.1) (by rw [dOK.i]; have := h.2; omega)
theorem dp2 {z : Int32} (h : dOK z) : 0 < z.toInt64 * z.toInt64 ∧ ¬ 2 * (z.toInt64 * z.toInt64) = 0 := dpk (by rw [h.sq.1]; exact h.sq.2.1) (by rw [h.sq.1]; have := h.sq.2.2; omega)
theorem dOK.cb {z : Int32} (h : dOK z) : (z.toInt64 * z.toInt64 * z.toInt64).toInt = z.toInt * z.toInt * z.toInt ∧ 0 < z.toInt * z.toInt * z.toInt ∧ z.toInt * z.toInt * z.toInt ≤ 8000000000 := by
  have s := h.sq
  have a1 : 0 < z.toInt * z.toInt * z.toInt := Int.mul_pos s.2.1 h.1
  have a2 : z.toInt * z.toInt * z.toInt ≤ 4000000 * 2000 := Int.mul_le_mul s.2.2 h.2 (Int.le_of_lt h.1) (by decide)
  refine ⟨?_, a1, by omega⟩
  rw [fb_mulL (by rw [s.1, dOK.i]; omega) (by rw [s.1, dOK.i]; omega), s.1, dOK.i]
theorem dp3 {z : Int32} (h : dOK z) : 0 < z.toInt64 * z.toInt64 * z.toInt64 ∧ ¬ 2 * (z.toInt64 * z.toInt64 * z.toInt64) = 0 := dpk (by rw [h.cb.1]; exact h.cb.2.1) (by rw [h.cb.1]; exact h.cb.2.2)
/-- what comes at x of d from u on, w further -/
def ezed (u : Int32) (w : Int64) (e : Int32) (x d : Int64) : Int32 :=
  if e = 0 then u else if e = 1 then u + rnd (w * x) d else if e = 2 then u + rnd (w * x * x) (d * d) else if e = 3 then u + rnd (w * x * (2 * d - x)) (d * d) else u + rnd (w * x * x * (3 * d - 2 * x)) (d * d * d)
def vb (ft fv fe : Nat → Int32) (i j : Nat) (x : Int32) : Int32 := ezed (fv i) (fv j - fv i).toInt64 (fe i) (x - ft i).toInt64 (ft j - ft i).toInt64
/-- the value of a track of sz keys at a time -/
def evT (sz : Nat) (ft fv fe : Nat → Int32) (x : Int32) : Int32 :=
  if cntLe ft x sz = 0 then fv 0 else if cntLe ft x sz = sz then fv (sz - 1) else vb ft fv fe (cntLe ft x sz - 1) (cntLe ft x sz) x
/-- times in their bounds, ascending -/
def tOK (ft : Nat → Int32) (sz : Nat) : Prop := (∀ k, k < sz → 0 ≤ (ft k).toInt ∧ (ft k).toInt ≤ 2000) ∧ ∀ i j, i < j → j < sz → (ft i).toInt < (ft j).toInt
theorem tOK.sub {ft : Nat → Int32} {sz i j : Nat} (h : tOK ft sz) (hi : i < sz) (hj : j < sz) : (ft j - ft i).toInt = (ft j).toInt - (ft i).toInt := by
  have a := h.1 i hi
  have b := h.1 j hj
  exact fb_subI (by omega) (by omega)
theorem tOK.d {ft : Nat → Int32} {sz i j : Nat} (h : tOK ft sz) (hij : i < j) (hj : j < sz) : dOK (ft j - ft i) := by
  have a := h.1 i (by omega)
  have b := h.1 j hj
  have c := h.2 i j hij hj
  unfold dOK
  rw [h.sub (by omega) hj]
  omega
theorem sw4 (e : Int32) : e = 0 ∨ e = 1 ∨ e = 2 ∨ e = 3 ∨ (e.toInt < 0 ∨ 3 < e.toInt) := by
  have e0 := fa_eq e 0
  have e1 := fa_eq e 1
  have e2 := fa_eq e 2
  have e3 := fa_eq e 3
  rw [show (0 : Int32).toInt = 0 by decide] at e0
  rw [show (1 : Int32).toInt = 1 by decide] at e1
  rw [show (2 : Int32).toInt = 2 by decide] at e2
  rw [show (3 : Int32).toInt = 3 by decide] at e3
  rw [e0, e1, e2, e3]
  omega
theorem sw2 (w : Int32) : w = 0 ∨ w = 1 ∨ (¬ w = 0 ∧ ¬ w = 1) := by
  by_cases h : w = 0
  · exact Or.inl h
  · by_cases h1 : w = 1
    · exact Or.inr (Or.inl h1)
    · exact Or.inr (Or.inr ⟨h, h1⟩)
def mirE (e : Int32) : Int32 := if e = 2 then 3 else if e = 3 then 2 else e
/-- the eases of a track that is turned around -/
def teF (fe : Nat → Int32) (sz : Nat) : Nat → Int32 := if sz = 0 then fe else mpF mirE (insF (dlF (rvF fe sz) 0 sz) (sz - 1) (sz - 1) 1) sz
theorem rvF_0 (f : Nat → Int32) : rvF f 0 = f := by
  funext q
  rw [rvF, if_neg (by omega)]
def absI (z : Int32) : Int32 := if 0 ≤ z then z else 0 - z
/-- the track is nearly the same without the keys between i and j -/
def nearP (ft fv fe : Nat → Int32) (tol : Int32) (i j : Nat) : Prop := ∀ k, i ≤ k → k < j → ∀ x : Int32, ft k ≤ x → x < ft (k + 1) → absI (vb ft fv fe i j x - vb ft fv fe k (k + 1) x) ≤ tol
theorem lt_succ32 {x y : Int32} (h : x < y) : (x + 1).toInt = x.toInt + 1 := by
  have h1 := (fa_lt x y).mp h
  have h2 := fb_rng x
  have h3 := fb_rng y
  exact fb_addI (by rw [show (1 : Int32).toInt = 1 by decide]; omega) (by rw [show (1 : Int32).toInt = 1 by decide]; omega)
theorem lt_of_succ32 {x y z : Int32} (h : x < y) (h2 : z < x + 1) : z < x ∨ z = x := by
  rw [fa_lt, lt_succ32 h] at h2
  rw [fa_lt, fa_eq]
  omega
theorem le_succ32 {x y a : Int32} (h : x < y) (h2 : a ≤ x) : a ≤ x + 1 := by
  rw [fa_le, lt_succ32 h]
  rw [fa_le] at h2
  omega
/-- a track that is reduced: how many keys are laid down after i steps, the last key that is left, where each came from -/
noncomputable def thS (N : Nat → Nat → Prop) : Nat → Nat × Nat × (Nat → Nat)
  | 0 => (1, 0, fun _ => 0)
  | i + 1 => @ite _ (N (thS N i).2.1 (i + 2)) (Classical.propDecidable _) (thS N i) ((thS N i).1 + 1, i + 1, fun k => if k = (thS N i).1 then i + 1 else (thS N i).2.2 k)
noncomputable def thN (N : Nat → Nat → Prop) (sz : Nat) : Nat := (thS N (sz - 2)).1 + 1
noncomputable def thI (N : Nat → Nat → Prop) (sz : Nat) : Nat → Nat := fun k => if k = (thS N (sz - 2)).1 then sz - 1 else (thS N (sz - 2)).2.2 k
def thF (f : Nat → Int32) (g : Nat → Nat) (left : Nat) : Nat → Int32 := fun k => if k < left then f (g k) else f k
theorem thS_near {N : Nat → Nat → Prop} {i left last : Nat} {g : Nat → Nat} (h1 : 1 ≤ i) (hs : thS N (i - 1) = (left, last, g)) (hn : N last (i + 1)) : thS N (i + 1 - 1) = (left, last, g) := by
  obtain ⟨k, rfl⟩ : ∃ k, i = k + 1 := ⟨i - 1, by omega⟩
  rw [show k + 1 - 1 = k by omega] at hs
  show thS N (k + 1) = _
  rw [thS, hs, if_pos hn]
theorem thS_far {N : Nat → Nat → Prop} {i left last : Nat} {g : Nat → Nat} (h1 : 1 ≤ i) (hs : thS N (i - 1) = (left, last, g)) (hn : ¬ N last (i + 1)) : thS N (i + 1 - 1) = (left + 1, i, fun k => if k = left then i else g k) := by
  obtain ⟨k, rfl⟩ : ∃ k, i = k + 1 := ⟨i - 1, by omega⟩
  rw [show k + 1 - 1 = k by omega] at hs
  show thS N (k + 1) = _
  rw [thS, hs, if_neg hn]
theorem thF_1 (f : Nat → Int32) : thF f (fun _ => 0) 1 = f := by
  funext k
  rw [thF]
  split
  · have e : k = 0 := by omega
    rw [e]
  · rfl
theorem thF_push {f : Nat → Int32} {g : Nat → Nat} {left i : Nat} (h : left ≤ i) : upd (thF f g left) left (thF f g left i) = thF f (fun k => if k = left then i else g k) (left + 1) := by
  apply upd_eq
  · show (if left < left + 1 then f (if left = left then i else g left) else f left) = (if i < left then f (g i) else f i)
    rw [if_pos (Nat.lt_succ_self left), if_pos rfl, if_neg (by omega)]
  · intro q hq
    rw [thF, thF]
    by_cases h1 : q < left
    · rw [if_pos h1, if_pos (by omega)]
      show f (if q = left then i else g q) = f (g q)
      rw [if_neg hq]
    · rw [if_neg h1, if_neg (by omega)]
theorem thF_hi {f : Nat → Int32} {g : Nat → Nat} {left last k : Nat} (hg : ∀ k, last ≤ k → k < left → g k = k) (h : last ≤ k) : thF f g left k = f k := by
  rw [thF]
  split
  · rw [hg k h (by assumption)]
  · rfl
theorem near_congr {ft fv fe ft' fv' fe' : Nat → Int32} {tol : Int32} {i j : Nat} (hij : i < j) (h : ∀ k, i ≤ k → k ≤ j → ft' k = ft k ∧ fv' k = fv k ∧ fe' k = fe k) (hn : nearP ft' fv' fe' tol i j) : nearP ft fv fe tol i j := by
  intro k h1 h2 x h3 h4
  have a := h k h1 (by omega)
  have b := h (k + 1) (by omega) (by omega)
  have c := h i (Nat.le_refl i) (by omega)
  have d := h j (by omega) (Nat.le_refl j)
  have q := hn k h1 h2 x (by rw [a.1]; exact h3) (by rw [b.1]; exact h4)
  simp only [vb] at q ⊢
  rw [a.1, a.2.1, a.2.2, b.1, b.2.1, c.1, c.2.1, c.2.2, d.1, d.2.1] at q
  exact q
/-- the tracks of a clip -/
def tkF (t : Nat → Nat) : Nat → Option Nat := fun k => if k < 4 then some (t k) else none
theorem tkF_ref {t : Nat → Nat} {j : Nat} (h : j < 4) : va_rf (tkF t j) = .ref (t j) := by
  rw [tkF, if_pos h]
  rfl
/-- the checksum's step, and what a track and the cues give -/
def mix (d : Int64) (x : Int32) : Int64 := d * 31 + x.toInt64
def dgT (ft fv fe : Nat → Int32) (d : Int64) : Nat → Int64
  | 0 => d
  | k + 1 => mix (mix (mix (dgT ft fv fe d k) (ft k)) (fv k)) (fe k)
def dgC (ct cn : Nat → Int32) (d : Int64) : Nat → Int64
  | 0 => d
  | k + 1 => mix (mix (dgC ct cn d k) (ct k)) (cn k)
def dgClip (len : Int32) (sz : Nat → Nat) (f : Nat → Nat → Int32) (nc : Nat) (ct cn : Nat → Int32) (d : Int64) : Int64 :=
  dgC ct cn (mix (dgT (f 9) (f 10) (f 11) (mix (dgT (f 6) (f 7) (f 8) (mix (dgT (f 3) (f 4) (f 5) (mix (dgT (f 0) (f 1) (f 2) (mix (mix d len) (nI (sz 0))) (sz 0)) (nI (sz 1))) (sz 1)) (nI (sz 2))) (sz 2)) (nI (sz 3))) (sz 3)) (nI nc)) nc
theorem sw1 (w : Int32) : w = 0 ∨ ¬ w = 0 := Classical.em _
theorem tkF_4 (a b c d : Nat) : tkF (fun k => [a, b, c, d].getD k 0) = va_up (va_up (va_up (va_up (fun _ => none) 0 (some a)) 1 (some b)) 2 (some c)) 3 (some d) := by
  funext k
  match k with
  | 0 => rfl
  | 1 => rfl
  | 2 => rfl
  | 3 => rfl
  | k + 4 =>
    rw [tkF, if_neg (by omega)]
    simp only [va_up]
    rw [if_neg (by omega), if_neg (by omega), if_neg (by omega), if_neg (by omega)]
