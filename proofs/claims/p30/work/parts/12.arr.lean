/-! rows of numbers as functions: what is done to them -/
/-- the cells j+1 .. sz (from k+1 on) have taken what stood one place below -/
def shF (f : Nat → Int32) (k sz : Nat) : Nat → Int32 := fun q => if k < q ∧ q ≤ sz then f (q - 1) else f q
def insF (f : Nat → Int32) (j sz : Nat) (x : Int32) : Nat → Int32 := upd (shF f j sz) j x
/-- the cells j .. have taken what stood one place above, as far as k -/
def dlF (f : Nat → Int32) (j k : Nat) : Nat → Int32 := fun q => if j ≤ q ∧ q + 1 < k then f (q + 1) else f q
def rvP (f : Nat → Int32) (k sz : Nat) : Nat → Int32 := fun q => if q < k ∨ (sz - k ≤ q ∧ q < sz) then f (sz - 1 - q) else f q
def rvF (f : Nat → Int32) (sz : Nat) : Nat → Int32 := fun q => if q < sz then f (sz - 1 - q) else f q
/-- the first k cells mapped -/
def mpF (g : Int32 → Int32) (f : Nat → Int32) (k : Nat) : Nat → Int32 := fun q => if q < k then g (f q) else f q
/-- how many, from the end, are left where those above x are left out -/
def cntLe (f : Nat → Int32) (x : Int32) : Nat → Nat
  | 0 => 0
  | n + 1 => if f n ≤ x then n + 1 else cntLe f x n
theorem cntLe_le (f : Nat → Int32) (x : Int32) : ∀ n, cntLe f x n ≤ n
  | 0 => Nat.le_refl 0
  | n + 1 => by
    rw [cntLe]
    split
    · exact Nat.le_refl _
    · exact Nat.le_succ_of_le (cntLe_le f x n)
theorem cntLe_stop {f : Nat → Int32} {x : Int32} {k : Nat} (h0 : 0 < k) (h : f (k - 1) ≤ x) : cntLe f x k = k := by
  cases k with
  | zero => exact absurd h0 (Nat.lt_irrefl 0)
  | succ k => exact if_pos h
theorem cntLe_go {f : Nat → Int32} {x : Int32} {k : Nat} (h0 : 0 < k) (h : ¬ f (k - 1) ≤ x) : cntLe f x (k - 1) = cntLe f x k := by
  cases k with
  | zero => exact absurd h0 (Nat.lt_irrefl 0)
  | succ k => exact (if_neg h).symm
theorem upd_eq {f g : Nat → Int32} {k : Nat} {x : Int32} (h1 : g k = x) (h2 : ∀ q, q ≠ k → g q = f q) : upd f k x = g := by
  funext q
  by_cases h : q = k
  · subst h
    simp only [upd, if_pos]
    exact h1.symm
  · simp only [upd, if_neg h]
    exact (h2 q h).symm
theorem shF_self (f : Nat → Int32) (sz : Nat) : shF f sz sz = f := by
  funext q
  rw [shF, if_neg (by omega)]
theorem shF_step {f : Nat → Int32} {k sz : Nat} (h0 : 0 < k) (h : k ≤ sz) : upd (shF f k sz) k (shF f k sz (k - 1)) = shF f (k - 1) sz := by
  apply upd_eq
  · rw [shF, shF, if_pos (by omega), if_neg (by omega)]
  · intro q hq
    rw [shF, shF]
    by_cases h1 : k < q ∧ q ≤ sz
    · rw [if_pos h1, if_pos (by omega)]
    · rw [if_neg h1, if_neg (by omega)]
theorem insF_at {f : Nat → Int32} {j sz : Nat} {x : Int32} (q : Nat) : insF f j sz x q = if q = j then x else if j < q ∧ q ≤ sz then f (q - 1) else f q := rfl
theorem dlF_self (f : Nat → Int32) (j : Nat) : dlF f j (j + 1) = f := by
  funext q
  rw [dlF, if_neg (by omega)]
theorem dlF_step {f : Nat → Int32} {j k : Nat} (h : j < k) : upd (dlF f j k) (k - 1) (dlF f j k k) = dlF f j (k + 1) := by
  apply upd_eq
  · rw [dlF, dlF, if_pos (by omega), if_neg (by omega)]
    congr 1
    omega
  · intro q hq
    rw [dlF, dlF]
    by_cases h1 : j ≤ q ∧ q + 1 < k
    · rw [if_pos h1, if_pos (by omega)]
    · rw [if_neg h1, if_neg (by omega)]
theorem rvP_0 (f : Nat → Int32) (sz : Nat) : rvP f 0 sz = f := by
  funext q
  rw [rvP, if_neg (by omega)]
theorem rvP_end {f : Nat → Int32} {k sz : Nat} (h : sz / 2 ≤ k) (h2 : k ≤ sz / 2) : rvP f k sz = rvF f sz := by
  funext q
  rw [rvP, rvF]
  by_cases h1 : q < k ∨ (sz - k ≤ q ∧ q < sz)
  · rw [if_pos h1, if_pos (by omega)]
  · rw [if_neg h1]
    by_cases h3 : q < sz
    · rw [if_pos h3]
      congr 1
      omega
    · rw [if_neg h3]
theorem rvP_step {f : Nat → Int32} {k sz : Nat} (h : k < sz / 2) : upd (upd (rvP f k sz) k (rvP f k sz (sz - 1 - k))) (sz - 1 - k) (rvP f k sz k) = rvP f (k + 1) sz := by
  have e1 : rvP f k sz (sz - 1 - k) = f (sz - 1 - k) := by rw [rvP, if_neg (by omega)]
  have e2 : rvP f k sz k = f k := by rw [rvP, if_neg (by omega)]
  rw [e1, e2]
  funext q
  simp only [upd]
  by_cases h1 : q = sz - 1 - k
  · rw [if_pos h1, rvP, if_pos (by omega)]
    congr 1
    omega
  · rw [if_neg h1]
    by_cases h2 : q = k
    · rw [if_pos h2, rvP, if_pos (by omega)]
      congr 1
      omega
    · rw [if_neg h2, rvP, rvP]
      by_cases h3 : q < k ∨ (sz - k ≤ q ∧ q < sz)
      · rw [if_pos h3, if_pos (by omega)]
      · rw [if_neg h3, if_neg (by omega)]
theorem mpF_0 (g : Int32 → Int32) (f : Nat → Int32) : mpF g f 0 = f := by
  funext q
  rw [mpF, if_neg (by omega)]
theorem mpF_at (g : Int32 → Int32) (f : Nat → Int32) (k : Nat) : mpF g f k k = f k := by rw [mpF, if_neg (by omega)]
theorem mpF_step (g : Int32 → Int32) (f : Nat → Int32) (k : Nat) : upd (mpF g f k) k (g (f k)) = mpF g f (k + 1) := by
  apply upd_eq
  · rw [mpF, if_pos (by omega)]
  · intro q hq
    rw [mpF, mpF]
    by_cases h1 : q < k
    · rw [if_pos h1, if_pos (by omega)]
    · rw [if_neg h1, if_neg (by omega)]
theorem nI_half {n : Nat} (h : n < 2 ^ 31) : nI n / 2 = nI (n / 2) := pk_div (a := n) (d := 2) h (by decide) (by decide)
