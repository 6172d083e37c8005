/-- a row of references from which the one at i is taken -/
def rmQ (f : Nat → Option Nat) (i n : Nat) : Nat → Option Nat := fun k => if k + 1 = n then none else if i ≤ k ∧ k + 1 < n then f (k + 1) else f k
theorem rmQ_last {f : Nat → Option Nat} {i n : Nat} (h : n ≤ i + 1) (hi : i < n) : va_up f (n - 1) none = rmQ f i n := by
  funext k
  simp only [va_up, rmQ]
  by_cases e : k = n - 1
  · rw [if_pos e, if_pos (by omega)]
  · rw [if_neg e, if_neg (by omega), if_neg (by omega)]
theorem rmQ_copy {f : Nat → Option Nat} {i n : Nat} (h : i + 1 < n) : va_up (va_cpy f f (i + 1) i (n - 1 - i)) (n - 1) none = rmQ f i n := by
  funext k
  simp only [va_up, rmQ, va_cpy]
  by_cases e : k = n - 1
  · rw [if_pos e, if_pos (by omega)]
  · rw [if_neg e]
    by_cases e2 : i ≤ k ∧ k + 1 < n
    · rw [if_pos (by omega), if_neg (by omega), if_pos e2]
      congr 1
      omega
    · rw [if_neg (by omega), if_neg (by omega), if_neg e2]
/-- what a list holds: strips, other than its own two cells -/
def EL (D : va_G) (f : Nat → Option Nat) (n lo ea : Nat) (U : State) : Prop := ∀ k, k < n → ∀ y, f k = some y → y ≠ lo ∧ y ≠ ea ∧ ∃ fs : List Value, va_at D cls (y, .inr (3, fs)) U.heap
theorem EL.blind {D : va_G} {f : Nat → Option Nat} {n lo ea : Nat} : ∀ (a : Array Value) (U : State) (g : JFrame) (mk : MethodId), EL D f n lo ea U → EL D f n lo ea (U.calling g mk a) := fun _ _ _ _ h => h
theorem pos1 {x : Int32} (h : 1 ≤ x) : 0 < x := by
  rw [fa_le, show (1 : Int32).toInt = 1 by decide] at h
  rw [fa_lt, show (0 : Int32).toInt = 0 by decide]
  omega
theorem in3 {j : Nat} (h : j < 4) : (0 : Int32) ≤ nI j ∧ nI j ≤ 3 := ⟨nI_pos' (by omega), (nI_leI (a := j) (b := 3) (by omega) (by omega)).mpr (by omega)⟩
