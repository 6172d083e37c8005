/-! what the law's own loops keep -/
/-- what the law stands on -/
def LX (p : Program) (s : State) (m : MethodId) (c : Code) (b L : Nat) (xs : Nat → Int32) (D : va_G) (z : Nat) (A0 : Nat → Prop) : Prop := (p.tables.exec = Jvm.exec ∧ c.code = cL_law ∧ s.vm.findClass RL = some m.cls ∧ c.maxLocals = 12 ∧ ∀ w ∈ wsL_law, w.before #[Value.ref b] s = true) ∧ (SCR b L xs A0 s ∧ L ≤ 260) ∧ GK D s ∧ ZL z A0 s ∧ ∀ q : Nat, s.heap.size ≤ q → A0 q
/-- the law's copy of a track's keys -/
def BF (F : Nat → Nat → Int32) (i : Nat) (fb : Nat → Int32) : Prop := ∀ q, q < i → fb q = F (3 * 1 + q % 3) (q / 3)
theorem BF.next {F : Nat → Nat → Int32} {i : Nat} {fb : Nat → Int32} (h : BF F i fb) : BF F (i + 1) (upd fb i (F (3 * 1 + i % 3) (i / 3))) := fun q hq => by
  by_cases e : q = i
  · rw [e, upd_at]
  · rw [upd_ne e]
    exact h q (by omega)
/-- the least and the greatest of the values so far -/
def MM (i : Nat) (fb : Nat → Int32) (lo hi : Int32) : Prop := ∀ q, q < i → q % 3 = 1 → lo ≤ fb q ∧ fb q ≤ hi
theorem MM.no {i : Nat} {fb : Nat → Int32} {lo hi v : Int32} (h : MM i fb lo hi) (hi3 : ¬ i % 3 = 1) : MM (i + 1) (upd fb i v) lo hi := fun q hq h1 => by
  have e : ¬ q = i := fun e => hi3 (e ▸ h1)
  rw [upd_ne e]
  exact h q (by omega) h1
theorem mn_le1 (x y : Int32) : (if y < x then y else x) ≤ x := by
  split
  · exact Int32.le_of_lt (by assumption)
  · exact Int32.le_refl x
theorem mn_le2 (x y : Int32) : (if y < x then y else x) ≤ y := by
  split
  · exact Int32.le_refl y
  · exact Int32.not_lt.mp (by assumption)
theorem mx_le1 (x y : Int32) : x ≤ (if x < y then y else x) := by
  split
  · exact Int32.le_of_lt (by assumption)
  · exact Int32.le_refl x
theorem mx_le2 (x y : Int32) : y ≤ (if x < y then y else x) := by
  split
  · exact Int32.le_refl y
  · exact Int32.not_lt.mp (by assumption)
theorem MM.yes {i : Nat} {fb : Nat → Int32} {lo hi v : Int32} (h : MM i fb lo hi) : MM (i + 1) (upd fb i v) (if v < lo then v else lo) (if hi < v then v else hi) := fun q hq h1 => by
  by_cases e : q = i
  · rw [e, upd_at]
    exact ⟨mn_le2 lo v, mx_le2 hi v⟩
  · rw [upd_ne e]
    have := h q (by omega) h1
    exact ⟨Int32.le_trans (mn_le1 lo v) this.1, Int32.le_trans this.2 (mx_le1 hi v)⟩
theorem ev_mm {n : Nat} {ln : Int32} {F : Nat → Nat → Int32} {fb fe : Nat → Int32} {lo hi y : Int32} (hn : 0 < n) (hko : KO ln n (F (3 * 1)) (F (3 * 1 + 1))) (hBF : BF F (3 * n) fb) (hMM : MM (3 * n) fb lo hi) : lo ≤ evT n (F (3 * 1)) (F (3 * 1 + 1)) fe y ∧ evT n (F (3 * 1)) (F (3 * 1 + 1)) fe y ≤ hi := by
  have hV : ∀ k, k < n → max lo.toInt (-10000) ≤ (F (3 * 1 + 1) k).toInt ∧ (F (3 * 1 + 1) k).toInt ≤ min hi.toInt 10000 := fun k hk => by
    have a := hMM (3 * k + 1) (by omega) (by omega)
    rw [hBF (3 * k + 1) (by omega), show (3 * k + 1) % 3 = 1 by omega, show (3 * k + 1) / 3 = k by omega, fa_le, fa_le] at a
    have b := hko.2.2.2 k
    omega
  have := ev_in (fe := fe) (y := y) hn hko.2.1 (by omega) hV
  rw [fa_le, fa_le]
  omega
theorem bs_ok {k : Nat} (h : k < 2001) : (-10000 : Int32) ≤ nI k - 1000 ∧ nI k - 1000 ≤ 10000 := by
  have e : (1000 : Int32).toInt = 1000 := by decide
  have ek := nI_toInt (n := k) (by omega)
  have es : (nI k - 1000).toInt = (k : Int) - 1000 := by rw [fb_subI (by rw [ek, e]; omega) (by rw [ek, e]; omega), ek, e]
  rw [fa_le, fa_le, es, show (-10000 : Int32).toInt = -10000 by decide, show (10000 : Int32).toInt = 10000 by decide]
  omega
theorem mn100 {M : Nat} (h : M < 2 ^ 30) : (if nI M < (100 : Int32) then nI M else 100) = nI (min M 100) := by
  rw [show (100 : Int32) = nI 100 from rfl]
  by_cases q : M < 100
  · rw [if_pos ((nI_ltI (a := M) (b := 100) (by omega) (by omega)).mpr q), Nat.min_eq_left (by omega)]
  · rw [if_neg (fun z => q ((nI_ltI (a := M) (b := 100) (by omega) (by omega)).mp z)), Nat.min_eq_right (by omega)]
theorem mn100' {M : Nat} (h : M < 2 ^ 30) : (if (100 : Int32) < nI M then (100 : Int32) else nI M) = nI (min M 100) := by
  rw [show (100 : Int32) = nI 100 from rfl]
  by_cases q : 100 < M
  · rw [if_pos ((nI_ltI (a := 100) (b := M) (by omega) (by omega)).mpr q), Nat.min_eq_right (by omega)]
  · rw [if_neg (fun z => q ((nI_ltI (a := 100) (b := M) (by omega) (by omega)).mp z)), Nat.min_eq_left (by omega)]
theorem inv_nc {nC nS : Nat} {len : Nat → Int32} {sz : Nat → Nat → Nat} {ff : Nat → Nat → Nat → Int32} {nc ck : Nat → Nat} {bf : Nat → Int32} {pt : Nat → Nat → Int32} (h : Inv nC len sz ff nc bf nS ck pt) : ∀ i, i < nS → (fun z => nc (ck z)) i ≤ 8 ∧ (fun i9 => (pt i9 3).toInt.toNat) i ≤ 9 := fun i hi => by
  have a := h.2.2.2.2.2.1 i hi
  refine ⟨h.2.2.2.1 _ a.1, ?_⟩
  show (pt i 3).toInt.toNat ≤ 9
  have := a.2.2.b3
  omega
