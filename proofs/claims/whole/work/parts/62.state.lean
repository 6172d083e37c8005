def upC {α : Type} (f : Nat → α) (c0 : Nat) (v : α) : Nat → α := fun c => if c = c0 then v else f c
theorem upC_at {α : Type} {f : Nat → α} {c0 : Nat} {v : α} : upC f c0 v c0 = v := if_pos rfl
theorem upC_ne {α : Type} {f : Nat → α} {c0 c : Nat} {v : α} (h : ¬ c = c0) : upC f c0 v c = f c := if_neg h
/-- a track's three rows are written anew -/
def up3 {α : Type} (F : Nat → α) (j : Nat) (v0 v1 v2 : α) : Nat → α := fun y => if y = 3 * j then v0 else if y = 3 * j + 1 then v1 else if y = 3 * j + 2 then v2 else F y
theorem up3_0 {α : Type} {F : Nat → α} {j : Nat} {v0 v1 v2 : α} : up3 F j v0 v1 v2 (3 * j) = v0 := if_pos rfl
theorem up3_1 {α : Type} {F : Nat → α} {j : Nat} {v0 v1 v2 : α} : up3 F j v0 v1 v2 (3 * j + 1) = v1 := (if_neg (by omega)).trans (if_pos rfl)
theorem up3_2 {α : Type} {F : Nat → α} {j : Nat} {v0 v1 v2 : α} : up3 F j v0 v1 v2 (3 * j + 2) = v2 := (if_neg (by omega)).trans ((if_neg (by omega)).trans (if_pos rfl))
theorem up3_n0 {α : Type} {F : Nat → α} {j i : Nat} {v0 v1 v2 : α} (h : ¬ i = j) : up3 F j v0 v1 v2 (3 * i) = F (3 * i) := (if_neg (by omega)).trans ((if_neg (by omega)).trans (if_neg (by omega)))
theorem up3_n1 {α : Type} {F : Nat → α} {j i : Nat} {v0 v1 v2 : α} (h : ¬ i = j) : up3 F j v0 v1 v2 (3 * i + 1) = F (3 * i + 1) := (if_neg (by omega)).trans ((if_neg (by omega)).trans (if_neg (by omega)))
theorem up3_n2 {α : Type} {F : Nat → α} {j i : Nat} {v0 v1 v2 : α} (h : ¬ i = j) : up3 F j v0 v1 v2 (3 * i + 2) = F (3 * i + 2) := (if_neg (by omega)).trans ((if_neg (by omega)).trans (if_neg (by omega)))
def wG (F0 E1 E2 M O : va_W) (hd : Nat → va_W) (tk : Nat → Nat → va_W) (st : Nat → va_W) : gI → va_W
  | .inl 0 => F0
  | .inl 1 => E1
  | .inl 2 => E2
  | .inl 3 => M
  | .inl 4 => O
  | .inl _ => []
  | .inr (.inl c) => hd c
  | .inr (.inr (.inl (c, j))) => tk c j
  | .inr (.inr (.inr i)) => st i
theorem wG_same {F0 E1 E2 M O F0' E1' E2' M' O' : va_W} {hd hd' : Nat → va_W} {tk tk' : Nat → Nat → va_W} {st st' : Nat → va_W} {gs : List gI} (h0 : F0' = F0 ∨ kF 0 ∈ gs) (h1 : E1' = E1 ∨ kF 1 ∈ gs) (h2 : E2' = E2 ∨ kF 2 ∈ gs) (h3 : M' = M ∨ kF 3 ∈ gs) (h4 : O' = O ∨ kF 4 ∈ gs) (hh : ∀ c, kH c ∉ gs → hd' c = hd c) (ht : ∀ c j, kT c j ∉ gs → tk' c j = tk c j) (hs : ∀ i, kS i ∉ gs → st' i = st i) : ∀ g, g ∉ gs → wG F0' E1' E2' M' O' hd' tk' st' g = wG F0 E1 E2 M O hd tk st g := by
  intro g hg
  match g, hg with
  | .inl 0, hg => exact h0.resolve_right hg
  | .inl 1, hg => exact h1.resolve_right hg
  | .inl 2, hg => exact h2.resolve_right hg
  | .inl 3, hg => exact h3.resolve_right hg
  | .inl 4, hg => exact h4.resolve_right hg
  | .inl (n + 5), hg => rfl
  | .inr (.inl c), hg => exact hh c hg
  | .inr (.inr (.inl (c, j))), hg => exact ht c j hg
  | .inr (.inr (.inr i)), hg => exact hs i hg
def hdC (D : va_G) (nC : Nat) (cl ta : Nat → Nat) (q b t : Nat → Nat → Nat) (len : Nat → Int32) (nc : Nat → Nat) (ct cn : Nat → Nat → Int32) (c : Nat) : va_W := if c < nC then [oO (cl c) 0 [.int (len c), .ref (ta c), .ref (q c 0), .ref (q c 1)], aT D (ta c) 4 (tkF (t c)), oO (q c 0) 2 [.ref (b c 0), .int (nI (nc c))], oO (q c 1) 2 [.ref (b c 1), .int (nI (nc c))], aI D (b c 0) 8 (ct c), aI D (b c 1) 8 (cn c)] else []
theorem hdC_at {D : va_G} {nC : Nat} {cl ta : Nat → Nat} {q b t : Nat → Nat → Nat} {len : Nat → Int32} {nc : Nat → Nat} {ct cn : Nat → Nat → Int32} {c : Nat} (h : c < nC) : hdC D nC cl ta q b t len nc ct cn c = [oO (cl c) 0 [.int (len c), .ref (ta c), .ref (q c 0), .ref (q c 1)], aT D (ta c) 4 (tkF (t c)), oO (q c 0) 2 [.ref (b c 0), .int (nI (nc c))], oO (q c 1) 2 [.ref (b c 1), .int (nI (nc c))], aI D (b c 0) 8 (ct c), aI D (b c 1) 8 (cn c)] := if_pos h
def tkC (D : va_G) (nC : Nat) (t r a sz : Nat → Nat → Nat) (f : Nat → Nat → Nat → Int32) (c j : Nat) : va_W := if c < nC ∧ j < 4 then [oO (t c j) 4 [.ref (r c (3 * j)), .ref (r c (3 * j + 1)), .ref (r c (3 * j + 2))], oO (r c (3 * j)) 2 [.ref (a c (3 * j)), .int (nI (sz c j))], oO (r c (3 * j + 1)) 2 [.ref (a c (3 * j + 1)), .int (nI (sz c j))], oO (r c (3 * j + 2)) 2 [.ref (a c (3 * j + 2)), .int (nI (sz c j))], aI D (a c (3 * j)) 16 (f c (3 * j)), aI D (a c (3 * j + 1)) 16 (f c (3 * j + 1)), aI D (a c (3 * j + 2)) 16 (f c (3 * j + 2))] else []
theorem tkC_at {D : va_G} {nC : Nat} {t r a sz : Nat → Nat → Nat} {f : Nat → Nat → Nat → Int32} {c j : Nat} (h : c < nC) (hj : j < 4) : tkC D nC t r a sz f c j = [oO (t c j) 4 [.ref (r c (3 * j)), .ref (r c (3 * j + 1)), .ref (r c (3 * j + 2))], oO (r c (3 * j)) 2 [.ref (a c (3 * j)), .int (nI (sz c j))], oO (r c (3 * j + 1)) 2 [.ref (a c (3 * j + 1)), .int (nI (sz c j))], oO (r c (3 * j + 2)) 2 [.ref (a c (3 * j + 2)), .int (nI (sz c j))], aI D (a c (3 * j)) 16 (f c (3 * j)), aI D (a c (3 * j + 1)) 16 (f c (3 * j + 1)), aI D (a c (3 * j + 2)) 16 (f c (3 * j + 2))] := if_pos ⟨h, hj⟩
def stC (nS : Nat) (sl cl ck : Nat → Nat) (pt : Nat → Nat → Int32) (i : Nat) : va_W := if i < nS then [oO (sl i) 3 [.ref (cl (ck i)), .int (pt i 0), .int (pt i 1), .int (pt i 3), .int (pt i 4), .int (pt i 5), .int (pt i 6), .int (pt i 7), .int (pt i 8), .int (pt i 9), .int (pt i 10), .int (pt i 11), .int (pt i 12)]] else []
theorem stC_at {nS : Nat} {sl cl ck : Nat → Nat} {pt : Nat → Nat → Int32} {i : Nat} (h : i < nS) : stC nS sl cl ck pt i = [oO (sl i) 3 [.ref (cl (ck i)), .int (pt i 0), .int (pt i 1), .int (pt i 3), .int (pt i 4), .int (pt i 5), .int (pt i 6), .int (pt i 7), .int (pt i 8), .int (pt i 9), .int (pt i 10), .int (pt i 11), .int (pt i 12)]] := if_pos h
def elC (D : va_G) (ec n : Nat) (e : Nat) (cl : Nat → Nat) : va_W := if e = 0 then [] else [aO D ec 10 (lsF cl n)]
theorem elC_at {D : va_G} {ec n e : Nat} {cl : Nat → Nat} (h : ¬ e = 0) : elC D ec n e cl = [aO D ec 10 (lsF cl n)] := if_neg h
theorem elC_0 {D : va_G} {ec n : Nat} {cl : Nat → Nat} : elC D ec n 0 cl = [] := if_pos rfl
/-- a track is in order -/
def KO (ln : Int32) (n : Nat) (ft fv : Nat → Int32) : Prop := n ≤ 16 ∧ tOK ft n ∧ (∀ k, k < n → (ft k).toInt ≤ ln.toInt) ∧ ∀ k, -10000 ≤ (fv k).toInt ∧ (fv k).toInt ≤ 10000
def lOK (ln : Int32) : Prop := 1 ≤ ln.toInt ∧ ln.toInt ≤ 2000
/-- the state is in order -/
def Inv (nC : Nat) (len : Nat → Int32) (sz : Nat → Nat → Nat) (f : Nat → Nat → Nat → Int32) (nc : Nat → Nat) (bf : Nat → Int32) (nS : Nat) (ck : Nat → Nat) (pt : Nat → Nat → Int32) : Prop :=
  (nC ≤ 6 ∧ nS ≤ 10) ∧ (∀ c, c < nC → lOK (len c)) ∧ (∀ c, c < nC → ∀ j, j < 4 → KO (len c) (sz c j) (f c (3 * j)) (f c (3 * j + 1))) ∧ (∀ c, c < nC → nc c ≤ 8) ∧ (∀ j, j < 4 → -10000 ≤ (bf j).toInt ∧ (bf j).toInt ≤ 10000) ∧ (∀ i, i < nS → ck i < nC ∧ pt i 0 = nI (ck i) ∧ sOK (len (ck i)) (pt i)) ∧ ∀ c, nC ≤ c → nc c = 0 ∧ ∀ j, sz c j = 0
/-- the model's rows hold the state -/
def MRk (ks : Nat → Int32) (sz : Nat → Nat → Nat) : Prop := ∀ c, c < 6 → ∀ j, j < 4 → ks (4 * c + j) = nI (sz c j)
def MRq (qs : Nat → Int32) (nc : Nat → Nat) : Prop := ∀ c, c < 6 → qs c = nI (nc c)
def MRt (nC : Nat) (sz : Nat → Nat → Nat) (f : Nat → Nat → Nat → Int32) (w : Nat) (tm : Nat → Int32) : Prop := ∀ c, c < nC → ∀ j, j < 4 → ∀ k, k < sz c j → tm (16 * (4 * c + j) + k) = f c (3 * j + w) k
def MRu (nC : Nat) (nc : Nat → Nat) (ct : Nat → Nat → Int32) (qt : Nat → Int32) : Prop := ∀ c, c < nC → ∀ k, k < nc c → qt (8 * c + k) = ct c k
def MRp (nS : Nat) (pt : Nat → Nat → Int32) (pa : Nat → Int32) : Prop := ∀ i, i < nS → ∀ w, w < 13 → ¬ w = 2 → pa (13 * i + w) = pt i w
def MRn (k : Nat) (nf : Nat → Nat → Int32) (cnt : Int32) (nM : Nat) (mm : Nat → Int32) : Prop := k = min nM 100 ∧ cnt = nI nM ∧ nM ≤ 720 ∧ ∀ q, q < min nM 100 → ∀ w, w < 4 → mm (4 * q + w) = nf w q
def MR (nC : Nat) (len : Nat → Int32) (sz : Nat → Nat → Nat) (f : Nat → Nat → Nat → Int32) (nc : Nat → Nat) (ct cn : Nat → Nat → Int32) (bf : Nat → Int32) (nS : Nat) (pt : Nat → Nat → Int32) (bs ln ks tm wo ea qs qt qn pa : Nat → Int32) : Prop :=
  (∀ j, j < 4 → bs j = bf j) ∧ (∀ c, c < nC → ln c = len c) ∧ MRk ks sz ∧ MRt nC sz f 0 tm ∧ MRt nC sz f 1 wo ∧ MRt nC sz f 2 ea ∧ MRq qs nc ∧ MRu nC nc ct qt ∧ MRu nC nc cn qn ∧ MRp nS pt pa
/-- what a law's call stands on -/
def LX (p : Program) (l : Launch) (s : State) (m : MethodId) (c : Code) (b L : Nat) (xs : Nat → Int32) (D : va_G) (z : Nat) : Prop := (p.tables.exec = Jvm.exec ∧ c.code = cL_law ∧ s.vm.findClass RL = some m.cls ∧ c.maxLocals = 9 ∧ ∀ w ∈ wsL2, w.before #[Value.ref b] s = true) ∧ (va_X b L xs s s.heap ∧ b < s.heap.size ∧ L ≤ 3072) ∧ l.stackTraces = false ∧ GK D s ∧ ZU (fun q => s.heap.size ≤ q) s s.heap ∧ ZL z (fun q => s.heap.size ≤ q) s
theorem ZU.at {s : State} {H : Heap} {locs : List Loc} (h : ZU (fun q => s.heap.size ≤ q) s s.heap) (hS : va_S (fun q => s.heap.size ≤ q) s.heap H locs) : ZU (va_A [] H.size) s H := by
  have k : ∀ q, va_A [] H.size q → s.heap.size ≤ q := fun q hq => by
    rcases hq with ⟨k, e, hq⟩ | hq
    · simp at hq
    · exact Nat.le_trans hS.1 hq
  exact ⟨(h.1.kept hS.2.1).narrow k, (h.2.kept hS.2.1).narrow k⟩
/-- a number is a place below n, or not -/
theorem clsN (x : Int32) {n : Nat} (hn : n < 2 ^ 30) : (x < 0 ∨ nI n ≤ x) ∨ ∃ k, k < n ∧ x = nI k := by
  by_cases h : x < 0
  · exact Or.inl (Or.inl h)
  · by_cases h2 : nI n ≤ x
    · exact Or.inl (Or.inr h2)
    · obtain ⟨k, h3, h4, -⟩ := pk_mu h h2 (by omega)
      exact Or.inr ⟨k, h3, h4⟩
theorem not03 {x : Int32} (h : x < 0 ∨ nI 4 ≤ x) : ¬ ((0 : Int32) ≤ x ∧ x ≤ 3) := by
  rw [fa_lt, fa_le, show (nI 4).toInt = 4 by decide, show (0 : Int32).toInt = 0 by decide] at h
  rw [fa_le, fa_le, show (0 : Int32).toInt = 0 by decide, show (3 : Int32).toInt = 3 by decide]
  omega
theorem mem_cell {G : gI → va_W} {g : gI} {w : va_W} {q : Nat × va_E} (h : G g = w) (i : Nat) (hi : w[i]? = some q) : q ∈ G g := by
  rw [h]
  exact List.mem_of_getElem? hi
section SLD
variable {p : Program} {l : Launch} {e : Env} {R : Room} {s : State} {m : MethodId} {args : Array Value} {below : List Frame} {meth : Method} {c : Code} {H : Heap} {locs : List Loc} {cells slots : Nat} {Q : State → Prop} {cc : ByteArray} {pc : Nat} {ls : Array Slot} {rest : List Value}
theorem sld (hx : p.tables.exec = Jvm.exec) (hb : c.code = cc) {b L j : Nat} {xs : Nat → Int32} (hX : va_X b L xs s s.heap ∧ b < s.heap.size ∧ L ≤ 3072) (hS : va_S (fun q => s.heap.size ≤ q) s.heap H locs) (hj : j < L) (hdg : decode cc pc = .ok (.iaload, 1))
    (kk : W p l e R s m args below meth c H locs cells slots Q (F0 m (pc + 1) ls (.int (xs j) :: rest))) : W p l e R s m args below meth c H locs cells slots Q (F0 m pc ls (.int (nI j) :: .ref b :: rest)) :=
  va_sld hx hb hX.1 hX.2.1 (Nat.not_le.mpr hX.2.1) hS (vp_in_nI hj (by have := hX.2.2; omega)) hdg (tpi (by rw [nI_clamp (by have := hX.2.2; omega)]) kk)
end SLD
