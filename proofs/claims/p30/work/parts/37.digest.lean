/-- numbers one after the other -/
def dgB (g : Nat → Int32) (d : Int64) : Nat → Int64
  | 0 => d
  | n + 1 => mix (dgB g d n) (g n)
def dgCs (len : Nat → Int32) (sz : Nat → Nat → Nat) (f : Nat → Nat → Nat → Int32) (nc : Nat → Nat) (ct cn : Nat → Nat → Int32) (d : Int64) : Nat → Int64
  | 0 => d
  | n + 1 => dgClip (len n) (sz n) (f n) (nc n) (ct n) (cn n) (dgCs len sz f nc ct cn d n)
def dgSs (ln : Nat → Int32) (pt : Nat → Nat → Int32) (d : Int64) : Nat → Int64
  | 0 => d
  | n + 1 => dgB (factS (ln n) (pt n)) (dgSs ln pt d n) 13
def dgAll (bf : Nat → Int32) (nC : Nat) (len : Nat → Int32) (sz : Nat → Nat → Nat) (f : Nat → Nat → Nat → Int32) (nc : Nat → Nat) (ct cn : Nat → Nat → Int32) (nS : Nat) (ln : Nat → Int32) (pt : Nat → Nat → Int32) (nf : Nat → Nat → Int32) (cnt : Int32) (k : Nat) : Int64 :=
  dgN nf (mix (dgSs ln pt (mix (dgCs len sz f nc ct cn (mix (dgB bf 401 4) (nI nC)) nC) (nI nS)) nS) cnt) k
theorem FX2.blind {X Y : State → Prop} (hX : ∀ (a : Array Value) (U : State) (g : JFrame) (mk : MethodId), X U → X (U.calling g mk a)) (hY : ∀ (a : Array Value) (U : State) (g : JFrame) (mk : MethodId), Y U → Y (U.calling g mk a)) : ∀ (a : Array Value) (U : State) (g : JFrame) (mk : MethodId), X U ∧ Y U → X (U.calling g mk a) ∧ Y (U.calling g mk a) := fun a U g mk h => ⟨hX a U g mk h.1, hY a U g mk h.2⟩
