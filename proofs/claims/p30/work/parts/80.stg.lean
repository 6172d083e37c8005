/-! what the law's staging keeps -/
theorem cpy_own {fk : Nat → Int32} {c i : Nat} (hi : 3 * i < 60) : va_cpy fk (fun _ => 0) (60 * c) 0 60 (3 * i) = fk (60 * c + 3 * i) := (pk_cpy_in (by omega) (by omega)).trans rfl
theorem cpy_back {g fk : Nat → Int32} {c q : Nat} (hq : 3 * q < 60) : va_cpy g fk 0 (60 * c) 60 (60 * c + 3 * q) = g (3 * q) := (pk_cpy_in (by omega) (by omega)).trans (congrArg g (by omega))
/-- the keys of clip c, in the class and in the law's rows, behind i of them -/
def SI (c i : Nat) (sz sz0 : Nat → Nat → Nat) (ff : Nat → Nat → Nat → Int32) (fk fm : Nat → Int32) : Prop := (sz c 1 ≤ i ∧ (0 < i → 1 ≤ sz c 1)) ∧ (∀ q, q < sz c 1 → fk (60 * c + 3 * q) = ff c (3 * 1) q) ∧ fm c = nI (sz c 1) ∧ (∀ y, c < y → y < 2 → fm y = 0) ∧ ∀ y, y < c → sz y 1 = sz0 y 1
theorem SI.set {c i p : Nat} {sz sz0 : Nat → Nat → Nat} {ff : Nat → Nat → Nat → Int32} {fk fm g : Nat → Int32} {tm r : Int32} (h : SI c i sz sz0 ff fk fm) (hi : i < 3) (hT : tOK (ff c (3 * 1)) (sz c 1)) (hp : PutP (va_cpy fk (fun _ => 0) (60 * c) 0 60) (sz c 1) tm r p g) (hk : 0 < cntLe (ff c (3 * 1)) tm (sz c 1) ∧ ff c (3 * 1) (cntLe (ff c (3 * 1)) tm (sz c 1) - 1) = tm) : r = nI (sz c 1) ∧ ∀ vf ef : Nat → Int32, SI c (i + 1) (upC sz c (upC (sz c) 1 (sz c 1))) sz0 (upC ff c (up3 (ff c) 1 (ff c (3 * 1)) vf ef)) (va_cpy g fk 0 (60 * c) 60) (upd fm c r) := by
  obtain ⟨⟨h1, h2⟩, h3, h4, h5, h6⟩ := h
  obtain ⟨hr, hg⟩ := put_set hT (fun q hq => (cpy_own (by omega)).trans (h3 q hq)) hp hk
  have hc := cntLe_le (ff c (3 * 1)) tm (sz c 1)
  have e1 : (upC sz c (upC (sz c) 1 (sz c 1))) c 1 = sz c 1 := by rw [upC_at, upC_at]
  refine ⟨hr, fun vf ef => ⟨⟨by rw [e1]; omega, fun _ => by rw [e1]; omega⟩, fun q hq => ?_, ?_, fun y hy hy2 => ?_, fun y hy => ?_⟩⟩
  · rw [e1] at hq
    rw [cpy_back (by omega), hg q hq, upC_at, up3_0]
  · rw [upd_at, hr, e1]
  · rw [upd_ne (by omega)]
    exact h5 y hy hy2
  · rw [upC_ne (by omega)]
    exact h6 y hy
theorem SI.ins {c i p : Nat} {sz sz0 : Nat → Nat → Nat} {ff : Nat → Nat → Nat → Int32} {fk fm g : Nat → Int32} {tm r : Int32} (h : SI c i sz sz0 ff fk fm) (hi : i < 3) (hT : tOK (ff c (3 * 1)) (sz c 1)) (hp : PutP (va_cpy fk (fun _ => 0) (60 * c) 0 60) (sz c 1) tm r p g) (hk : ¬ (0 < cntLe (ff c (3 * 1)) tm (sz c 1) ∧ ff c (3 * 1) (cntLe (ff c (3 * 1)) tm (sz c 1) - 1) = tm)) : r = nI (sz c 1 + 1) ∧ ∀ vf ef : Nat → Int32, SI c (i + 1) (upC sz c (upC (sz c) 1 (sz c 1 + 1))) sz0 (upC ff c (up3 (ff c) 1 (insF (ff c (3 * 1)) (cntLe (ff c (3 * 1)) tm (sz c 1)) (sz c 1) tm) vf ef)) (va_cpy g fk 0 (60 * c) 60) (upd fm c r) := by
  obtain ⟨⟨h1, h2⟩, h3, h4, h5, h6⟩ := h
  obtain ⟨hr, hg⟩ := put_ins hT (fun q hq => (cpy_own (by omega)).trans (h3 q hq)) hp hk
  have e1 : (upC sz c (upC (sz c) 1 (sz c 1 + 1))) c 1 = sz c 1 + 1 := by rw [upC_at, upC_at]
  refine ⟨hr, fun vf ef => ⟨⟨by rw [e1]; omega, fun _ => by rw [e1]; omega⟩, fun q hq => ?_, ?_, fun y hy hy2 => ?_, fun y hy => ?_⟩⟩
  · rw [e1] at hq
    rw [cpy_back (by omega), hg q hq, upC_at, up3_0]
  · rw [upd_at, hr, e1]
  · rw [upd_ne (by omega)]
    exact h5 y hy hy2
  · rw [upC_ne (by omega)]
    exact h6 y hy
theorem SI.zero {c : Nat} {sz : Nat → Nat → Nat} {ff : Nat → Nat → Nat → Int32} {fk fm : Nat → Int32} (hc : c < 2) (h : ∀ y, c ≤ y → y < 2 → fm y = 0) : SI c 0 (upC sz c (fun _ => 0)) sz (upC ff c (fun _ _ => 0)) fk fm := by
  have e1 : (upC sz c (fun _ => 0)) c 1 = 0 := by rw [upC_at]
  refine ⟨⟨by rw [e1]; omega, fun h => absurd h (Nat.lt_irrefl 0)⟩, fun q hq => ?_, ?_, fun y hy hy2 => h y (by omega) hy2, fun y hy => by rw [upC_ne (by omega)]⟩
  · rw [e1] at hq
    exact absurd hq (Nat.not_lt_zero _)
  · rw [e1, h c (Nat.le_refl _) hc]
    decide
/-- the clips that are staged -/
def SG (c : Nat) (len : Nat → Int32) (sz : Nat → Nat → Nat) (nc : Nat → Nat) (fl : Nat → Int32) : Prop := ∀ i, i < c → fl i = len i ∧ (1 ≤ sz i 1 ∧ nc i = 0) ∧ ∃ v, v < 50 ∧ len i = nI (1 + v)
theorem SG.next {c k : Nat} {len : Nat → Int32} {sz sz2 : Nat → Nat → Nat} {nc : Nat → Nat} {fl : Nat → Int32} (h : SG c len sz nc fl) (h1 : 1 ≤ sz2 c 1) (h2 : ∀ y, y < c → sz2 y 1 = sz y 1) (hk : k < 50) : SG (c + 1) (upC len c (nI (1 + k))) sz2 (upC nc c 0) (upd fl c (nI (1 + k))) := by
  intro i hi
  by_cases e : i = c
  · rw [e, upC_at, upd_at, upC_at]
    exact ⟨rfl, ⟨h1, rfl⟩, k, hk, rfl⟩
  · rw [upC_ne e, upd_ne e, upC_ne e, h2 i (by omega)]
    exact h i (by omega)
theorem st_next {i : Nat} {fs wf : Nat → Int32} {pt pt' : Nat → Nat → Int32} (h : ∀ q, q < i → fs (13 * q + 1) = pt q 1) (h1 : wf 1 = pt' i 1) (ho : ∀ q, q < i → pt' q = pt q) : ∀ q, q < i + 1 → va_cpy wf fs 0 (13 * i) 13 (13 * q + 1) = pt' q 1 := by
  intro q hq
  by_cases e : q = i
  · rw [e, ← h1]
    exact (pk_cpy_in (by omega) (by omega)).trans (congrArg wf (by omega))
  · rw [ho q (by omega), ← h q (by omega)]
    exact pk_cpy_out (by omega)
/-- what stage leaves -/
abbrev SD := (Nat → Int32) × (Nat → Nat → Nat) × (Nat → Nat → Nat → Int32) × (Nat → Nat) × (Nat → Nat → Int32) × (Nat → Nat → Int32) × Nat × (Nat → Nat) × (Nat → Nat → Int32) × (Nat → Int32) × (Nat → Int32) × (Nat → Int32) × (Nat → Int32)
def STP (r : Int32) (len : Nat → Int32) (sz : Nat → Nat → Nat) (nc : Nat → Nat) (nS : Nat) (pt : Nat → Nat → Int32) (fl fs : Nat → Int32) : Prop := r = nI nS ∧ (1 ≤ nS ∧ nS ≤ 6) ∧ SG 2 len sz nc fl ∧ ∀ q, q < nS → fs (13 * q + 1) = pt q 1
theorem vl_ok {k : Nat} (h : k < 401) : (-10000 : Int32) ≤ nI k - 200 ∧ nI k - 200 ≤ 10000 := by
  have e : (200 : Int32).toInt = 200 := by decide
  have ek := nI_toInt (n := k) (by omega)
  have es : (nI k - 200).toInt = (k : Int) - 200 := by rw [fb_subI (by rw [ek, e]; omega) (by rw [ek, e]; omega), ek, e]
  rw [fa_le, fa_le, es, show (-10000 : Int32).toInt = -10000 by decide, show (10000 : Int32).toInt = 10000 by decide]
  omega
section GENQ
variable {p : Program} {l : Launch} {e : Env} {R : Room} {s : State} {m : MethodId} {args : Array Value} {below : List Frame} {meth : Method} {c : Code} {H : Heap} {locs : List Loc} {cells slots : Nat} {g : JFrame}
theorem W.genQ {Q0 : State → Prop} (h : ∀ Q : State → Prop, Q0 = Q → W p l e R s m args below meth c H locs cells slots Q g) : W p l e R s m args below meth c H locs cells slots Q0 g := h Q0 rfl
end GENQ
def STW (D : va_G) (A0 : Nat → Prop) (hz0 z sb L : Nat) (xs : Nat → Int32) (KK : Heap → Prop) : State → Prop := fun U => U.heap.size = hz0 ∧ GK D U ∧ KK U.heap ∧ ZL z A0 U ∧ SCR sb L xs A0 U
theorem STW.blind {D : va_G} {A0 : Nat → Prop} {hz0 z sb L : Nat} {xs : Nat → Int32} {KK : Heap → Prop} {av : List Value} : FrameBlind (va_Pc av (STW D A0 hz0 z sb L xs KK)) := fun a U g mk h => ⟨h.1, h.2.1, GK.vm (U := U.calling g mk a) rfl h.2.2.1, h.2.2.2.1, ZL.blind a U g mk h.2.2.2.2.1, SCR.blind a U g mk h.2.2.2.2.2⟩
theorem STW.pre {D : va_G} {A0 : Nat → Prop} {z sb L : Nat} {xs : Nat → Int32} {KK : Heap → Prop} {H : Heap} {locs : List Loc} {s : State} {As : List Value} (hG : GK D s) (hK : KK H) (hZL : ZL z A0 s) (hX : SCR sb L xs A0 s) (hS : va_S A0 s.heap H locs) : ∀ U : State, U.heap = H → s.WarmedH U.vm → va_Pc As (STW D A0 H.size z sb L xs KK) As.toArray U := fun U hU hW => ⟨rfl, by rw [hU], GK.warm hW hG, by rw [hU]; exact hK, hZL.pre hS (fun _ h => h) U hU hW, hX.pre hS (fun _ h => h) U hU hW⟩
