/-! the whole world, in groups: 0 .. the fixed cells; a clip's; a track's; a strip's -/
abbrev gI : Type := Nat ⊕ Nat ⊕ (Nat × Nat) ⊕ Nat
abbrev kF (n : Nat) : gI := .inl n
abbrev kH (c : Nat) : gI := .inr (.inl c)
abbrev kT (c j : Nat) : gI := .inr (.inr (.inl (c, j)))
abbrev kS (i : Nat) : gI := .inr (.inr (.inr i))
def GP (D : va_G) (G : gI → va_W) (H : Heap) : Prop := ∀ g, va_P D cls (G g) H
def GD (A : Nat → Prop) (G : gI → va_W) : Prop := (∀ (g g' : gI) (i j : Nat) (p q : Nat × va_E), (G g)[i]? = some p → (G g')[j]? = some q → p.1 = q.1 → g = g' ∧ i = j) ∧ ∀ (g : gI) (k : Nat) (q : Nat × va_E), (G g)[k]? = some q → A q.1
def fG (G : gI → va_W) : List gI → va_W
  | [] => []
  | g :: gs => G g ++ fG G gs
theorem fG_nil {G : gI → va_W} : fG G [] = [] := rfl
theorem fG_cons {G : gI → va_W} {g : gI} {gs : List gI} {w t : va_W} (h : G g = w) (ht : fG G gs = t) : fG G (g :: gs) = w ++ t := by rw [fG, h, ht]
theorem fG_mem {G : gI → va_W} {q : Nat × va_E} : ∀ {gs : List gI}, q ∈ fG G gs → ∃ g, g ∈ gs ∧ q ∈ G g
  | [], h => absurd h List.not_mem_nil
  | g :: gs, h => by
    rcases List.mem_append.mp h with h | h
    · exact ⟨g, List.mem_cons_self, h⟩
    · obtain ⟨g', h1, h2⟩ := fG_mem h
      exact ⟨g', List.mem_cons_of_mem _ h1, h2⟩
theorem fG_in {G : gI → va_W} {q : Nat × va_E} {g : gI} (hq : q ∈ G g) : ∀ {gs : List gI}, g ∈ gs → q ∈ fG G gs
  | [], h => absurd h List.not_mem_nil
  | a :: gs, h => by
    rcases List.mem_cons.mp h with rfl | h
    · exact List.mem_append_left _ hq
    · exact List.mem_append_right _ (fG_in hq h)
theorem GP.mem {D : va_G} {G : gI → va_W} {H : Heap} (hP : GP D G H) {g : gI} {q : Nat × va_E} (h : q ∈ G g) : va_at D cls q H := by
  obtain ⟨i, hi⟩ := List.getElem?_of_mem h
  exact hP g i q hi
theorem GP.cut {D : va_G} {G : gI → va_W} {H : Heap} (hP : GP D G H) (gs : List gI) : va_P D cls (fG G gs) H := by
  intro k q hk
  obtain ⟨g, -, h⟩ := fG_mem (List.mem_of_getElem? hk)
  exact hP.mem h
theorem GD.same {A : Nat → Prop} {G : gI → va_W} (hD : GD A G) {g g' : gI} {p q : Nat × va_E} (h1 : p ∈ G g) (h2 : q ∈ G g') (h : p.1 = q.1) : g = g' := by
  obtain ⟨i, hi⟩ := List.getElem?_of_mem h1
  obtain ⟨j, hj⟩ := List.getElem?_of_mem h2
  exact (hD.1 g g' i j p q hi hj h).1
theorem GD.cut {A : Nat → Prop} {G : gI → va_W} (hD : GD A G) : ∀ {gs : List gI}, gs.Nodup → va_D A (fG G gs)
  | [], _ => ⟨fun i j p q h => by simp [fG] at h, fun k q h => by simp [fG] at h⟩
  | g :: gs, hn => by
    have hn' := List.nodup_cons.mp hn
    refine va_D.app ⟨fun i j p q h1 h2 h3 => (hD.1 g g i j p q h1 h2 h3).2, fun k q h => hD.2 g k q h⟩ (hD.cut hn'.2) (fun i j p q h1 h2 h3 => ?_)
    obtain ⟨g', h4, h5⟩ := fG_mem (List.mem_of_getElem? h2)
    have e := hD.same (List.mem_of_getElem? h1) h5 h3
    exact hn'.1 (e ▸ h4)
theorem fG_inj {A : Nat → Prop} {G : gI → va_W} : ∀ {gs : List gI}, va_D A (fG G gs) → gs.Nodup → ∀ (g g' : gI) (i j : Nat) (p q : Nat × va_E), g ∈ gs → g' ∈ gs → (G g)[i]? = some p → (G g')[j]? = some q → p.1 = q.1 → g = g' ∧ i = j
  | [], _, _, g, _, _, _, _, _, h, _, _, _, _ => absurd h List.not_mem_nil
  | a :: t, hD, hn, g, g', i, j, p, q, h1, h2, h3, h4, h5 => by
    have hn' := List.nodup_cons.mp hn
    have lf : ∀ {g : gI} {i : Nat} {p : Nat × va_E}, g = a → (G g)[i]? = some p → (fG G (a :: t))[i]? = some p ∧ i < (G a).length := by
      intro g i p e h
      subst e
      have hl := (List.getElem?_eq_some_iff.mp h).1
      exact ⟨by rw [fG, List.getElem?_append_left hl]; exact h, hl⟩
    have rt : ∀ {g : gI} {i : Nat} {p : Nat × va_E}, g ∈ t → (G g)[i]? = some p → ∃ m, (fG G (a :: t))[(G a).length + m]? = some p := by
      intro g i p e h
      obtain ⟨m, hm⟩ := List.getElem?_of_mem (fG_in (List.mem_of_getElem? h) e)
      exact ⟨m, by rw [fG, List.getElem?_append_right (by omega), Nat.add_sub_cancel_left]; exact hm⟩
    have hDt : va_D A (fG G t) := by
      refine ⟨fun i j p q a1 a2 a3 => ?_, fun k q a1 => ?_⟩
      · have := hD.1 ((G a).length + i) ((G a).length + j) p q (by rw [fG, List.getElem?_append_right (by omega), Nat.add_sub_cancel_left]; exact a1) (by rw [fG, List.getElem?_append_right (by omega), Nat.add_sub_cancel_left]; exact a2) a3
        omega
      · exact hD.2 ((G a).length + k) q (by rw [fG, List.getElem?_append_right (by omega), Nat.add_sub_cancel_left]; exact a1)
    rcases List.mem_cons.mp h1 with e1 | e1 <;> rcases List.mem_cons.mp h2 with e2 | e2
    · obtain ⟨x1, -⟩ := lf e1 h3
      obtain ⟨x2, -⟩ := lf e2 h4
      exact ⟨e1.trans e2.symm, hD.1 i j p q x1 x2 h5⟩
    · obtain ⟨x1, l1⟩ := lf e1 h3
      obtain ⟨m, x2⟩ := rt e2 h4
      have := hD.1 _ _ p q x1 x2 h5
      omega
    · obtain ⟨x2, l2⟩ := lf e2 h4
      obtain ⟨m, x1⟩ := rt e1 h3
      have := hD.1 _ _ p q x1 x2 h5
      omega
    · exact fG_inj hDt hn'.2 g g' i j p q e1 e2 h3 h4 h5
/-- some groups' cells have come back otherwise, all else is as it was -/
theorem gjoin {D : va_G} {A0 : Nat → Prop} {G G' : gI → va_W} {gs gs' : List gI} {H H1 : Heap} {L1 : va_W} (hP : GP D G H) (hD : GD A0 G) (hk : ∀ q : Nat, q < H.size → ¬ va_A (fG G gs) H.size q → H1[q]? = H[q]?) (hF : ∀ q, va_A (fG G gs) H.size q → A0 q) (hP1 : va_P D cls L1 H1) (hD1 : va_D (va_A (fG G gs) H.size) L1) (hL1 : fG G' gs' = L1) (hnd : gs'.Nodup) (hsub : ∀ g, g ∈ gs → g ∈ gs') (hsame : ∀ g, g ∉ gs' → G' g = G g) : GP D G' H1 ∧ GD A0 G' := by
  subst hL1
  have old : ∀ (g : gI) (q : Nat × va_E), g ∉ gs' → q ∈ G' g → q ∈ G g ∧ q.1 < H.size ∧ ¬ va_A (fG G gs) H.size q.1 := by
    intro g q h1 h2
    rw [hsame g h1] at h2
    have hl := (hP.mem h2).lt
    refine ⟨h2, hl, fun h => ?_⟩
    rcases h with ⟨k, e, h⟩ | h
    · obtain ⟨g2, h3, h4⟩ := fG_mem (List.mem_of_getElem? h)
      have e := hD.same h2 h4 rfl
      exact h1 (hsub g (e ▸ h3))
    · omega
  have new : ∀ (g : gI) (q : Nat × va_E), g ∈ gs' → q ∈ G' g → ∃ k, (fG G' gs')[k]? = some q := fun g q h1 h2 => List.getElem?_of_mem (fG_in h2 h1)
  refine ⟨fun g k q hq => ?_, fun g g' i j p q h1 h2 h3 => ?_, fun g k q hq => ?_⟩
  · by_cases e : g ∈ gs'
    · obtain ⟨m, hm⟩ := new g q e (List.mem_of_getElem? hq)
      exact hP1 m q hm
    · obtain ⟨a1, a2, a3⟩ := old g q e (List.mem_of_getElem? hq)
      exact (hP.mem a1).kept (hk q.1 a2 a3)
  · by_cases e1 : g ∈ gs' <;> by_cases e2 : g' ∈ gs'
    · exact fG_inj hD1 hnd g g' i j p q e1 e2 h1 h2 h3
    · exfalso
      obtain ⟨m, hm⟩ := new g p e1 (List.mem_of_getElem? h1)
      obtain ⟨-, -, a3⟩ := old g' q e2 (List.mem_of_getElem? h2)
      exact a3 (h3 ▸ hD1.2 m p hm)
    · exfalso
      obtain ⟨m, hm⟩ := new g' q e2 (List.mem_of_getElem? h2)
      obtain ⟨-, -, a3⟩ := old g p e1 (List.mem_of_getElem? h1)
      exact a3 (h3 ▸ hD1.2 m q hm)
    · rw [hsame g e1] at h1
      rw [hsame g' e2] at h2
      exact hD.1 g g' i j p q h1 h2 h3
  · by_cases e : g ∈ gs'
    · obtain ⟨m, hm⟩ := new g q e (List.mem_of_getElem? hq)
      exact hF _ (hD1.2 m q hm)
    · rw [hsame g e] at hq
      exact hD.2 g k q hq
/-- nothing old has changed -/
theorem GP.keep {D : va_G} {G : gI → va_W} {H H1 : Heap} (hP : GP D G H) (hk : ∀ q : Nat, q < H.size → H1[q]? = H[q]?) : GP D G H1 := fun g k q hq => (hP g k q hq).kept (hk q.1 (hP g k q hq).lt)
/-- the groups stand under other names -/
theorem GP.re {D : va_G} {G G' : gI → va_W} {H : Heap} (hP : GP D G H) (f : gI → gI) (h : ∀ (g : gI) (k : Nat) (q : Nat × va_E), (G' g)[k]? = some q → (G (f g))[k]? = some q) : GP D G' H := fun g k q hq => hP (f g) k q (h g k q hq)
theorem GD.re {A : Nat → Prop} {G G' : gI → va_W} (hD : GD A G) (f : gI → gI) (h : ∀ (g : gI) (k : Nat) (q : Nat × va_E), (G' g)[k]? = some q → (G (f g))[k]? = some q) (hf : ∀ (g g' : gI) (p q : Nat × va_E), p ∈ G' g → q ∈ G' g' → f g = f g' → g = g') : GD A G' := ⟨fun g g' i j p q h1 h2 h3 => by
  obtain ⟨e1, e2⟩ := hD.1 _ _ i j p q (h g i p h1) (h g' j q h2) h3
  exact ⟨hf g g' p q (List.mem_of_getElem? h1) (List.mem_of_getElem? h2) e1, e2⟩, fun g k q hq => hD.2 _ k q (h g k q hq)⟩
theorem va_A_sub {ws wc : va_W} {sz q : Nat} (isC : List Nat) (hC : isC.map (fun i => ws[i]?) = wc.map some) (h : va_A wc sz q) : va_A ws sz q := by
  rcases h with ⟨k, e, h⟩ | h
  · obtain ⟨i, -, hi⟩ := va_in_of isC hC h
    exact Or.inl ⟨_, e, hi⟩
  · exact Or.inr h
/-- a family of cells outside the callee's, for what it only reads -/
theorem FX.of {D : va_G} {A0 : Nat → Prop} {G : gI → va_W} {gs : List gI} {ws wc : va_W} {H : Heap} {s : State} (hP : GP D G H) (hD : GD A0 G) (hL : fG G gs = ws) (isC : List Nat) (hC : isC.map (fun i => ws[i]?) = wc.map some) {N : Nat} {w : Nat → va_W} (hw : ∀ i, i < N → ∀ q, q ∈ w i → ∃ g, g ∉ gs ∧ q ∈ G g) : ∀ U : State, U.heap = H → s.WarmedH U.vm → FX D N w (va_A wc H.size) U := fun U hU _ i hi => by
  refine ⟨fun k q hq => ?_, fun k q hq h => ?_⟩
  · obtain ⟨g, -, h2⟩ := hw i hi q (List.mem_of_getElem? hq)
    rw [hU]
    exact hP.mem h2
  · obtain ⟨g, h1, h2⟩ := hw i hi q (List.mem_of_getElem? hq)
    have hl := (hP.mem h2).lt
    rcases va_A_sub isC hC h with ⟨k2, e, h3⟩ | h3
    · rw [← hL] at h3
      obtain ⟨g2, h4, h5⟩ := fG_mem (List.mem_of_getElem? h3)
      exact h1 (hD.same h2 h5 rfl ▸ h4)
    · omega
theorem FX.ofR {D : va_G} {G : gI → va_W} {H : Heap} {s : State} (hP : GP D G H) {N : Nat} {w : Nat → va_W} (hw : ∀ i, i < N → ∀ q, q ∈ w i → ∃ g, q ∈ G g) : ∀ U : State, U.heap = H → s.WarmedH U.vm → FX D N w (fun _ => False) U := fun U hU _ i hi => ⟨fun k q hq => by
    obtain ⟨g, h2⟩ := hw i hi q (List.mem_of_getElem? hq)
    rw [hU]
    exact hP.mem h2, fun _ _ _ h => h⟩
section CALLG
variable {p : Program} {l : Launch} {e : Env} {R : Room} {s : State} {m : MethodId} {args : Array Value} {below : List Frame} {meth : Method} {c : Code} {H : Heap} {locs : List Loc} {cells slots : Nat} {Q : State → Prop}
variable {pc : Nat} {st0 rest : List Value} {ls : Array Slot} {D : va_G} {wc wr ws : va_W} {A0 : Nat → Prop} {H0 : Heap} {mc ms : Nat} {a : Array Value} {G : gI → va_W} {gs : List gI}
/-- what a call gives back, joined to the groups -/
def gJ (D : va_G) (A0 : Nat → Prop) (G : gI → va_W) (gs : List gI) (wn : va_W) (H1 : Heap) : Prop := ∀ (G' : gI → va_W) (gs' : List gI) (is : List Nat) (L1 : va_W), fG G' gs' = L1 → is.map (fun i => wn[i]?) = L1.map some → va_nd is = true → gs'.Nodup → (∀ g, g ∈ gs → g ∈ gs') → (∀ g, g ∉ gs' → G' g = G g) → GP D G' H1 ∧ GD A0 G'
theorem gj_of {S : Type} {w1 : S → va_W} {u : S} {t : State} {H1 : Heap} (hP : GP D G H) (hD : GD A0 G) (hnd : gs.Nodup) (hS : va_S A0 H0 H locs) (hA : ∀ q, H0.size ≤ q → A0 q) (isC isR : List Nat) (hL : fG G gs = ws) (hC : isC.map (fun i => ws[i]?) = wc.map some) (hR : isR.map (fun i => ws[i]?) = wr.map some) (hn : va_nd isR = true) (hdis : ∀ i ∈ isR, i ∉ isC) (ht : t.heap = H1) (hB : AT D (va_A wc H.size) w1 u t) (hk : ∀ q : Nat, q < H.size → ¬ va_A wc H.size q → H1[q]? = H[q]?) : gJ D A0 G gs (wr ++ w1 u) H1 := by
  intro G' gs' is L1 h1 h2 h3 h4 h5 h6
  obtain ⟨hP1, hD1⟩ := hB
  rw [ht] at hP1
  have hPw : va_P D cls ws H := hL ▸ hP.cut gs
  have hDw : va_D A0 ws := hL ▸ hD.cut hnd
  obtain ⟨hP2, hD2⟩ := va_join hPw (hDw.self (sz := H.size)) isC isR hC hR hn hdis hk (fun q h => va_A_sub isC hC h) hP1 hD1
  refine gjoin (gs := gs) hP hD (fun q hq h => hk q hq (fun z => h (by rw [hL]; exact va_A_sub isC hC z))) (fun q h => ?_) (hP2.sub is ?_) ?_ h1 h4 h5 h6
  · rw [hL] at h
    rcases h with ⟨k, e, h⟩ | h
    · exact hDw.2 k _ h
    · exact hA q (Nat.le_trans hS.1 h)
  · have e2 := congrArg (fun l => l.filterMap id) h2
    simpa [List.filterMap_map, Function.comp_def] using e2
  · rw [hL]
    exact hD2.sub is h3 h2
theorem gi {S : Type} {post : Int32 → S → Prop} {w1 : S → va_W} (hr : va_Run p l e R s m args below meth c H locs cells slots mc ms (F0 m pc ls st0) rest (va_Qi post (AT D (va_A wc H.size) w1) (va_A wc H.size) a) (va_A wc H.size)) (hP : GP D G H) (hD : GD A0 G) (hnd : gs.Nodup) (hS : va_S A0 H0 H locs) (hA : ∀ q, H0.size ≤ q → A0 q) (isC isR : List Nat) (hL : fG G gs = ws) (hC : isC.map (fun i => ws[i]?) = wc.map some) (hR : isR.map (fun i => ws[i]?) = wr.map some) (hn : va_nd isR = true) (hdis : ∀ i ∈ isR, i ∉ isC)
    (kk : ∀ (r : Int32) (u : S) (H1 : Heap) (locs1 : List Loc), post r u → gJ D A0 G gs (wr ++ w1 u) H1 → va_S A0 H0 H1 locs1 → W p l e R s m args below meth c H1 locs1 (cells + mc) (slots + ms) Q (F0 m (pc + 3) ls (.int r :: rest))) : W p l e R s m args below meth c H locs cells slots Q (F0 m pc ls st0) :=
  va_calli hr hS (va_free' (hL ▸ hD.cut hnd) hS hA isC hC).1 (va_free' (hL ▸ hD.cut hnd) hS hA isC hC).2 fun r u t H1 locs1 ht _ hp hB _ hk hS1 => kk r u H1 locs1 hp (gj_of hP hD hnd hS hA isC isR hL hC hR hn hdis ht hB hk) hS1
end CALLG
theorem GP.base {D : va_G} {G : gI → va_W} {H : Heap} {gs : List gI} {ws : va_W} (hL : fG G gs = ws) (hP : va_P D cls ws H) (h0 : ∀ g, g ∉ gs → G g = []) : GP D G H := fun g k q hq => by
  by_cases e : g ∈ gs
  · obtain ⟨i, hi⟩ := List.getElem?_of_mem (hL ▸ fG_in (List.mem_of_getElem? hq) e)
    exact hP i q hi
  · rw [h0 g e] at hq
    simp at hq
theorem GD.base {A : Nat → Prop} {G : gI → va_W} {gs : List gI} {ws : va_W} (hL : fG G gs = ws) (hD : va_D A ws) (hnd : gs.Nodup) (h0 : ∀ g, g ∉ gs → G g = []) : GD A G := by
  have hm : ∀ (g : gI) (k : Nat) (q : Nat × va_E), (G g)[k]? = some q → g ∈ gs := fun g k q h => by
    by_cases e : g ∈ gs
    · exact e
    · rw [h0 g e] at h
      simp at h
  refine ⟨fun g g' i j p q h1 h2 h3 => fG_inj (hL ▸ hD) hnd g g' i j p q (hm _ _ _ h1) (hm _ _ _ h2) h1 h2 h3, fun g k q h => ?_⟩
  obtain ⟨i, hi⟩ := List.getElem?_of_mem (hL ▸ fG_in (List.mem_of_getElem? h) (hm _ _ _ h))
  exact hD.2 i q hi
