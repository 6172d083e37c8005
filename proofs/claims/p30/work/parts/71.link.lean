theorem upd_at {f : Nat → Int32} {k : Nat} {x : Int32} : upd f k x k = x := if_pos rfl
theorem upd_ne {f : Nat → Int32} {k q : Nat} {x : Int32} (h : ¬ q = k) : upd f k x q = f q := if_neg h
theorem sOK.len {ln ln' : Int32} {pt : Nat → Int32} (h : sOK ln pt) (h' : lOK ln') : sOK ln' pt := ⟨h', h.2⟩
theorem KO.e {ln : Int32} {n : Nat} {ft fv : Nat → Int32} (h : KO ln n ft fv) : n ≤ 16 := h.1
/-- one track anew -/
theorem inv_track {nC nS : Nat} {len : Nat → Int32} {sz : Nat → Nat → Nat} {ff : Nat → Nat → Nat → Int32} {nc ck : Nat → Nat} {bf : Nat → Int32} {pt : Nat → Nat → Int32} (h : Inv nC len sz ff nc bf nS ck pt) {c0 j n : Nat} {t' v' e' : Nat → Int32} (hc : c0 < nC) (hj : j < 4) (hk : KO (len c0) n t' v') : Inv nC len (upC sz c0 (upC (sz c0) j n)) (upC ff c0 (up3 (ff c0) j t' v' e')) nc bf nS ck pt := by
  obtain ⟨h1, h2, h3, h4, h5, h6, h7⟩ := h
  refine ⟨h1, h2, fun c hc' i hi => ?_, h4, h5, h6, fun c hc' => ⟨(h7 c hc').1, fun i => ?_⟩⟩
  · by_cases e : c = c0
    · subst e
      rw [upC_at, upC_at]
      by_cases e2 : i = j
      · subst e2
        rw [upC_at, up3_0, up3_1]
        exact hk
      · rw [upC_ne e2, up3_n0 e2, up3_n1 e2]
        exact h3 c hc' i hi
    · rw [upC_ne e, upC_ne e]
      exact h3 c hc' i hi
  · rw [upC_ne (by omega)]
    exact (h7 c hc').2 i
/-- a whole clip anew -/
theorem inv_clip {nC nS : Nat} {len : Nat → Int32} {sz : Nat → Nat → Nat} {ff : Nat → Nat → Nat → Int32} {nc ck : Nat → Nat} {bf : Nat → Int32} {pt : Nat → Nat → Int32} (h : Inv nC len sz ff nc bf nS ck pt) {c0 : Nat} {ln' : Int32} {F' : Nat → Nat → Int32} (hl : lOK ln') (hk : ∀ j, j < 4 → KO ln' (sz c0 j) (F' (3 * j)) (F' (3 * j + 1))) : Inv nC (upC len c0 ln') sz (upC ff c0 F') nc bf nS ck pt := by
  obtain ⟨h1, h2, h3, h4, h5, h6, h7⟩ := h
  refine ⟨h1, fun c hc => ?_, fun c hc i hi => ?_, h4, h5, fun i hi => ⟨(h6 i hi).1, (h6 i hi).2.1, ?_⟩, h7⟩
  · by_cases e : c = c0
    · subst e; rw [upC_at]; exact hl
    · rw [upC_ne e]; exact h2 c hc
  · by_cases e : c = c0
    · subst e; rw [upC_at, upC_at]; exact hk i hi
    · rw [upC_ne e, upC_ne e]; exact h3 c hc i hi
  · by_cases e : ck i = c0
    · rw [e, upC_at]; exact (h6 i hi).2.2.len hl
    · rw [upC_ne e]; exact (h6 i hi).2.2
theorem upC_self {α : Type} (f : Nat → α) (c0 : Nat) : upC f c0 (f c0) = f := by
  funext c
  by_cases e : c = c0
  · rw [e, upC_at]
  · rw [upC_ne e]
/-- one cue more -/
theorem inv_cue {nC nS : Nat} {len : Nat → Int32} {sz : Nat → Nat → Nat} {ff : Nat → Nat → Nat → Int32} {nc ck : Nat → Nat} {bf : Nat → Int32} {pt : Nat → Nat → Int32} (h : Inv nC len sz ff nc bf nS ck pt) {c0 n : Nat} (hc : c0 < nC) (hn : n ≤ 8) : Inv nC len sz ff (upC nc c0 n) bf nS ck pt := by
  obtain ⟨h1, h2, h3, h4, h5, h6, h7⟩ := h
  refine ⟨h1, h2, h3, fun c hc' => ?_, h5, h6, fun c hc' => ⟨?_, (h7 c hc').2⟩⟩
  · by_cases e : c = c0
    · rw [e, upC_at]; exact hn
    · rw [upC_ne e]; exact h4 c hc'
  · rw [upC_ne (by omega)]; exact (h7 c hc').1
/-- a new clip -/
theorem inv_addClip {nC nS : Nat} {len : Nat → Int32} {sz : Nat → Nat → Nat} {ff : Nat → Nat → Nat → Int32} {nc ck : Nat → Nat} {bf : Nat → Int32} {pt : Nat → Nat → Int32} (h : Inv nC len sz ff nc bf nS ck pt) {x : Int32} (hC : nC < 6) (hx : lOK x) : Inv (nC + 1) (upC len nC x) (upC sz nC (fun _ => 0)) (upC ff nC (fun _ _ => 0)) (upC nc nC 0) bf nS ck pt := by
  obtain ⟨h1, h2, h3, h4, h5, h6, h7⟩ := h
  refine ⟨⟨by omega, h1.2⟩, fun c hc => ?_, fun c hc i hi => ?_, fun c hc => ?_, h5, fun i hi => ⟨by have := (h6 i hi).1; omega, (h6 i hi).2.1, ?_⟩, fun c hc => ⟨?_, fun i => ?_⟩⟩
  · by_cases e : c = nC
    · rw [e, upC_at]; exact hx
    · rw [upC_ne e]; exact h2 c (by omega)
  · by_cases e : c = nC
    · rw [e, upC_at, upC_at, upC_at]
      exact ⟨Nat.zero_le _, ⟨fun k hk => absurd hk (Nat.not_lt_zero _), fun i j _ hj => absurd hj (Nat.not_lt_zero _)⟩, fun k hk => absurd hk (Nat.not_lt_zero _), fun _ => by show -10000 ≤ (0 : Int32).toInt ∧ (0 : Int32).toInt ≤ 10000; decide⟩
    · rw [upC_ne e, upC_ne e, upC_ne e]; exact h3 c (by omega) i hi
  · by_cases e : c = nC
    · rw [e, upC_at]; omega
    · rw [upC_ne e]; exact h4 c (by omega)
  · rw [upC_ne (by have := (h6 i hi).1; omega)]; exact (h6 i hi).2.2
  · rw [upC_ne (by omega)]; exact (h7 c (by omega)).1
  · rw [upC_ne (by omega)]; exact (h7 c (by omega)).2 i
/-- a strip's parts anew -/
theorem inv_strip {nC nS : Nat} {len : Nat → Int32} {sz : Nat → Nat → Nat} {ff : Nat → Nat → Nat → Int32} {nc ck : Nat → Nat} {bf : Nat → Int32} {pt : Nat → Nat → Int32} (h : Inv nC len sz ff nc bf nS ck pt) {s0 : Nat} {p' : Nat → Int32} (h0 : p' 0 = pt s0 0) (hp : sOK (len (ck s0)) p') : Inv nC len sz ff nc bf nS ck (upC pt s0 p') := by
  obtain ⟨h1, h2, h3, h4, h5, h6, h7⟩ := h
  refine ⟨h1, h2, h3, h4, h5, fun i hi => ⟨(h6 i hi).1, ?_, ?_⟩, h7⟩
  · by_cases e : i = s0
    · rw [e, upC_at, h0, ← e]; exact (h6 i hi).2.1
    · rw [upC_ne e]; exact (h6 i hi).2.1
  · by_cases e : i = s0
    · rw [e, upC_at]; exact hp
    · rw [upC_ne e]; exact (h6 i hi).2.2
theorem ins_cases {f : Nat → Int32} {c n k : Nat} {x : Int32} (hk : k < n + 1) : (k = c ∧ insF f c n x k = x) ∨ (c < k ∧ insF f c n x k = f (k - 1)) ∨ (k < c ∧ insF f c n x k = f k) := by
  rw [insF_at]
  by_cases e : k = c
  · exact Or.inl ⟨e, if_pos e⟩
  · by_cases e2 : c < k
    · exact Or.inr (Or.inl ⟨e2, by rw [if_neg e, if_pos (by omega)]⟩)
    · exact Or.inr (Or.inr ⟨by omega, by rw [if_neg e, if_neg (by omega)]⟩)
theorem tok_ins {ft : Nat → Int32} {c n : Nat} {x : Int32} (hT : tOK ft n) (h0 : 0 ≤ x.toInt) (h9 : x.toInt ≤ 2000) (hlt : ∀ k, k < c → ft k < x) (hgt : ∀ k, c ≤ k → k < n → x < ft k) (hc : c ≤ n) : tOK (insF ft c n x) (n + 1) := by
  have lt := fun k h => (fa_lt _ _).mp (hlt k h)
  have gt := fun k h h' => (fa_lt _ _).mp (hgt k h h')
  refine ⟨fun k hk => ?_, fun i j hij hj => ?_⟩
  · rcases ins_cases (f := ft) (c := c) (x := x) hk with ⟨a, e⟩ | ⟨a, e⟩ | ⟨a, e⟩ <;> rw [e]
    · exact ⟨h0, h9⟩
    · exact hT.1 _ (by omega)
    · exact hT.1 _ (by omega)
  · rcases ins_cases (f := ft) (c := c) (x := x) (show i < n + 1 by omega) with ⟨a, e⟩ | ⟨a, e⟩ | ⟨a, e⟩ <;> rcases ins_cases (f := ft) (c := c) (x := x) hj with ⟨b, e2⟩ | ⟨b, e2⟩ | ⟨b, e2⟩ <;> rw [e, e2]
    · omega
    · exact gt (j - 1) (by omega) (by omega)
    · omega
    · omega
    · exact hT.2 _ _ (by omega) (by omega)
    · omega
    · exact lt i a
    · have h1 := lt i a
      have h2 := gt (j - 1) (by omega) (by omega)
      omega
    · exact hT.2 i j hij (by omega)
theorem ins_bd {f : Nat → Int32} {c n : Nat} {x : Int32} {lo hi : Int} (h : ∀ k, lo ≤ (f k).toInt ∧ (f k).toInt ≤ hi) (hx : lo ≤ x.toInt ∧ x.toInt ≤ hi) : ∀ k, lo ≤ (insF f c n x k).toInt ∧ (insF f c n x k).toInt ≤ hi := by
  intro k
  rw [insF_at]
  split
  · exact hx
  · split <;> exact h _
theorem upd_bd {f : Nat → Int32} {c : Nat} {x : Int32} {lo hi : Int} (h : ∀ k, lo ≤ (f k).toInt ∧ (f k).toInt ≤ hi) (hx : lo ≤ x.toInt ∧ x.toInt ≤ hi) : ∀ k, lo ≤ (upd f c x k).toInt ∧ (upd f c x k).toInt ≤ hi := by
  intro k
  simp only [upd]
  split
  · exact hx
  · exact h _
theorem dl_bd {f : Nat → Int32} {c n : Nat} {lo hi : Int} (h : ∀ k, lo ≤ (f k).toInt ∧ (f k).toInt ≤ hi) : ∀ k, lo ≤ (dlF f c n k).toInt ∧ (dlF f c n k).toInt ≤ hi := by
  intro k
  rw [dlF]
  split <;> exact h _
theorem dl_cases {f : Nat → Int32} {c n k : Nat} (hk : k < n - 1) : (c ≤ k ∧ dlF f c n k = f (k + 1)) ∨ (k < c ∧ dlF f c n k = f k) := by
  rw [dlF]
  by_cases e : c ≤ k
  · exact Or.inl ⟨e, if_pos (by omega)⟩
  · exact Or.inr ⟨by omega, if_neg (by omega)⟩
theorem tok_dl {ft : Nat → Int32} {c n : Nat} (hT : tOK ft n) : tOK (dlF ft c n) (n - 1) := by
  refine ⟨fun k hk => ?_, fun i j hij hj => ?_⟩
  · rcases dl_cases (f := ft) (c := c) hk with ⟨a, e⟩ | ⟨a, e⟩ <;> rw [e] <;> exact hT.1 _ (by omega)
  · rcases dl_cases (f := ft) (c := c) (show i < n - 1 by omega) with ⟨a, e⟩ | ⟨a, e⟩ <;> rcases dl_cases (f := ft) (c := c) hj with ⟨b, e2⟩ | ⟨b, e2⟩ <;> rw [e, e2] <;> exact hT.2 _ _ (by omega) (by omega)
theorem KO.ins {ln : Int32} {ft fv : Nat → Int32} {c n : Nat} {x v : Int32} (h : KO ln n ft fv) (hl : lOK ln) (hn : n < 16) (hx0 : 0 ≤ x) (hx9 : x ≤ ln) (hlt : ∀ k, k < c → ft k < x) (hgt : ∀ k, c ≤ k → k < n → x < ft k) (hc : c ≤ n) (hv : -10000 ≤ v ∧ v ≤ 10000) : KO ln (n + 1) (insF ft c n x) (insF fv c n v) := by
  have a := (fa_le _ _).mp hx0
  have b := (fa_le _ _).mp hx9
  rw [show (0 : Int32).toInt = 0 by decide] at a
  have l := hl.2
  refine ⟨by omega, tok_ins h.2.1 a (by omega) hlt hgt hc, fun k hk => ?_, ins_bd h.2.2.2 ⟨(fa_le _ _).mp hv.1, (fa_le _ _).mp hv.2⟩⟩
  rcases ins_cases (f := ft) (c := c) (x := x) hk with ⟨_, e⟩ | ⟨z, e⟩ | ⟨z, e⟩ <;> rw [e]
  · exact b
  · exact h.2.2.1 _ (by omega)
  · exact h.2.2.1 _ (by omega)
theorem KO.set {ln : Int32} {ft fv : Nat → Int32} {c n : Nat} {v : Int32} (h : KO ln n ft fv) (hv : -10000 ≤ v ∧ v ≤ 10000) : KO ln n ft (upd fv c v) := ⟨h.1, h.2.1, h.2.2.1, upd_bd h.2.2.2 ⟨(fa_le _ _).mp hv.1, (fa_le _ _).mp hv.2⟩⟩
theorem KO.dl {ln : Int32} {ft fv : Nat → Int32} {c n : Nat} (h : KO ln n ft fv) : KO ln (n - 1) (dlF ft c n) (dlF fv c n) := ⟨by have := h.1; omega, tok_dl h.2.1, fun k hk => by
  rcases dl_cases (f := ft) (c := c) hk with ⟨a, e⟩ | ⟨a, e⟩ <;> rw [e] <;> exact h.2.2.1 _ (by omega), dl_bd h.2.2.2⟩
/-- where a key goes -/
theorem key_lt {ft : Nat → Int32} {n : Nat} {x : Int32} (hT : tOK ft n) (h : ¬ (0 < cntLe ft x n ∧ ft (cntLe ft x n - 1) = x)) : ∀ k, k < cntLe ft x n → ft k < x := by
  intro k hk
  have l := cntLe_le ft x n
  have a := (fa_le _ _).mp (cntLe_last (f := ft) (x := x) (n := n) (by omega))
  have b : ¬ (ft (cntLe ft x n - 1)).toInt = x.toInt := fun z => h ⟨by omega, (fa_eq _ _).mpr z⟩
  rw [fa_lt]
  by_cases e : k = cntLe ft x n - 1
  · rw [e]; omega
  · have := hT.2 k (cntLe ft x n - 1) (by omega) (by omega)
    omega
theorem key_gt {ft : Nat → Int32} {n : Nat} {x : Int32} : ∀ k, cntLe ft x n ≤ k → k < n → x < ft k := fun k a b => cntLe_gt k a b
theorem key_lt' {ft : Nat → Int32} {n : Nat} {x : Int32} (hT : tOK ft n) (h : 0 < cntLe ft x n ∧ ft (cntLe ft x n - 1) = x) : ∀ k, k < cntLe ft x n - 1 → ft k < x := by
  intro k hk
  have l := cntLe_le ft x n
  rw [fa_lt, ← h.2]
  exact hT.2 k _ (by omega) (by omega)
def mirC (ln : Int32) (sz : Nat → Nat) (F : Nat → Nat → Int32) : Nat → Nat → Int32 := fun y => if y % 3 = 0 then rvF (mpF (fun z => ln - z) (F y) (sz (y / 3))) (sz (y / 3)) else if y % 3 = 1 then rvF (F y) (sz (y / 3)) else teF (F y) (sz (y / 3))
theorem mirC_0 {ln : Int32} {sz : Nat → Nat} {F : Nat → Nat → Int32} {j : Nat} : mirC ln sz F (3 * j) = rvF (mpF (fun z => ln - z) (F (3 * j)) (sz j)) (sz j) := by
  rw [mirC, if_pos (by omega), show 3 * j / 3 = j by omega]
theorem mirC_1 {ln : Int32} {sz : Nat → Nat} {F : Nat → Nat → Int32} {j : Nat} : mirC ln sz F (3 * j + 1) = rvF (F (3 * j + 1)) (sz j) := by
  rw [mirC, if_neg (by omega), if_pos (by omega), show (3 * j + 1) / 3 = j by omega]
theorem mirC_2 {ln : Int32} {sz : Nat → Nat} {F : Nat → Nat → Int32} {j : Nat} : mirC ln sz F (3 * j + 2) = teF (F (3 * j + 2)) (sz j) := by
  rw [mirC, if_neg (by omega), if_neg (by omega), show (3 * j + 2) / 3 = j by omega]
theorem rv_at {f : Nat → Int32} {n k : Nat} (h : k < n) : rvF f n k = f (n - 1 - k) := if_pos h
theorem mp_at {g : Int32 → Int32} {f : Nat → Int32} {n k : Nat} (h : k < n) : mpF g f n k = g (f k) := if_pos h
theorem te_at {fe : Nat → Int32} {n k : Nat} (h : k < n) : teF fe n k = mirE (if k + 1 = n then 1 else fe (n - 1 - k - 1)) := by
  rw [teF, if_neg (by omega), mp_at h, insF_at]
  by_cases e : k + 1 = n
  · rw [if_pos (by omega), if_pos e]
  · rw [if_neg (by omega), if_neg (by omega), if_neg e, dlF, if_pos (by omega), rv_at (by omega)]
    congr 1
theorem KO.mir {ln : Int32} {ft fv : Nat → Int32} {n : Nat} (h : KO ln n ft fv) (hl : lOK ln) : KO ln n (rvF (mpF (fun z => ln - z) ft n) n) (rvF fv n) := by
  have at' : ∀ k, k < n → (rvF (mpF (fun z => ln - z) ft n) n k).toInt = ln.toInt - (ft (n - 1 - k)).toInt := fun k hk => by
    rw [rv_at hk, mp_at (by omega)]
    have a := h.2.1.1 (n - 1 - k) (by omega)
    have := hl
    exact fb_subI (by have := hl.1; have := hl.2; omega) (by have := hl.1; have := hl.2; omega)
  refine ⟨h.1, ⟨fun k hk => ?_, fun i j hij hj => ?_⟩, fun k hk => ?_, fun k => ?_⟩
  · rw [at' k hk]
    have a := h.2.1.1 (n - 1 - k) (by omega)
    have b := h.2.2.1 (n - 1 - k) (by omega)
    have := hl.2
    omega
  · rw [at' i (by omega), at' j hj]
    have := h.2.1.2 (n - 1 - j) (n - 1 - i) (by omega) (by omega)
    omega
  · rw [at' k hk]
    have a := h.2.1.1 (n - 1 - k) (by omega)
    omega
  · rw [rvF]
    split <;> exact h.2.2.2 _
theorem inv_mirror {nC nS : Nat} {len : Nat → Int32} {sz : Nat → Nat → Nat} {ff : Nat → Nat → Nat → Int32} {nc ck : Nat → Nat} {bf : Nat → Int32} {pt : Nat → Nat → Int32} (h : Inv nC len sz ff nc bf nS ck pt) {c0 : Nat} (hc : c0 < nC) : Inv nC len sz (upC ff c0 (mirC (len c0) (sz c0) (ff c0))) nc bf nS ck pt := by
  have z := inv_clip h (c0 := c0) (ln' := len c0) (F' := mirC (len c0) (sz c0) (ff c0)) (h.2.1 c0 hc) (fun j hj => by rw [mirC_0, mirC_1]; exact (h.2.2.1 c0 hc j hj).mir (h.2.1 c0 hc))
  rw [upC_self] at z
  exact z
/-- the parts of a new strip -/
def stP (c1 x1 x2 x3 : Int32) : Nat → Int32 := fun w => if w = 0 then c1 else if w = 1 then x1 else if w = 3 then x2 else if w = 4 then x3 else if w = 5 then 1 else if w = 6 then 1 else if w = 8 then 100 else 0
theorem nI_nn {x : Int32} (h : 0 ≤ x.toInt) : x = nI x.toInt.toNat := by
  have r := fb_rng x
  rw [fa_eq, nI_toInt (by omega)]
  omega
theorem inv_addStrip {nC nS : Nat} {len : Nat → Int32} {sz : Nat → Nat → Nat} {ff : Nat → Nat → Nat → Int32} {nc ck : Nat → Nat} {bf : Nat → Int32} {pt : Nat → Nat → Int32} (h : Inv nC len sz ff nc bf nS ck pt) {c0 : Nat} {x1 x2 x3 : Int32} (hc : c0 < nC) (hS : nS < 10) (hp : ((0 : Int32) ≤ x1 ∧ x1 ≤ 5000) ∧ ((1 : Int32) ≤ x2 ∧ x2 ≤ 9) ∧ ((0 : Int32) ≤ x3 ∧ x3 ≤ 2)) : Inv nC len sz ff nc bf (nS + 1) (upC ck nS c0) (upC pt nS (stP (nI c0) x1 x2 x3)) := by
  obtain ⟨h1, h2, h3, h4, h5, h6, h7⟩ := h
  refine ⟨⟨h1.1, by omega⟩, h2, h3, h4, h5, fun i hi => ?_, h7⟩
  by_cases e : i = nS
  · rw [e, upC_at, upC_at]
    exact ⟨hc, rfl, h2 c0 hc, ⟨(fa_le _ _).mp hp.1.1, (fa_le _ _).mp hp.1.2⟩, ⟨(fa_le _ _).mp hp.2.1.1, (fa_le _ _).mp hp.2.1.2⟩, ⟨by show 1 ≤ (1 : Int32).toInt; decide, by show (1 : Int32).toInt ≤ 9; decide⟩, ⟨by show 1 ≤ (1 : Int32).toInt; decide, by show (1 : Int32).toInt ≤ 9; decide⟩, ⟨by show 0 ≤ (100 : Int32).toInt; decide, by show (100 : Int32).toInt ≤ 100; decide⟩, Or.inl rfl, Or.inl rfl, ⟨by show 0 ≤ (0 : Int32).toInt; decide, by show (0 : Int32).toInt ≤ 2000; decide⟩, by show 0 ≤ (0 : Int32).toInt; decide, by show (0 : Int32).toInt ≤ 2000; decide⟩
  · rw [upC_ne e, upC_ne e]
    exact h6 i (by omega)
def shC {α : Type} (f : Nat → α) (s0 : Nat) : Nat → α := fun k => if k < s0 then f k else f (k + 1)
def phi (s0 k : Nat) : Nat := if k < s0 then k else k + 1
theorem shC_phi {α : Type} {f : Nat → α} {s0 k : Nat} : shC f s0 k = f (phi s0 k) := by
  rw [shC, phi]
  split <;> rfl
theorem phi_lt {s0 k n : Nat} (h : k < n - 1) : phi s0 k < n := by
  rw [phi]
  split <;> omega
theorem phi_inj {s0 a b : Nat} (h : phi s0 a = phi s0 b) : a = b := by
  rw [phi, phi] at h
  split at h <;> split at h <;> omega
theorem rm_ls {sl : Nat → Nat} {s0 n : Nat} (h : s0 < n) : rmQ (lsF sl n) s0 n = lsF (shC sl s0) (n - 1) := by
  funext k
  simp only [rmQ, lsF, shC]
  repeat' split
  all_goals first | rfl | omega
theorem inv_rm {nC nS : Nat} {len : Nat → Int32} {sz : Nat → Nat → Nat} {ff : Nat → Nat → Nat → Int32} {nc ck : Nat → Nat} {bf : Nat → Int32} {pt : Nat → Nat → Int32} (h : Inv nC len sz ff nc bf nS ck pt) {s0 : Nat} : Inv nC len sz ff nc bf (nS - 1) (shC ck s0) (shC pt s0) := by
  obtain ⟨h1, h2, h3, h4, h5, h6, h7⟩ := h
  refine ⟨⟨h1.1, by omega⟩, h2, h3, h4, h5, fun i hi => ?_, h7⟩
  rw [shC_phi, shC_phi]
  exact h6 _ (phi_lt hi)
def phG (s0 : Nat) : gI → gI
  | .inr (.inr (.inr i)) => kS (phi s0 i)
  | g => g
theorem wG_rm {D : va_G} {A : Nat → Prop} {H : Heap} {F0 E1 E2 E2' M O : va_W} {hd : Nat → va_W} {tk : Nat → Nat → va_W} {nS s0 : Nat} {sl cl ck : Nat → Nat} {pt : Nat → Nat → Int32} (hE : E2' = E2) (hP : GP D (wG F0 E1 E2 M O hd tk (stC nS sl cl ck pt)) H) (hD : GD A (wG F0 E1 E2 M O hd tk (stC nS sl cl ck pt))) : GP D (wG F0 E1 E2' M O hd tk (stC (nS - 1) (shC sl s0) cl (shC ck s0) (shC pt s0))) H ∧ GD A (wG F0 E1 E2' M O hd tk (stC (nS - 1) (shC sl s0) cl (shC ck s0) (shC pt s0))) := by
  subst hE
  have key : ∀ (g : gI) (k : Nat) (q : Nat × va_E), (wG F0 E1 E2' M O hd tk (stC (nS - 1) (shC sl s0) cl (shC ck s0) (shC pt s0)) g)[k]? = some q → (wG F0 E1 E2' M O hd tk (stC nS sl cl ck pt) (phG s0 g))[k]? = some q := by
    intro g k q h
    match g, h with
    | .inl 0, h => exact h
    | .inl 1, h => exact h
    | .inl 2, h => exact h
    | .inl 3, h => exact h
    | .inl 4, h => exact h
    | .inl (n + 5), h => exact h
    | .inr (.inl c), h => exact h
    | .inr (.inr (.inl (c, j))), h => exact h
    | .inr (.inr (.inr i)), h =>
      show (stC nS sl cl ck pt (phi s0 i))[k]? = some q
      have h' : (stC (nS - 1) (shC sl s0) cl (shC ck s0) (shC pt s0) i)[k]? = some q := h
      by_cases e : i < nS - 1
      · rw [stC_at e] at h'
        rw [stC_at (phi_lt e)]
        simp only [shC_phi] at h'
        exact h'
      · rw [stC, if_neg e] at h'
        simp at h'
  refine ⟨hP.re (phG s0) key, hD.re (phG s0) key (fun g g' p q h1 h2 h => ?_)⟩
  match g, g', h with
  | .inr (.inr (.inr i)), .inr (.inr (.inr i')), h =>
    have e : phi s0 i = phi s0 i' := by
      have := Sum.inr.inj (Sum.inr.inj (Sum.inr.inj h))
      exact this
    rw [phi_inj e]
  | .inl a, .inl b, h => exact h
  | .inl a, .inr (.inl b), h => exact h
  | .inl a, .inr (.inr (.inl b)), h => exact h
  | .inl a, .inr (.inr (.inr b)), h => exact absurd h (by simp [phG])
  | .inr (.inl a), .inl b, h => exact h
  | .inr (.inl a), .inr (.inl b), h => exact h
  | .inr (.inl a), .inr (.inr (.inl b)), h => exact h
  | .inr (.inl a), .inr (.inr (.inr b)), h => exact absurd h (by simp [phG])
  | .inr (.inr (.inl a)), .inl b, h => exact h
  | .inr (.inr (.inl a)), .inr (.inl b), h => exact h
  | .inr (.inr (.inl a)), .inr (.inr (.inl b)), h => exact h
  | .inr (.inr (.inl a)), .inr (.inr (.inr b)), h => exact absurd h (by simp [phG])
  | .inr (.inr (.inr a)), .inl b, h => exact absurd h (by simp [phG])
  | .inr (.inr (.inr a)), .inr (.inl b), h => exact absurd h (by simp [phG])
  | .inr (.inr (.inr a)), .inr (.inr (.inl b)), h => exact absurd h (by simp [phG])
/-- what a list of strips holds -/
theorem EL.of {D : va_G} {A0 : Nat → Prop} {G : gI → va_W} {H : Heap} {s : State} (hP : GP D G H) (hD : GD A0 G) {lt et nS : Nat} {sl : Nat → Nat} {p2 q2 : va_E} (h0 : (lt, p2) ∈ G (kF 0)) (h2 : (et, q2) ∈ G (kF 2)) (hs : ∀ k, k < nS → ∃ fs : List Value, (sl k, .inr (3, fs)) ∈ G (kS k)) : ∀ U : State, U.heap = H → s.WarmedH U.vm → EL D (lsF sl nS) nS lt et U := by
  intro U hU _ k hk y hy
  have e : y = sl k := by
    rw [lsF, if_pos hk] at hy
    exact (Option.some.inj hy).symm
  obtain ⟨fs, hf⟩ := hs k hk
  subst e
  refine ⟨fun z => ?_, fun z => ?_, fs, by rw [hU]; exact hP.mem hf⟩
  · have := hD.same h0 hf z.symm
    simp at this
  · have := hD.same h2 hf z.symm
    simp at this
theorem lsF_up1 {cl : Nat → Nat} {co : Nat} : lsF (upC cl 0 co) 1 = lsF (fun _ => co) 1 := by
  funext k
  rw [lsF, lsF]
  by_cases e : k < 1
  · have e2 : k = 0 := by omega
    rw [if_pos e, if_pos e, e2, upC_at]
  · rw [if_neg e, if_neg e]
theorem y0_of {x : Int32} (h : (0 : Int32) ≤ x ∧ x ≤ 100000) : 0 ≤ x.toInt ∧ x.toInt ≤ 100300 := by
  have a := (fa_le _ _).mp h.1
  have b := (fa_le _ _).mp h.2
  rw [show (0 : Int32).toInt = 0 by decide] at a
  rw [show (100000 : Int32).toInt = 100000 by decide] at b
  omega
theorem msb_neg (x : Int64) : x.toBitVec.msb = decide (x.toInt < 0) := BitVec.msb_eq_toInt
theorem xor_sgn {x y : Int64} (hy : 0 ≤ y.toInt) : (x ^^^ y) < 0 ↔ x.toInt < 0 := by
  rw [fa_lt64, show (0 : Int64).toInt = 0 by decide]
  have m : (x.toBitVec ^^^ y.toBitVec).msb = decide ((x ^^^ y).toInt < 0) := BitVec.msb_eq_toInt
  rw [BitVec.msb_xor, msb_neg, msb_neg, decide_eq_false (p := y.toInt < 0) (by omega)] at m
  by_cases h : x.toInt < 0
  · rw [decide_eq_true h] at m
    exact ⟨fun _ => h, fun _ => by simpa using m.symm⟩
  · rw [decide_eq_false h] at m
    refine ⟨fun z => ?_, fun z => absurd z h⟩
    rw [decide_eq_true z] at m
    simp at m
theorem tdiv_np {a b : Int} (ha : a ≤ 0) (hb : 0 < b) : a.tdiv b ≤ 0 := by
  have e : a.tdiv b = -((-a).tdiv b) := by rw [Int.neg_tdiv, Int.neg_neg]
  rw [e, Int.tdiv_eq_ediv_of_nonneg (by omega)]
  have := Int.ediv_nonneg (a := -a) (b := b) (by omega) (by omega)
  omega
/-- the JDK's floorDiv by a number above 0 -/
theorem fdL_is {x y : Int64} (hy : 0 < y.toInt) : (fdL x y).toInt = x.toInt / y.toInt := by
  have rx := fb_rngL x
  have ry := fb_rngL y
  have qe : (x / y).toInt = x.toInt.tdiv y.toInt := by
    rw [Int64.toInt_div]
    have a : (x.toInt.tdiv y.toInt).natAbs ≤ x.toInt.natAbs := Int.natAbs_tdiv_le_natAbs _ _
    by_cases e : x.toInt.tdiv y.toInt = 9223372036854775808
    · exfalso
      have b : x.toInt = -9223372036854775808 := by omega
      rw [b] at e
      have c : (-9223372036854775808 : Int).tdiv y.toInt ≤ 0 := tdiv_np (by decide) hy
      omega
    · exact fb_bmodL (by omega) (by omega)
  have key : x.toInt / y.toInt = if x.toInt < 0 ∧ ¬ x.toInt.tdiv y.toInt * y.toInt = x.toInt then x.toInt.tdiv y.toInt - 1 else x.toInt.tdiv y.toInt := by
    by_cases h0 : 0 ≤ x.toInt
    · rw [if_neg (by omega), Int.tdiv_eq_ediv_of_nonneg h0]
    · have hd := Int.tdiv_eq_ediv (a := x.toInt) (b := y.toInt)
      by_cases hdv : y.toInt ∣ x.toInt
      · have e1 : x.toInt.tdiv y.toInt = x.toInt / y.toInt := by rw [hd, if_pos (Or.inr hdv), Int.add_zero]
        rw [if_neg, e1]
        rw [e1, Int.ediv_mul_cancel hdv]
        exact fun z => z.2 rfl
      · have e1 : x.toInt.tdiv y.toInt = x.toInt / y.toInt + 1 := by
          rw [hd, if_neg (fun z => z.elim h0 hdv), Int.sign_eq_one_of_pos hy]
        rw [if_pos, e1]
        · omega
        · refine ⟨by omega, fun z => hdv ⟨x.toInt.tdiv y.toInt, ?_⟩⟩
          rw [Int.mul_comm]
          exact z.symm
  have me : x / y * y = x ↔ x.toInt.tdiv y.toInt * y.toInt = x.toInt := by
    have a : (x.toInt.tdiv y.toInt * y.toInt).natAbs ≤ x.toInt.natAbs := by
      have := Int.mul_tdiv_add_tmod x.toInt y.toInt
      rw [Int.natAbs_mul]
      have b : (x.toInt.tdiv y.toInt).natAbs = x.toInt.natAbs / y.toInt.natAbs := Int.natAbs_tdiv _ _
      rw [b]
      exact Nat.div_mul_le_self _ _
    by_cases e : x.toInt.tdiv y.toInt * y.toInt = 9223372036854775808
    · exfalso
      have b : (x.toInt.tdiv y.toInt) ≤ 0 ∨ 0 ≤ x.toInt := by
        by_cases z : 0 ≤ x.toInt
        · exact Or.inr z
        · exact Or.inl (tdiv_np (by omega) hy)
      rcases b with b | b
      · have := Int.mul_nonpos_of_nonpos_of_nonneg b (Int.le_of_lt hy)
        omega
      · omega
    · rw [fa_eq64, fb_mulL (by rw [qe]; omega) (by rw [qe]; omega), qe]
  rw [fdL, key]
  by_cases c : (x ^^^ y) < 0 ∧ ¬ x / y * y = x
  · have c' : x.toInt < 0 ∧ ¬ x.toInt.tdiv y.toInt * y.toInt = x.toInt := ⟨(xor_sgn (by omega)).mp c.1, fun z => c.2 (me.mpr z)⟩
    rw [if_pos c, if_pos c']
    have k2 := key
    rw [if_pos c'] at k2
    have e1 : (1 : Int64).toInt = 1 := by decide
    have lo : -9223372036854775808 ≤ x.toInt / y.toInt := by
      have := Int.ediv_le_self (a := x.toInt) (b := y.toInt)
      exact Int.le_trans rx.1 (by
        refine (Int.le_ediv_iff_mul_le hy).mpr ?_
        have : x.toInt * y.toInt ≤ x.toInt * 1 := Int.mul_le_mul_of_nonpos_left (by omega) (by omega)
        omega)
    rw [fb_subL (by rw [e1, qe]; omega) (by rw [e1, qe]; have := Int.natAbs_tdiv_le_natAbs x.toInt y.toInt; omega), qe, e1]
  · rw [if_neg c, if_neg (fun z => c ⟨(xor_sgn (by omega)).mpr z.1, fun w => z.2 (me.mp w)⟩), qe]
/-- what is rounded lies near the quotient -/
theorem rnd_bd {a d : Int64} {B : Int} (hd0 : 0 < d.toInt) (hd : d.toInt ≤ 8000000000) (hB : 0 ≤ B) (hB9 : B ≤ 100000000) (h1 : -(B * d.toInt) ≤ a.toInt) (h2 : a.toInt ≤ B * d.toInt) : -B ≤ (rnd a d).toInt ∧ (rnd a d).toInt ≤ B := by
  have e2 : (2 : Int64).toInt = 2 := by decide
  have bd : B * d.toInt ≤ 100000000 * 8000000000 := Int.mul_le_mul hB9 hd (by omega) (by decide)
  have ea : (2 * a).toInt = 2 * a.toInt := by rw [fb_mulL (by rw [e2]; omega) (by rw [e2]; omega), e2]
  have eb : (2 * a + d).toInt = 2 * a.toInt + d.toInt := by rw [fb_addL (by rw [ea]; omega) (by rw [ea]; omega), ea]
  have ed : (2 * d).toInt = 2 * d.toInt := by rw [fb_mulL (by rw [e2]; omega) (by rw [e2]; omega), e2]
  have ef : (fdL (2 * a + d) (2 * d)).toInt = (2 * a.toInt + d.toInt) / (2 * d.toInt) := by rw [fdL_is (by omega), eb, ed]
  have lo : -B ≤ (2 * a.toInt + d.toInt) / (2 * d.toInt) := by
    refine (Int.le_ediv_iff_mul_le (by omega)).mpr ?_
    have : -B * (2 * d.toInt) = -(2 * (B * d.toInt)) := by rw [Int.neg_mul, Int.mul_left_comm]
    omega
  have hi : (2 * a.toInt + d.toInt) / (2 * d.toInt) < B + 1 := by
    refine Int.ediv_lt_of_lt_mul (by omega) ?_
    have : (B + 1) * (2 * d.toInt) = 2 * (B * d.toInt) + 2 * d.toInt := by rw [Int.add_mul, Int.mul_left_comm, Int.one_mul]
    omega
  have er : (rnd a d).toInt = (2 * a.toInt + d.toInt) / (2 * d.toInt) := by
    show (fdL (2 * a + d) (2 * d)).toInt32.toInt = _
    rw [Int64.toInt_toInt32, ef, fb_bmod (by omega) (by omega)]
  rw [er]
  omega
theorem rnd_nn {a d : Int64} (hd0 : 0 < d.toInt) (hd : d.toInt ≤ 8000000000) (h1 : 0 ≤ a.toInt) (h2 : a.toInt ≤ 100000000 * d.toInt) : 0 ≤ (rnd a d).toInt := by
  have e2 : (2 : Int64).toInt = 2 := by decide
  have ea : (2 * a).toInt = 2 * a.toInt := by rw [fb_mulL (by rw [e2]; omega) (by rw [e2]; omega), e2]
  have eb : (2 * a + d).toInt = 2 * a.toInt + d.toInt := by rw [fb_addL (by rw [ea]; omega) (by rw [ea]; omega), ea]
  have ed : (2 * d).toInt = 2 * d.toInt := by rw [fb_mulL (by rw [e2]; omega) (by rw [e2]; omega), e2]
  have ef : (fdL (2 * a + d) (2 * d)).toInt = (2 * a.toInt + d.toInt) / (2 * d.toInt) := by rw [fdL_is (by omega), eb, ed]
  have lo : 0 ≤ (2 * a.toInt + d.toInt) / (2 * d.toInt) := Int.ediv_nonneg (by omega) (by omega)
  have hi : (2 * a.toInt + d.toInt) / (2 * d.toInt) < 100000001 := Int.ediv_lt_of_lt_mul (by omega) (by omega)
  show 0 ≤ (fdL (2 * a + d) (2 * d)).toInt32.toInt
  rw [Int64.toInt_toInt32, ef, fb_bmod (by omega) (by omega)]
  exact lo
theorem mn_bd {a b : Int32} {h : Int} (ha : 0 ≤ a.toInt ∧ a.toInt ≤ h) (hb : 0 ≤ b.toInt) : 0 ≤ (minI a b).toInt ∧ (minI a b).toInt ≤ h := by
  rw [minI_le]
  omega
theorem str_bd {len : Int32} {pt : Nat → Int32} (h : sOK len pt) {x : Int32} (ho : isOnS len pt x) (h0 : 0 ≤ x.toInt) (h9 : x.toInt ≤ 100300) : 0 ≤ (strS len pt x).toInt ∧ (strS len pt x).toInt ≤ 100 := by
  have g := h.gone ho.1 h9
  have f := h.fades h0 h9 ho
  have b8 := h.b8
  have s1 : 0 ≤ (str1 pt x).toInt ∧ (str1 pt x).toInt ≤ 100 := by
    rw [str1]
    split
    · rename_i q
      have d := f.1 q
      have m := mul_b b8.1 b8.2 g.2.1 g.2.2
      have d1 := d.1
      have d2 := d.2
      have q' := (fa_lt _ _).mp q
      have e : (pt 8 * (x - pt 1)).toInt64.toInt = (pt 8).toInt * (x - pt 1).toInt := by rw [Int32.toInt_toInt64, fb_mulI (by omega) (by omega)]
      exact mn_bd b8 (rnd_nn (by rw [Int32.toInt_toInt64]; exact d1) (by rw [Int32.toInt_toInt64]; omega) (by rw [e]; omega) (by rw [e, Int32.toInt_toInt64]; omega))
    · exact b8
  rw [strS]
  split
  · rename_i q
    have d := f.2 q.1 q.2
    have e := h.e
    have hx := ho.2.resolve_left (fun z => z q.1)
    rw [fa_lt] at hx
    have e1 : (endS len pt - x).toInt = (endS len pt).toInt - x.toInt := fb_subI (by omega) (by omega)
    have q' := (fa_lt _ _).mp q.2
    have d1 := d.1
    have d2 := d.2
    have m := mul_b b8.1 b8.2 (show 0 ≤ (endS len pt - x).toInt by omega) (show (endS len pt - x).toInt ≤ 2000 by omega)
    have e2 : (pt 8 * (endS len pt - x)).toInt64.toInt = (pt 8).toInt * (endS len pt - x).toInt := by rw [Int32.toInt_toInt64, fb_mulI (by omega) (by omega)]
    exact mn_bd s1 (rnd_nn (by rw [Int32.toInt_toInt64]; exact d1) (by rw [Int32.toInt_toInt64]; omega) (by rw [e2]; omega) (by rw [e2, Int32.toInt_toInt64]; omega))
  · exact s1
