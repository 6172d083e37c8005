/-! what a call does to the state, in the class's words and in the model's rows -/
theorem upd_at {f : Nat → Int32} {k : Nat} {x : Int32} : upd f k x k = x := if_pos rfl
theorem upd_ne {f : Nat → Int32} {k q : Nat} {x : Int32} (h : ¬ q = k) : upd f k x q = f q := if_neg h
theorem row_ins {T F : Nat → Int32} {R d n : Nat} {x : Int32} (h : ∀ k, k < n → T (R + k) = F k) (hd : d ≤ n) : ∀ k, k < n + 1 → insF T (R + d) (R + n) x (R + k) = insF F d n x k := by
  intro k hk
  rw [insF_at, insF_at]
  by_cases e : k = d
  · rw [if_pos (by omega), if_pos e]
  · rw [if_neg (by omega), if_neg e]
    by_cases e2 : d < k
    · rw [if_pos (by omega), if_pos (by omega), show R + k - 1 = R + (k - 1) by omega, h (k - 1) (by omega)]
    · rw [if_neg (by omega), if_neg (by omega), h k (by omega)]
theorem row_ins_out {T : Nat → Int32} {R d n w y : Nat} {x : Int32} (hd : d ≤ n) (hn : n < w) (hy : ¬ (R ≤ y ∧ y < R + w)) : insF T (R + d) (R + n) x y = T y := by
  rw [insF_at, if_neg (by omega), if_neg (by omega)]
theorem row_dl {T F : Nat → Int32} {R d n : Nat} (h : ∀ k, k < n → T (R + k) = F k) : ∀ k, k < n - 1 → dlF T (R + d) (R + n) (R + k) = dlF F d n k := by
  intro k hk
  rw [dlF, dlF]
  by_cases e : d ≤ k ∧ k + 1 < n
  · rw [if_pos (by omega), if_pos e, show R + k + 1 = R + (k + 1) by omega, h (k + 1) (by omega)]
  · rw [if_neg (by omega), if_neg e, h k (by omega)]
theorem row_dl_out {T : Nat → Int32} {R d n w y : Nat} (hn : n ≤ w) (hy : ¬ (R ≤ y ∧ y < R + w)) : dlF T (R + d) (R + n) y = T y := by
  rw [dlF, if_neg (by omega)]
theorem row_upd {T F : Nat → Int32} {R d n : Nat} {x : Int32} (h : ∀ k, k < n → T (R + k) = F k) : ∀ k, k < n → upd T (R + d) x (R + k) = upd F d x k := by
  intro k hk
  simp only [upd]
  by_cases e : k = d
  · rw [if_pos (by omega), if_pos e]
  · rw [if_neg (by omega), if_neg e, h k hk]
theorem row_upd_out {T : Nat → Int32} {R d w y : Nat} {x : Int32} (hd : d < w) (hy : ¬ (R ≤ y ∧ y < R + w)) : upd T (R + d) x y = T y := if_neg (by omega)
theorem sOK.len {ln ln' : Int32} {pt : Nat → Int32} (h : sOK ln pt) (h' : lOK ln') : sOK ln' pt := ⟨h', h.2⟩
theorem KO.e {ln : Int32} {n : Nat} {ft fv : Nat → Int32} (h : KO ln n ft fv) : n ≤ 16 := h.1
/-- one track anew -/
theorem inv_track {nC nS : Nat} {len : Nat → Int32} {sz : Nat → Nat → Nat} {ff : Nat → Nat → Nat → Int32} {nc ck : Nat → Nat} {bf : Nat → Int32} {pt : Nat → Nat → Int32} (h : Inv nC len sz ff nc bf nS ck pt) {c0 j n : Nat} {t' v' e' : Nat → Int32} (hc : c0 < nC) (hj : j < 4) (hk : KO (len c0) n t' v') : Inv nC len (upC sz c0 (upC (sz c0) j n)) (upC ff c0 (up3 (ff c0) j t' v' e')) nc bf nS ck pt := by
  obtain ⟨h1, h2, h3, h4, h5, h6, h7⟩ := h
  refine ⟨h1, h2, fun c hc' i hi => ?_, h4, h5, h6, fun c hc' => ⟨(h7 c hc').1, fun i => ?_⟩⟩
  · by_cases e : c = c0
    · subst e
      rw [upC_at, upC_at]
      by_cases e2 : i = j
      · subst e2
        rw [upC_at, up3_0, up3_1]
        exact hk
      · rw [upC_ne e2, up3_n0 e2, up3_n1 e2]
        exact h3 c hc' i hi
    · rw [upC_ne e, upC_ne e]
      exact h3 c hc' i hi
  · rw [upC_ne (by omega)]
    exact (h7 c hc').2 i
theorem mrt_track {nC : Nat} {sz : Nat → Nat → Nat} {ff : Nat → Nat → Nat → Int32} {w : Nat} {tm tm' : Nat → Int32} (h : MRt nC sz ff w tm) {c0 j n : Nat} {g : Nat → Nat → Int32} (hj : j < 4) (h16 : ∀ c, c < nC → ∀ j, j < 4 → sz c j ≤ 16) (ha : ∀ k, k < n → tm' (16 * (4 * c0 + j) + k) = g (3 * j + w) k) (ho : ∀ x, ¬ (16 * (4 * c0 + j) ≤ x ∧ x < 16 * (4 * c0 + j) + 16) → tm' x = tm x) (hg : ∀ i, ¬ i = j → g (3 * i + w) = ff c0 (3 * i + w)) : MRt nC (upC sz c0 (upC (sz c0) j n)) (upC ff c0 g) w tm' := by
  intro c hc i hi k hk
  by_cases e : c = c0
  · subst e
    rw [upC_at] at hk ⊢
    by_cases e2 : i = j
    · subst e2
      rw [upC_at] at hk
      exact ha k hk
    · rw [upC_ne e2] at hk
      have := h16 c hc i hi
      rw [ho _ (by omega), hg i e2]
      exact h c hc i hi k hk
  · rw [upC_ne e] at hk ⊢
    have := h16 c hc i hi
    rw [ho _ (by omega)]
    exact h c hc i hi k hk
theorem mrk_track {ks : Nat → Int32} {sz : Nat → Nat → Nat} (h : MRk ks sz) {c0 j n : Nat} (hj : j < 4) : MRk (upd ks (4 * c0 + j) (nI n)) (upC sz c0 (upC (sz c0) j n)) := by
  intro c hc i hi
  by_cases e : c = c0
  · subst e
    rw [upC_at]
    by_cases e2 : i = j
    · subst e2
      rw [upC_at, upd_at]
    · rw [upC_ne e2, upd_ne (by omega)]
      exact h c hc i hi
  · rw [upC_ne e, upd_ne (by omega)]
    exact h c hc i hi
theorem mrk_same {ks : Nat → Int32} {sz : Nat → Nat → Nat} (h : MRk ks sz) {c0 j : Nat} : MRk ks (upC sz c0 (upC (sz c0) j (sz c0 j))) := by
  intro c hc i hi
  rw [h c hc i hi]
  by_cases e : c = c0
  · subst e
    rw [upC_at]
    by_cases e2 : i = j
    · subst e2
      rw [upC_at]
    · rw [upC_ne e2]
  · rw [upC_ne e]
/-- the model's rows after one track has changed -/
theorem mr_track {nC nS : Nat} {len : Nat → Int32} {sz : Nat → Nat → Nat} {ff : Nat → Nat → Nat → Int32} {nc ck : Nat → Nat} {ct cn : Nat → Nat → Int32} {bf : Nat → Int32} {pt : Nat → Nat → Int32} {bs ln ks tm wo ea qs qt qn pa ks' tm' wo' ea' : Nat → Int32} (hI : Inv nC len sz ff nc bf nS ck pt) (h : MR nC len sz ff nc ct cn bf nS pt bs ln ks tm wo ea qs qt qn pa) {c0 j n : Nat} {t' v' e' : Nat → Int32} (hj : j < 4) (hks : MRk ks' (upC sz c0 (upC (sz c0) j n)))
    (ht : ∀ k, k < n → tm' (16 * (4 * c0 + j) + k) = t' k) (hv : ∀ k, k < n → wo' (16 * (4 * c0 + j) + k) = v' k) (he : ∀ k, k < n → ea' (16 * (4 * c0 + j) + k) = e' k)
    (ot : ∀ x, ¬ (16 * (4 * c0 + j) ≤ x ∧ x < 16 * (4 * c0 + j) + 16) → tm' x = tm x) (ov : ∀ x, ¬ (16 * (4 * c0 + j) ≤ x ∧ x < 16 * (4 * c0 + j) + 16) → wo' x = wo x) (oe : ∀ x, ¬ (16 * (4 * c0 + j) ≤ x ∧ x < 16 * (4 * c0 + j) + 16) → ea' x = ea x) :
    MR nC len (upC sz c0 (upC (sz c0) j n)) (upC ff c0 (up3 (ff c0) j t' v' e')) nc ct cn bf nS pt bs ln ks' tm' wo' ea' qs qt qn pa := by
  obtain ⟨m1, m2, m3, m4, m5, m6, m7⟩ := h
  have h16 : ∀ c, c < nC → ∀ j, j < 4 → sz c j ≤ 16 := fun c hc j hj => (hI.2.2.1 c hc j hj).1
  refine ⟨m1, m2, hks, mrt_track m4 hj h16 (fun k hk => ?_) ot (fun i hi => ?_), mrt_track m5 hj h16 (fun k hk => ?_) ov (fun i hi => ?_), mrt_track m6 hj h16 (fun k hk => ?_) oe (fun i hi => ?_), m7⟩
  · rw [ht k hk]; exact (congrFun up3_0 k).symm
  · exact up3_n0 hi
  · rw [hv k hk]; exact (congrFun up3_1 k).symm
  · exact up3_n1 hi
  · rw [he k hk]; exact (congrFun up3_2 k).symm
  · exact up3_n2 hi
/-- a whole clip anew -/
theorem inv_clip {nC nS : Nat} {len : Nat → Int32} {sz : Nat → Nat → Nat} {ff : Nat → Nat → Nat → Int32} {nc ck : Nat → Nat} {bf : Nat → Int32} {pt : Nat → Nat → Int32} (h : Inv nC len sz ff nc bf nS ck pt) {c0 : Nat} {ln' : Int32} {F' : Nat → Nat → Int32} (hl : lOK ln') (hk : ∀ j, j < 4 → KO ln' (sz c0 j) (F' (3 * j)) (F' (3 * j + 1))) : Inv nC (upC len c0 ln') sz (upC ff c0 F') nc bf nS ck pt := by
  obtain ⟨h1, h2, h3, h4, h5, h6, h7⟩ := h
  refine ⟨h1, fun c hc => ?_, fun c hc i hi => ?_, h4, h5, fun i hi => ⟨(h6 i hi).1, (h6 i hi).2.1, ?_⟩, h7⟩
  · by_cases e : c = c0
    · subst e; rw [upC_at]; exact hl
    · rw [upC_ne e]; exact h2 c hc
  · by_cases e : c = c0
    · subst e; rw [upC_at, upC_at]; exact hk i hi
    · rw [upC_ne e, upC_ne e]; exact h3 c hc i hi
  · by_cases e : ck i = c0
    · rw [e, upC_at]; exact (h6 i hi).2.2.len hl
    · rw [upC_ne e]; exact (h6 i hi).2.2
theorem mrt_clip {nC : Nat} {sz : Nat → Nat → Nat} {ff : Nat → Nat → Nat → Int32} {w : Nat} {tm tm' : Nat → Int32} (h : MRt nC sz ff w tm) {c0 : Nat} {g : Nat → Nat → Int32} (h16 : ∀ c, c < nC → ∀ j, j < 4 → sz c j ≤ 16) (ha : ∀ j, j < 4 → ∀ k, k < sz c0 j → tm' (16 * (4 * c0 + j) + k) = g (3 * j + w) k) (ho : ∀ x, ¬ (64 * c0 ≤ x ∧ x < 64 * c0 + 64) → tm' x = tm x) : MRt nC sz (upC ff c0 g) w tm' := by
  intro c hc i hi k hk
  by_cases e : c = c0
  · subst e
    rw [upC_at]
    exact ha i hi k hk
  · rw [upC_ne e]
    have := h16 c hc i hi
    rw [ho _ (by omega)]
    exact h c hc i hi k hk
theorem mru_clip {nC : Nat} {nc : Nat → Nat} {ct : Nat → Nat → Int32} {qt qt' : Nat → Int32} (h : MRu nC nc ct qt) {c0 n : Nat} {g : Nat → Int32} (h8 : ∀ c, c < nC → nc c ≤ 8) (ha : ∀ k, k < n → qt' (8 * c0 + k) = g k) (ho : ∀ x, ¬ (8 * c0 ≤ x ∧ x < 8 * c0 + 8) → qt' x = qt x) : MRu nC (upC nc c0 n) (upC ct c0 g) qt' := by
  intro c hc k hk
  by_cases e : c = c0
  · subst e
    rw [upC_at] at hk ⊢
    exact ha k hk
  · rw [upC_ne e] at hk ⊢
    have := h8 c hc
    rw [ho _ (by omega)]
    exact h c hc k hk
theorem upC_self {α : Type} (f : Nat → α) (c0 : Nat) : upC f c0 (f c0) = f := by
  funext c
  by_cases e : c = c0
  · rw [e, upC_at]
  · rw [upC_ne e]
/-- one cue more -/
theorem inv_cue {nC nS : Nat} {len : Nat → Int32} {sz : Nat → Nat → Nat} {ff : Nat → Nat → Nat → Int32} {nc ck : Nat → Nat} {bf : Nat → Int32} {pt : Nat → Nat → Int32} (h : Inv nC len sz ff nc bf nS ck pt) {c0 n : Nat} (hc : c0 < nC) (hn : n ≤ 8) : Inv nC len sz ff (upC nc c0 n) bf nS ck pt := by
  obtain ⟨h1, h2, h3, h4, h5, h6, h7⟩ := h
  refine ⟨h1, h2, h3, fun c hc' => ?_, h5, h6, fun c hc' => ⟨?_, (h7 c hc').2⟩⟩
  · by_cases e : c = c0
    · rw [e, upC_at]; exact hn
    · rw [upC_ne e]; exact h4 c hc'
  · rw [upC_ne (by omega)]; exact (h7 c hc').1
theorem mrq_cue {qs : Nat → Int32} {nc : Nat → Nat} (h : MRq qs nc) {c0 n : Nat} : MRq (upd qs c0 (nI n)) (upC nc c0 n) := by
  intro c hc
  by_cases e : c = c0
  · rw [e, upC_at, upd_at]
  · rw [upC_ne e, upd_ne e]; exact h c hc
/-- a new clip -/
theorem inv_addClip {nC nS : Nat} {len : Nat → Int32} {sz : Nat → Nat → Nat} {ff : Nat → Nat → Nat → Int32} {nc ck : Nat → Nat} {bf : Nat → Int32} {pt : Nat → Nat → Int32} (h : Inv nC len sz ff nc bf nS ck pt) {x : Int32} (hC : nC < 6) (hx : lOK x) : Inv (nC + 1) (upC len nC x) (upC sz nC (fun _ => 0)) (upC ff nC (fun _ _ => 0)) (upC nc nC 0) bf nS ck pt := by
  obtain ⟨h1, h2, h3, h4, h5, h6, h7⟩ := h
  refine ⟨⟨by omega, h1.2⟩, fun c hc => ?_, fun c hc i hi => ?_, fun c hc => ?_, h5, fun i hi => ⟨by have := (h6 i hi).1; omega, (h6 i hi).2.1, ?_⟩, fun c hc => ⟨?_, fun i => ?_⟩⟩
  · by_cases e : c = nC
    · rw [e, upC_at]; exact hx
    · rw [upC_ne e]; exact h2 c (by omega)
  · by_cases e : c = nC
    · rw [e, upC_at, upC_at, upC_at]
      exact ⟨Nat.zero_le _, ⟨fun k hk => absurd hk (Nat.not_lt_zero _), fun i j _ hj => absurd hj (Nat.not_lt_zero _)⟩, fun k hk => absurd hk (Nat.not_lt_zero _), fun _ => by show -10000 ≤ (0 : Int32).toInt ∧ (0 : Int32).toInt ≤ 10000; decide⟩
    · rw [upC_ne e, upC_ne e, upC_ne e]; exact h3 c (by omega) i hi
  · by_cases e : c = nC
    · rw [e, upC_at]; omega
    · rw [upC_ne e]; exact h4 c (by omega)
  · rw [upC_ne (by have := (h6 i hi).1; omega)]; exact (h6 i hi).2.2
  · rw [upC_ne (by omega)]; exact (h7 c (by omega)).1
  · rw [upC_ne (by omega)]; exact (h7 c (by omega)).2 i
theorem mr_addClip {nC nS : Nat} {len : Nat → Int32} {sz : Nat → Nat → Nat} {ff : Nat → Nat → Nat → Int32} {nc ck : Nat → Nat} {ct cn : Nat → Nat → Int32} {bf : Nat → Int32} {pt : Nat → Nat → Int32} {bs ln ks tm wo ea qs qt qn pa : Nat → Int32} (hI : Inv nC len sz ff nc bf nS ck pt) (h : MR nC len sz ff nc ct cn bf nS pt bs ln ks tm wo ea qs qt qn pa) {x : Int32} : MR (nC + 1) (upC len nC x) (upC sz nC (fun _ => 0)) (upC ff nC (fun _ _ => 0)) (upC nc nC 0) (upC ct nC (fun _ => 0)) (upC cn nC (fun _ => 0)) bf nS pt bs (upd ln nC x) ks tm wo ea qs qt qn pa := by
  obtain ⟨m1, m2, m3, m4, m5, m6, m7, m8, m9, m10⟩ := h
  have h7 := hI.2.2.2.2.2.2 nC (Nat.le_refl _)
  have t : ∀ (w : Nat) (tm : Nat → Int32), MRt nC sz ff w tm → MRt (nC + 1) (upC sz nC (fun _ => 0)) (upC ff nC (fun _ _ => 0)) w tm := by
    intro w tm hm c hc i hi k hk
    by_cases e : c = nC
    · rw [e, upC_at] at hk; exact absurd hk (Nat.not_lt_zero _)
    · rw [upC_ne e] at hk ⊢; exact hm c (by omega) i hi k hk
  have u : ∀ (ct : Nat → Nat → Int32) (qt : Nat → Int32), MRu nC nc ct qt → MRu (nC + 1) (upC nc nC 0) (upC ct nC (fun _ => 0)) qt := by
    intro ct qt hm c hc k hk
    by_cases e : c = nC
    · rw [e, upC_at] at hk; exact absurd hk (Nat.not_lt_zero _)
    · rw [upC_ne e] at hk ⊢; exact hm c (by omega) k hk
  refine ⟨m1, fun c hc => ?_, fun c hc i hi => ?_, t _ _ m4, t _ _ m5, t _ _ m6, fun c hc => ?_, u _ _ m8, u _ _ m9, m10⟩
  · by_cases e : c = nC
    · rw [e, upC_at, upd_at]
    · rw [upC_ne e, upd_ne e]; exact m2 c (by omega)
  · rw [m3 c hc i hi]
    by_cases e : c = nC
    · rw [e, upC_at, h7.2 i]
    · rw [upC_ne e]
  · rw [m7 c hc]
    by_cases e : c = nC
    · rw [e, upC_at, h7.1]
    · rw [upC_ne e]
/-- a strip's parts anew -/
theorem inv_strip {nC nS : Nat} {len : Nat → Int32} {sz : Nat → Nat → Nat} {ff : Nat → Nat → Nat → Int32} {nc ck : Nat → Nat} {bf : Nat → Int32} {pt : Nat → Nat → Int32} (h : Inv nC len sz ff nc bf nS ck pt) {s0 : Nat} {p' : Nat → Int32} (h0 : p' 0 = pt s0 0) (hp : sOK (len (ck s0)) p') : Inv nC len sz ff nc bf nS ck (upC pt s0 p') := by
  obtain ⟨h1, h2, h3, h4, h5, h6, h7⟩ := h
  refine ⟨h1, h2, h3, h4, h5, fun i hi => ⟨(h6 i hi).1, ?_, ?_⟩, h7⟩
  · by_cases e : i = s0
    · rw [e, upC_at, h0, ← e]; exact (h6 i hi).2.1
    · rw [upC_ne e]; exact (h6 i hi).2.1
  · by_cases e : i = s0
    · rw [e, upC_at]; exact hp
    · rw [upC_ne e]; exact (h6 i hi).2.2
theorem mrp_strip {nS : Nat} {pt : Nat → Nat → Int32} {pa pa' : Nat → Int32} (h : MRp nS pt pa) {s0 : Nat} {p' : Nat → Int32} (ha : ∀ w, w < 13 → ¬ w = 2 → pa' (13 * s0 + w) = p' w) (ho : ∀ x, ¬ (13 * s0 ≤ x ∧ x < 13 * s0 + 13) → pa' x = pa x) : MRp nS (upC pt s0 p') pa' := by
  intro i hi w hw h2
  by_cases e : i = s0
  · rw [e, upC_at]; exact ha w hw h2
  · rw [upC_ne e, ho _ (by omega)]; exact h i hi w hw h2
theorem upd_out {f : Nat → Int32} {s0 k y : Nat} {x : Int32} (hk : k < 13) (hy : ¬ (13 * s0 ≤ y ∧ y < 13 * s0 + 13)) : upd f (13 * s0 + k) x y = f y := if_neg (by omega)
